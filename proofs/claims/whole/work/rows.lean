section
-- ===== PART A: goes FIRST, ahead of the names: the tables' words, and 'selects' of the private methods out of them =====
/-- a private method of a class that the tables say can be made, by its rows of tables_1 -/
def lw_okq (q : MethodName × Nat) : Prop := (q.1.cls ≠ "java/lang/invoke/MethodHandle" ∧ q.1.cls ≠ "java/lang/invoke/VarHandle") ∧ Cond.instantiable q.1.cls q.2 ∈ tables_1 ∧ Cond.privateMethod q.1 ∈ tables_1 ∧ Cond.instanceMethod q.1 ∈ tables_1
theorem lw_p0 : lw_okq (⟨"MovingMarket", "finding", "(I)I"⟩, 10) := ⟨⟨by decide +kernel, by decide +kernel⟩, List.mem_of_getElem? (i := 15) (by decide +kernel), List.mem_of_getElem? (i := 185) (by decide +kernel), List.mem_of_getElem? (i := 186) (by decide +kernel)⟩
theorem lw_p1 : lw_okq (⟨"MovingMarket", "isStall", "(I)Z"⟩, 10) := ⟨⟨by decide +kernel, by decide +kernel⟩, List.mem_of_getElem? (i := 15) (by decide +kernel), List.mem_of_getElem? (i := 217) (by decide +kernel), List.mem_of_getElem? (i := 218) (by decide +kernel)⟩
theorem lw_p2 : lw_okq (⟨"MovingMarket$Square", "twofoldVisits", "(I)I"⟩, 12) := ⟨⟨by decide +kernel, by decide +kernel⟩, List.mem_of_getElem? (i := 23) (by decide +kernel), List.mem_of_getElem? (i := 251) (by decide +kernel), List.mem_of_getElem? (i := 252) (by decide +kernel)⟩
theorem lw_p3 : lw_okq (⟨"MovingMarket", "aheadFinding", "(ZIII)I"⟩, 10) := ⟨⟨by decide +kernel, by decide +kernel⟩, List.mem_of_getElem? (i := 15) (by decide +kernel), List.mem_of_getElem? (i := 263) (by decide +kernel), List.mem_of_getElem? (i := 264) (by decide +kernel)⟩
theorem lw_p4 : lw_okq (⟨"MovingMarket$Square", "strike", "()V"⟩, 12) := ⟨⟨by decide +kernel, by decide +kernel⟩, List.mem_of_getElem? (i := 23) (by decide +kernel), List.mem_of_getElem? (i := 284) (by decide +kernel), List.mem_of_getElem? (i := 285) (by decide +kernel)⟩
theorem lw_p5 : lw_okq (⟨"MovingMarket", "orderFinding", "(ZII)I"⟩, 10) := ⟨⟨by decide +kernel, by decide +kernel⟩, List.mem_of_getElem? (i := 15) (by decide +kernel), List.mem_of_getElem? (i := 361) (by decide +kernel), List.mem_of_getElem? (i := 362) (by decide +kernel)⟩
theorem lw_p6 : lw_okq (⟨"MovingMarket", "searchMost", "(I)I"⟩, 10) := ⟨⟨by decide +kernel, by decide +kernel⟩, List.mem_of_getElem? (i := 15) (by decide +kernel), List.mem_of_getElem? (i := 365) (by decide +kernel), List.mem_of_getElem? (i := 366) (by decide +kernel)⟩
theorem lw_p7 : lw_okq (⟨"MovingMarket", "tryOrder", "()V"⟩, 10) := ⟨⟨by decide +kernel, by decide +kernel⟩, List.mem_of_getElem? (i := 15) (by decide +kernel), List.mem_of_getElem? (i := 373) (by decide +kernel), List.mem_of_getElem? (i := 374) (by decide +kernel)⟩
theorem lw_p8 : lw_okq (⟨"MovingMarket$Order", "exchangeTaken", "(II)V"⟩, 2) := ⟨⟨by decide +kernel, by decide +kernel⟩, List.mem_of_getElem? (i := 87) (by decide +kernel), List.mem_of_getElem? (i := 386) (by decide +kernel), List.mem_of_getElem? (i := 387) (by decide +kernel)⟩
theorem lw_p9 : lw_okq (⟨"MovingMarket", "swapAhead", "(III)V"⟩, 10) := ⟨⟨by decide +kernel, by decide +kernel⟩, List.mem_of_getElem? (i := 15) (by decide +kernel), List.mem_of_getElem? (i := 406) (by decide +kernel), List.mem_of_getElem? (i := 407) (by decide +kernel)⟩
theorem lw_p10 : lw_okq (⟨"MovingMarket", "isPair", "(II)Z"⟩, 10) := ⟨⟨by decide +kernel, by decide +kernel⟩, List.mem_of_getElem? (i := 15) (by decide +kernel), List.mem_of_getElem? (i := 438) (by decide +kernel), List.mem_of_getElem? (i := 439) (by decide +kernel)⟩
theorem lw_p11 : lw_okq (⟨"MovingMarket", "firstBeside", "(III)I"⟩, 10) := ⟨⟨by decide +kernel, by decide +kernel⟩, List.mem_of_getElem? (i := 15) (by decide +kernel), List.mem_of_getElem? (i := 442) (by decide +kernel), List.mem_of_getElem? (i := 443) (by decide +kernel)⟩
theorem lw_p12 : lw_okq (⟨"MovingMarket", "coinFrom", "(III)I"⟩, 10) := ⟨⟨by decide +kernel, by decide +kernel⟩, List.mem_of_getElem? (i := 15) (by decide +kernel), List.mem_of_getElem? (i := 455) (by decide +kernel), List.mem_of_getElem? (i := 456) (by decide +kernel)⟩
theorem lw_p13 : lw_okq (⟨"MovingMarket$Tape", "readOn", "()V"⟩, 6) := ⟨⟨by decide +kernel, by decide +kernel⟩, List.mem_of_getElem? (i := 101) (by decide +kernel), List.mem_of_getElem? (i := 505) (by decide +kernel), List.mem_of_getElem? (i := 506) (by decide +kernel)⟩
theorem lw_p14 : lw_okq (⟨"MovingMarket$Tape", "isBetween", "(ICC)Z"⟩, 6) := ⟨⟨by decide +kernel, by decide +kernel⟩, List.mem_of_getElem? (i := 101) (by decide +kernel), List.mem_of_getElem? (i := 509) (by decide +kernel), List.mem_of_getElem? (i := 510) (by decide +kernel)⟩
theorem lw_p15 : lw_okq (⟨"MovingMarket$Tape", "readRun", "(CC)V"⟩, 6) := ⟨⟨by decide +kernel, by decide +kernel⟩, List.mem_of_getElem? (i := 101) (by decide +kernel), List.mem_of_getElem? (i := 513) (by decide +kernel), List.mem_of_getElem? (i := 514) (by decide +kernel)⟩
def lw_privs_1 : List (MethodName × Nat) := [(⟨"MovingMarket", "finding", "(I)I"⟩, 10), (⟨"MovingMarket", "isStall", "(I)Z"⟩, 10), (⟨"MovingMarket$Square", "twofoldVisits", "(I)I"⟩, 12), (⟨"MovingMarket", "aheadFinding", "(ZIII)I"⟩, 10), (⟨"MovingMarket$Square", "strike", "()V"⟩, 12), (⟨"MovingMarket", "orderFinding", "(ZII)I"⟩, 10), (⟨"MovingMarket", "searchMost", "(I)I"⟩, 10), (⟨"MovingMarket", "tryOrder", "()V"⟩, 10), (⟨"MovingMarket$Order", "exchangeTaken", "(II)V"⟩, 2), (⟨"MovingMarket", "swapAhead", "(III)V"⟩, 10), (⟨"MovingMarket", "isPair", "(II)Z"⟩, 10), (⟨"MovingMarket", "firstBeside", "(III)I"⟩, 10), (⟨"MovingMarket", "coinFrom", "(III)I"⟩, 10), (⟨"MovingMarket$Tape", "readOn", "()V"⟩, 6), (⟨"MovingMarket$Tape", "isBetween", "(ICC)Z"⟩, 6), (⟨"MovingMarket$Tape", "readRun", "(CC)V"⟩, 6)]
theorem lw_r1 : ∀ q ∈ lw_privs_1, lw_okq q := List.forall_mem_cons.mpr ⟨lw_p0, List.forall_mem_cons.mpr ⟨lw_p1, List.forall_mem_cons.mpr ⟨lw_p2, List.forall_mem_cons.mpr ⟨lw_p3, List.forall_mem_cons.mpr ⟨lw_p4, List.forall_mem_cons.mpr ⟨lw_p5, List.forall_mem_cons.mpr ⟨lw_p6, List.forall_mem_cons.mpr ⟨lw_p7, List.forall_mem_cons.mpr ⟨lw_p8, List.forall_mem_cons.mpr ⟨lw_p9, List.forall_mem_cons.mpr ⟨lw_p10, List.forall_mem_cons.mpr ⟨lw_p11, List.forall_mem_cons.mpr ⟨lw_p12, List.forall_mem_cons.mpr ⟨lw_p13, List.forall_mem_cons.mpr ⟨lw_p14, List.forall_mem_cons.mpr ⟨lw_p15, fun _ h => absurd h List.not_mem_nil⟩⟩⟩⟩⟩⟩⟩⟩⟩⟩⟩⟩⟩⟩⟩⟩
theorem lw_p16 : lw_okq (⟨"MovingMarket$Tape", "valueOfRun", "()I"⟩, 6) := ⟨⟨by decide +kernel, by decide +kernel⟩, List.mem_of_getElem? (i := 101) (by decide +kernel), List.mem_of_getElem? (i := 517) (by decide +kernel), List.mem_of_getElem? (i := 518) (by decide +kernel)⟩
theorem lw_p17 : lw_okq (⟨"MovingMarket$Tape", "readItem", "(LMovingMarket$Square;)Z"⟩, 6) := ⟨⟨by decide +kernel, by decide +kernel⟩, List.mem_of_getElem? (i := 101) (by decide +kernel), List.mem_of_getElem? (i := 521) (by decide +kernel), List.mem_of_getElem? (i := 522) (by decide +kernel)⟩
theorem lw_p18 : lw_okq (⟨"MovingMarket$Tape", "kindOfWord", "()I"⟩, 6) := ⟨⟨by decide +kernel, by decide +kernel⟩, List.mem_of_getElem? (i := 101) (by decide +kernel), List.mem_of_getElem? (i := 525) (by decide +kernel), List.mem_of_getElem? (i := 526) (by decide +kernel)⟩
theorem lw_p19 : lw_okq (⟨"MovingMarket$Tape", "isWord", "(Ljava/lang/String;)Z"⟩, 6) := ⟨⟨by decide +kernel, by decide +kernel⟩, List.mem_of_getElem? (i := 101) (by decide +kernel), List.mem_of_getElem? (i := 539) (by decide +kernel), List.mem_of_getElem? (i := 540) (by decide +kernel)⟩
theorem lw_p20 : lw_okq (⟨"MovingMarket$Tape", "readStall", "(LMovingMarket$Square;I)Z"⟩, 6) := ⟨⟨by decide +kernel, by decide +kernel⟩, List.mem_of_getElem? (i := 101) (by decide +kernel), List.mem_of_getElem? (i := 591) (by decide +kernel), List.mem_of_getElem? (i := 592) (by decide +kernel)⟩
theorem lw_p21 : lw_okq (⟨"MovingMarket$Tape", "isNumber", "(II)Z"⟩, 6) := ⟨⟨by decide +kernel, by decide +kernel⟩, List.mem_of_getElem? (i := 101) (by decide +kernel), List.mem_of_getElem? (i := 596) (by decide +kernel), List.mem_of_getElem? (i := 597) (by decide +kernel)⟩
theorem lw_p22 : lw_okq (⟨"MovingMarket$Tape", "readVisits", "(LMovingMarket$Square;)Z"⟩, 6) := ⟨⟨by decide +kernel, by decide +kernel⟩, List.mem_of_getElem? (i := 101) (by decide +kernel), List.mem_of_getElem? (i := 604) (by decide +kernel), List.mem_of_getElem? (i := 605) (by decide +kernel)⟩
theorem lw_p23 : lw_okq (⟨"MovingMarket$Tape", "readShade", "(LMovingMarket$Square;I)Z"⟩, 6) := ⟨⟨by decide +kernel, by decide +kernel⟩, List.mem_of_getElem? (i := 101) (by decide +kernel), List.mem_of_getElem? (i := 611) (by decide +kernel), List.mem_of_getElem? (i := 612) (by decide +kernel)⟩
theorem lw_p24 : lw_okq (⟨"MovingMarket$Tape", "readSpring", "(LMovingMarket$Square;)Z"⟩, 6) := ⟨⟨by decide +kernel, by decide +kernel⟩, List.mem_of_getElem? (i := 101) (by decide +kernel), List.mem_of_getElem? (i := 617) (by decide +kernel), List.mem_of_getElem? (i := 618) (by decide +kernel)⟩
theorem lw_p25 : lw_okq (⟨"MovingMarket", "sheetFinding", "(I)I"⟩, 10) := ⟨⟨by decide +kernel, by decide +kernel⟩, List.mem_of_getElem? (i := 15) (by decide +kernel), List.mem_of_getElem? (i := 655) (by decide +kernel), List.mem_of_getElem? (i := 656) (by decide +kernel)⟩
theorem lw_p26 : lw_okq (⟨"MovingMarket", "lastWordHour", "(LMovingMarket$Sheet;)I"⟩, 10) := ⟨⟨by decide +kernel, by decide +kernel⟩, List.mem_of_getElem? (i := 15) (by decide +kernel), List.mem_of_getElem? (i := 680) (by decide +kernel), List.mem_of_getElem? (i := 681) (by decide +kernel)⟩
theorem lw_p27 : lw_okq (⟨"MovingMarket", "wordsAreSo", "(LMovingMarket$Sheet;I)Z"⟩, 10) := ⟨⟨by decide +kernel, by decide +kernel⟩, List.mem_of_getElem? (i := 15) (by decide +kernel), List.mem_of_getElem? (i := 687) (by decide +kernel), List.mem_of_getElem? (i := 688) (by decide +kernel)⟩
theorem lw_p28 : lw_okq (⟨"MovingMarketModel", "finds", "(I)I"⟩, 17) := ⟨⟨by decide +kernel, by decide +kernel⟩, List.mem_of_getElem? (i := 727) (by decide +kernel), List.mem_of_getElem? (i := 798) (by decide +kernel), List.mem_of_getElem? (i := 799) (by decide +kernel)⟩
theorem lw_p29 : lw_okq (⟨"MovingMarketModel", "stallAt", "(I)I"⟩, 17) := ⟨⟨by decide +kernel, by decide +kernel⟩, List.mem_of_getElem? (i := 727) (by decide +kernel), List.mem_of_getElem? (i := 815) (by decide +kernel), List.mem_of_getElem? (i := 816) (by decide +kernel)⟩
theorem lw_p30 : lw_okq (⟨"MovingMarketModel", "its", "(II)I"⟩, 17) := ⟨⟨by decide +kernel, by decide +kernel⟩, List.mem_of_getElem? (i := 727) (by decide +kernel), List.mem_of_getElem? (i := 819) (by decide +kernel), List.mem_of_getElem? (i := 820) (by decide +kernel)⟩
theorem lw_p31 : lw_okq (⟨"MovingMarketModel", "newStall", "(III)I"⟩, 17) := ⟨⟨by decide +kernel, by decide +kernel⟩, List.mem_of_getElem? (i := 727) (by decide +kernel), List.mem_of_getElem? (i := 828) (by decide +kernel), List.mem_of_getElem? (i := 829) (by decide +kernel)⟩
def lw_privs_2 : List (MethodName × Nat) := [(⟨"MovingMarket$Tape", "valueOfRun", "()I"⟩, 6), (⟨"MovingMarket$Tape", "readItem", "(LMovingMarket$Square;)Z"⟩, 6), (⟨"MovingMarket$Tape", "kindOfWord", "()I"⟩, 6), (⟨"MovingMarket$Tape", "isWord", "(Ljava/lang/String;)Z"⟩, 6), (⟨"MovingMarket$Tape", "readStall", "(LMovingMarket$Square;I)Z"⟩, 6), (⟨"MovingMarket$Tape", "isNumber", "(II)Z"⟩, 6), (⟨"MovingMarket$Tape", "readVisits", "(LMovingMarket$Square;)Z"⟩, 6), (⟨"MovingMarket$Tape", "readShade", "(LMovingMarket$Square;I)Z"⟩, 6), (⟨"MovingMarket$Tape", "readSpring", "(LMovingMarket$Square;)Z"⟩, 6), (⟨"MovingMarket", "sheetFinding", "(I)I"⟩, 10), (⟨"MovingMarket", "lastWordHour", "(LMovingMarket$Sheet;)I"⟩, 10), (⟨"MovingMarket", "wordsAreSo", "(LMovingMarket$Sheet;I)Z"⟩, 10), (⟨"MovingMarketModel", "finds", "(I)I"⟩, 17), (⟨"MovingMarketModel", "stallAt", "(I)I"⟩, 17), (⟨"MovingMarketModel", "its", "(II)I"⟩, 17), (⟨"MovingMarketModel", "newStall", "(III)I"⟩, 17)]
theorem lw_r2 : ∀ q ∈ lw_privs_2, lw_okq q := List.forall_mem_cons.mpr ⟨lw_p16, List.forall_mem_cons.mpr ⟨lw_p17, List.forall_mem_cons.mpr ⟨lw_p18, List.forall_mem_cons.mpr ⟨lw_p19, List.forall_mem_cons.mpr ⟨lw_p20, List.forall_mem_cons.mpr ⟨lw_p21, List.forall_mem_cons.mpr ⟨lw_p22, List.forall_mem_cons.mpr ⟨lw_p23, List.forall_mem_cons.mpr ⟨lw_p24, List.forall_mem_cons.mpr ⟨lw_p25, List.forall_mem_cons.mpr ⟨lw_p26, List.forall_mem_cons.mpr ⟨lw_p27, List.forall_mem_cons.mpr ⟨lw_p28, List.forall_mem_cons.mpr ⟨lw_p29, List.forall_mem_cons.mpr ⟨lw_p30, List.forall_mem_cons.mpr ⟨lw_p31, fun _ h => absurd h List.not_mem_nil⟩⟩⟩⟩⟩⟩⟩⟩⟩⟩⟩⟩⟩⟩⟩⟩
theorem lw_p32 : lw_okq (⟨"MovingMarketModel", "isStall", "(I)Z"⟩, 17) := ⟨⟨by decide +kernel, by decide +kernel⟩, List.mem_of_getElem? (i := 727) (by decide +kernel), List.mem_of_getElem? (i := 836) (by decide +kernel), List.mem_of_getElem? (i := 837) (by decide +kernel)⟩
theorem lw_p33 : lw_okq (⟨"MovingMarketModel", "price", "(I)I"⟩, 17) := ⟨⟨by decide +kernel, by decide +kernel⟩, List.mem_of_getElem? (i := 727) (by decide +kernel), List.mem_of_getElem? (i := 840) (by decide +kernel), List.mem_of_getElem? (i := 841) (by decide +kernel)⟩
theorem lw_p34 : lw_okq (⟨"MovingMarketModel", "isGoing", "(I)Z"⟩, 17) := ⟨⟨by decide +kernel, by decide +kernel⟩, List.mem_of_getElem? (i := 727) (by decide +kernel), List.mem_of_getElem? (i := 844) (by decide +kernel), List.mem_of_getElem? (i := 845) (by decide +kernel)⟩
theorem lw_p35 : lw_okq (⟨"MovingMarketModel", "swaps", "(II)V"⟩, 17) := ⟨⟨by decide +kernel, by decide +kernel⟩, List.mem_of_getElem? (i := 727) (by decide +kernel), List.mem_of_getElem? (i := 857) (by decide +kernel), List.mem_of_getElem? (i := 858) (by decide +kernel)⟩
theorem lw_p36 : lw_okq (⟨"MovingMarketModel", "offer", "(II)I"⟩, 17) := ⟨⟨by decide +kernel, by decide +kernel⟩, List.mem_of_getElem? (i := 727) (by decide +kernel), List.mem_of_getElem? (i := 865) (by decide +kernel), List.mem_of_getElem? (i := 866) (by decide +kernel)⟩
theorem lw_p37 : lw_okq (⟨"MovingMarketModel", "isTooLate", "(I)Z"⟩, 17) := ⟨⟨by decide +kernel, by decide +kernel⟩, List.mem_of_getElem? (i := 727) (by decide +kernel), List.mem_of_getElem? (i := 879) (by decide +kernel), List.mem_of_getElem? (i := 880) (by decide +kernel)⟩
theorem lw_p38 : lw_okq (⟨"MovingMarketModel", "hoursGo", "(I)I"⟩, 17) := ⟨⟨by decide +kernel, by decide +kernel⟩, List.mem_of_getElem? (i := 727) (by decide +kernel), List.mem_of_getElem? (i := 883) (by decide +kernel), List.mem_of_getElem? (i := 884) (by decide +kernel)⟩
theorem lw_p39 : lw_okq (⟨"MovingMarketModel", "hour", "()I"⟩, 17) := ⟨⟨by decide +kernel, by decide +kernel⟩, List.mem_of_getElem? (i := 727) (by decide +kernel), List.mem_of_getElem? (i := 887) (by decide +kernel), List.mem_of_getElem? (i := 888) (by decide +kernel)⟩
theorem lw_p40 : lw_okq (⟨"MovingMarketModel", "sells", "(I)I"⟩, 17) := ⟨⟨by decide +kernel, by decide +kernel⟩, List.mem_of_getElem? (i := 727) (by decide +kernel), List.mem_of_getElem? (i := 891) (by decide +kernel), List.mem_of_getElem? (i := 892) (by decide +kernel)⟩
theorem lw_p41 : lw_okq (⟨"MovingMarketModel", "staying", "(Z)I"⟩, 17) := ⟨⟨by decide +kernel, by decide +kernel⟩, List.mem_of_getElem? (i := 727) (by decide +kernel), List.mem_of_getElem? (i := 895) (by decide +kernel), List.mem_of_getElem? (i := 896) (by decide +kernel)⟩
theorem lw_p42 : lw_okq (⟨"MovingMarketModel", "placesOf", "(I)I"⟩, 17) := ⟨⟨by decide +kernel, by decide +kernel⟩, List.mem_of_getElem? (i := 727) (by decide +kernel), List.mem_of_getElem? (i := 899) (by decide +kernel), List.mem_of_getElem? (i := 900) (by decide +kernel)⟩
theorem lw_p43 : lw_okq (⟨"MovingMarketModel", "saves", "()V"⟩, 17) := ⟨⟨by decide +kernel, by decide +kernel⟩, List.mem_of_getElem? (i := 727) (by decide +kernel), List.mem_of_getElem? (i := 921) (by decide +kernel), List.mem_of_getElem? (i := 922) (by decide +kernel)⟩
theorem lw_p44 : lw_okq (⟨"MovingMarketModel", "emptySet", "()I"⟩, 17) := ⟨⟨by decide +kernel, by decide +kernel⟩, List.mem_of_getElem? (i := 727) (by decide +kernel), List.mem_of_getElem? (i := 925) (by decide +kernel), List.mem_of_getElem? (i := 926) (by decide +kernel)⟩
theorem lw_p45 : lw_okq (⟨"MovingMarketModel", "everyPlace", "()I"⟩, 17) := ⟨⟨by decide +kernel, by decide +kernel⟩, List.mem_of_getElem? (i := 727) (by decide +kernel), List.mem_of_getElem? (i := 929) (by decide +kernel), List.mem_of_getElem? (i := 930) (by decide +kernel)⟩
theorem lw_p46 : lw_okq (⟨"MovingMarketModel", "sumOf", "(I)I"⟩, 17) := ⟨⟨by decide +kernel, by decide +kernel⟩, List.mem_of_getElem? (i := 727) (by decide +kernel), List.mem_of_getElem? (i := 933) (by decide +kernel), List.mem_of_getElem? (i := 934) (by decide +kernel)⟩
theorem lw_p47 : lw_okq (⟨"MovingMarketModel", "putsBack", "()V"⟩, 17) := ⟨⟨by decide +kernel, by decide +kernel⟩, List.mem_of_getElem? (i := 727) (by decide +kernel), List.mem_of_getElem? (i := 937) (by decide +kernel), List.mem_of_getElem? (i := 938) (by decide +kernel)⟩
def lw_privs_3 : List (MethodName × Nat) := [(⟨"MovingMarketModel", "isStall", "(I)Z"⟩, 17), (⟨"MovingMarketModel", "price", "(I)I"⟩, 17), (⟨"MovingMarketModel", "isGoing", "(I)Z"⟩, 17), (⟨"MovingMarketModel", "swaps", "(II)V"⟩, 17), (⟨"MovingMarketModel", "offer", "(II)I"⟩, 17), (⟨"MovingMarketModel", "isTooLate", "(I)Z"⟩, 17), (⟨"MovingMarketModel", "hoursGo", "(I)I"⟩, 17), (⟨"MovingMarketModel", "hour", "()I"⟩, 17), (⟨"MovingMarketModel", "sells", "(I)I"⟩, 17), (⟨"MovingMarketModel", "staying", "(Z)I"⟩, 17), (⟨"MovingMarketModel", "placesOf", "(I)I"⟩, 17), (⟨"MovingMarketModel", "saves", "()V"⟩, 17), (⟨"MovingMarketModel", "emptySet", "()I"⟩, 17), (⟨"MovingMarketModel", "everyPlace", "()I"⟩, 17), (⟨"MovingMarketModel", "sumOf", "(I)I"⟩, 17), (⟨"MovingMarketModel", "putsBack", "()V"⟩, 17)]
theorem lw_r3 : ∀ q ∈ lw_privs_3, lw_okq q := List.forall_mem_cons.mpr ⟨lw_p32, List.forall_mem_cons.mpr ⟨lw_p33, List.forall_mem_cons.mpr ⟨lw_p34, List.forall_mem_cons.mpr ⟨lw_p35, List.forall_mem_cons.mpr ⟨lw_p36, List.forall_mem_cons.mpr ⟨lw_p37, List.forall_mem_cons.mpr ⟨lw_p38, List.forall_mem_cons.mpr ⟨lw_p39, List.forall_mem_cons.mpr ⟨lw_p40, List.forall_mem_cons.mpr ⟨lw_p41, List.forall_mem_cons.mpr ⟨lw_p42, List.forall_mem_cons.mpr ⟨lw_p43, List.forall_mem_cons.mpr ⟨lw_p44, List.forall_mem_cons.mpr ⟨lw_p45, List.forall_mem_cons.mpr ⟨lw_p46, List.forall_mem_cons.mpr ⟨lw_p47, fun _ h => absurd h List.not_mem_nil⟩⟩⟩⟩⟩⟩⟩⟩⟩⟩⟩⟩⟩⟩⟩⟩
theorem lw_p48 : lw_okq (⟨"MovingMarketModel", "orderWrong", "(I)I"⟩, 17) := ⟨⟨by decide +kernel, by decide +kernel⟩, List.mem_of_getElem? (i := 727) (by decide +kernel), List.mem_of_getElem? (i := 967) (by decide +kernel), List.mem_of_getElem? (i := 968) (by decide +kernel)⟩
theorem lw_p49 : lw_okq (⟨"MovingMarketModel", "bestOrder", "(II)I"⟩, 17) := ⟨⟨by decide +kernel, by decide +kernel⟩, List.mem_of_getElem? (i := 727) (by decide +kernel), List.mem_of_getElem? (i := 972) (by decide +kernel), List.mem_of_getElem? (i := 973) (by decide +kernel)⟩
theorem lw_p50 : lw_okq (⟨"MovingMarketModel", "firstOrder", "()V"⟩, 17) := ⟨⟨by decide +kernel, by decide +kernel⟩, List.mem_of_getElem? (i := 727) (by decide +kernel), List.mem_of_getElem? (i := 976) (by decide +kernel), List.mem_of_getElem? (i := 977) (by decide +kernel)⟩
theorem lw_p51 : lw_okq (⟨"MovingMarketModel", "lays", "()V"⟩, 17) := ⟨⟨by decide +kernel, by decide +kernel⟩, List.mem_of_getElem? (i := 727) (by decide +kernel), List.mem_of_getElem? (i := 980) (by decide +kernel), List.mem_of_getElem? (i := 981) (by decide +kernel)⟩
theorem lw_p52 : lw_okq (⟨"MovingMarketModel", "nextOrder", "()Z"⟩, 17) := ⟨⟨by decide +kernel, by decide +kernel⟩, List.mem_of_getElem? (i := 727) (by decide +kernel), List.mem_of_getElem? (i := 984) (by decide +kernel), List.mem_of_getElem? (i := 985) (by decide +kernel)⟩
theorem lw_p53 : lw_okq (⟨"MovingMarketModel", "coinOf", "(II)I"⟩, 17) := ⟨⟨by decide +kernel, by decide +kernel⟩, List.mem_of_getElem? (i := 727) (by decide +kernel), List.mem_of_getElem? (i := 1003) (by decide +kernel), List.mem_of_getElem? (i := 1004) (by decide +kernel)⟩
theorem lw_p54 : lw_okq (⟨"MovingMarketModel", "besideSet", "(I)I"⟩, 17) := ⟨⟨by decide +kernel, by decide +kernel⟩, List.mem_of_getElem? (i := 727) (by decide +kernel), List.mem_of_getElem? (i := 1019) (by decide +kernel), List.mem_of_getElem? (i := 1020) (by decide +kernel)⟩
theorem lw_p55 : lw_okq (⟨"MovingMarketModel", "isBeside", "(II)Z"⟩, 17) := ⟨⟨by decide +kernel, by decide +kernel⟩, List.mem_of_getElem? (i := 727) (by decide +kernel), List.mem_of_getElem? (i := 1023) (by decide +kernel), List.mem_of_getElem? (i := 1024) (by decide +kernel)⟩
theorem lw_p56 : lw_okq (⟨"MovingMarketModel", "isTwo", "(II)Z"⟩, 17) := ⟨⟨by decide +kernel, by decide +kernel⟩, List.mem_of_getElem? (i := 727) (by decide +kernel), List.mem_of_getElem? (i := 1035) (by decide +kernel), List.mem_of_getElem? (i := 1036) (by decide +kernel)⟩
theorem lw_p57 : lw_okq (⟨"MovingMarketModel", "worthOf", "(III)I"⟩, 17) := ⟨⟨by decide +kernel, by decide +kernel⟩, List.mem_of_getElem? (i := 727) (by decide +kernel), List.mem_of_getElem? (i := 1047) (by decide +kernel), List.mem_of_getElem? (i := 1048) (by decide +kernel)⟩
theorem lw_p58 : lw_okq (⟨"MovingMarketModel", "draw", "()I"⟩, 17) := ⟨⟨by decide +kernel, by decide +kernel⟩, List.mem_of_getElem? (i := 727) (by decide +kernel), List.mem_of_getElem? (i := 1064) (by decide +kernel), List.mem_of_getElem? (i := 1065) (by decide +kernel)⟩
theorem lw_p59 : lw_okq (⟨"MovingMarketModel", "token", "()V"⟩, 17) := ⟨⟨by decide +kernel, by decide +kernel⟩, List.mem_of_getElem? (i := 727) (by decide +kernel), List.mem_of_getElem? (i := 1086) (by decide +kernel), List.mem_of_getElem? (i := 1087) (by decide +kernel)⟩
theorem lw_p60 : lw_okq (⟨"MovingMarketModel", "byteAt", "(I)I"⟩, 17) := ⟨⟨by decide +kernel, by decide +kernel⟩, List.mem_of_getElem? (i := 727) (by decide +kernel), List.mem_of_getElem? (i := 1090) (by decide +kernel), List.mem_of_getElem? (i := 1091) (by decide +kernel)⟩
theorem lw_p61 : lw_okq (⟨"MovingMarketModel", "item", "()V"⟩, 17) := ⟨⟨by decide +kernel, by decide +kernel⟩, List.mem_of_getElem? (i := 727) (by decide +kernel), List.mem_of_getElem? (i := 1103) (by decide +kernel), List.mem_of_getElem? (i := 1104) (by decide +kernel)⟩
theorem lw_p62 : lw_okq (⟨"MovingMarketModel", "kindHere", "()I"⟩, 17) := ⟨⟨by decide +kernel, by decide +kernel⟩, List.mem_of_getElem? (i := 727) (by decide +kernel), List.mem_of_getElem? (i := 1107) (by decide +kernel), List.mem_of_getElem? (i := 1108) (by decide +kernel)⟩
theorem lw_p63 : lw_okq (⟨"MovingMarketModel", "word", "()J"⟩, 17) := ⟨⟨by decide +kernel, by decide +kernel⟩, List.mem_of_getElem? (i := 727) (by decide +kernel), List.mem_of_getElem? (i := 1111) (by decide +kernel), List.mem_of_getElem? (i := 1112) (by decide +kernel)⟩
def lw_privs_4 : List (MethodName × Nat) := [(⟨"MovingMarketModel", "orderWrong", "(I)I"⟩, 17), (⟨"MovingMarketModel", "bestOrder", "(II)I"⟩, 17), (⟨"MovingMarketModel", "firstOrder", "()V"⟩, 17), (⟨"MovingMarketModel", "lays", "()V"⟩, 17), (⟨"MovingMarketModel", "nextOrder", "()Z"⟩, 17), (⟨"MovingMarketModel", "coinOf", "(II)I"⟩, 17), (⟨"MovingMarketModel", "besideSet", "(I)I"⟩, 17), (⟨"MovingMarketModel", "isBeside", "(II)Z"⟩, 17), (⟨"MovingMarketModel", "isTwo", "(II)Z"⟩, 17), (⟨"MovingMarketModel", "worthOf", "(III)I"⟩, 17), (⟨"MovingMarketModel", "draw", "()I"⟩, 17), (⟨"MovingMarketModel", "token", "()V"⟩, 17), (⟨"MovingMarketModel", "byteAt", "(I)I"⟩, 17), (⟨"MovingMarketModel", "item", "()V"⟩, 17), (⟨"MovingMarketModel", "kindHere", "()I"⟩, 17), (⟨"MovingMarketModel", "word", "()J"⟩, 17)]
theorem lw_r4 : ∀ q ∈ lw_privs_4, lw_okq q := List.forall_mem_cons.mpr ⟨lw_p48, List.forall_mem_cons.mpr ⟨lw_p49, List.forall_mem_cons.mpr ⟨lw_p50, List.forall_mem_cons.mpr ⟨lw_p51, List.forall_mem_cons.mpr ⟨lw_p52, List.forall_mem_cons.mpr ⟨lw_p53, List.forall_mem_cons.mpr ⟨lw_p54, List.forall_mem_cons.mpr ⟨lw_p55, List.forall_mem_cons.mpr ⟨lw_p56, List.forall_mem_cons.mpr ⟨lw_p57, List.forall_mem_cons.mpr ⟨lw_p58, List.forall_mem_cons.mpr ⟨lw_p59, List.forall_mem_cons.mpr ⟨lw_p60, List.forall_mem_cons.mpr ⟨lw_p61, List.forall_mem_cons.mpr ⟨lw_p62, List.forall_mem_cons.mpr ⟨lw_p63, fun _ h => absurd h List.not_mem_nil⟩⟩⟩⟩⟩⟩⟩⟩⟩⟩⟩⟩⟩⟩⟩⟩
theorem lw_p64 : lw_okq (⟨"MovingMarketModel", "stallItem", "(I)V"⟩, 17) := ⟨⟨by decide +kernel, by decide +kernel⟩, List.mem_of_getElem? (i := 727) (by decide +kernel), List.mem_of_getElem? (i := 1125) (by decide +kernel), List.mem_of_getElem? (i := 1126) (by decide +kernel)⟩
theorem lw_p65 : lw_okq (⟨"MovingMarketModel", "needs", "(Z)V"⟩, 17) := ⟨⟨by decide +kernel, by decide +kernel⟩, List.mem_of_getElem? (i := 727) (by decide +kernel), List.mem_of_getElem? (i := 1129) (by decide +kernel), List.mem_of_getElem? (i := 1130) (by decide +kernel)⟩
theorem lw_p66 : lw_okq (⟨"MovingMarketModel", "freePlace", "()V"⟩, 17) := ⟨⟨by decide +kernel, by decide +kernel⟩, List.mem_of_getElem? (i := 727) (by decide +kernel), List.mem_of_getElem? (i := 1134) (by decide +kernel), List.mem_of_getElem? (i := 1135) (by decide +kernel)⟩
theorem lw_p67 : lw_okq (⟨"MovingMarketModel", "perhaps", "(ZIII)I"⟩, 17) := ⟨⟨by decide +kernel, by decide +kernel⟩, List.mem_of_getElem? (i := 727) (by decide +kernel), List.mem_of_getElem? (i := 1139) (by decide +kernel), List.mem_of_getElem? (i := 1140) (by decide +kernel)⟩
theorem lw_p68 : lw_okq (⟨"MovingMarketModel", "number", "(II)V"⟩, 17) := ⟨⟨by decide +kernel, by decide +kernel⟩, List.mem_of_getElem? (i := 727) (by decide +kernel), List.mem_of_getElem? (i := 1143) (by decide +kernel), List.mem_of_getElem? (i := 1144) (by decide +kernel)⟩
theorem lw_p69 : lw_okq (⟨"MovingMarketModel", "visitsItem", "()V"⟩, 17) := ⟨⟨by decide +kernel, by decide +kernel⟩, List.mem_of_getElem? (i := 727) (by decide +kernel), List.mem_of_getElem? (i := 1148) (by decide +kernel), List.mem_of_getElem? (i := 1149) (by decide +kernel)⟩
theorem lw_p70 : lw_okq (⟨"MovingMarketModel", "wrong", "(I)I"⟩, 17) := ⟨⟨by decide +kernel, by decide +kernel⟩, List.mem_of_getElem? (i := 727) (by decide +kernel), List.mem_of_getElem? (i := 1179) (by decide +kernel), List.mem_of_getElem? (i := 1180) (by decide +kernel)⟩
theorem lw_p71 : lw_okq (⟨"MovingMarketModel", "isSo", "(II)Z"⟩, 17) := ⟨⟨by decide +kernel, by decide +kernel⟩, List.mem_of_getElem? (i := 727) (by decide +kernel), List.mem_of_getElem? (i := 1198) (by decide +kernel), List.mem_of_getElem? (i := 1199) (by decide +kernel)⟩
theorem lw_p72 : lw_okq (⟨"MovingMarketModel", "visitsOfAll", "()I"⟩, 17) := ⟨⟨by decide +kernel, by decide +kernel⟩, List.mem_of_getElem? (i := 727) (by decide +kernel), List.mem_of_getElem? (i := 1222) (by decide +kernel), List.mem_of_getElem? (i := 1223) (by decide +kernel)⟩
theorem lw_p73 : lw_okq (⟨"MovingMarketModel", "held", "()I"⟩, 17) := ⟨⟨by decide +kernel, by decide +kernel⟩, List.mem_of_getElem? (i := 727) (by decide +kernel), List.mem_of_getElem? (i := 1226) (by decide +kernel), List.mem_of_getElem? (i := 1227) (by decide +kernel)⟩
def lw_privs_5 : List (MethodName × Nat) := [(⟨"MovingMarketModel", "stallItem", "(I)V"⟩, 17), (⟨"MovingMarketModel", "needs", "(Z)V"⟩, 17), (⟨"MovingMarketModel", "freePlace", "()V"⟩, 17), (⟨"MovingMarketModel", "perhaps", "(ZIII)I"⟩, 17), (⟨"MovingMarketModel", "number", "(II)V"⟩, 17), (⟨"MovingMarketModel", "visitsItem", "()V"⟩, 17), (⟨"MovingMarketModel", "wrong", "(I)I"⟩, 17), (⟨"MovingMarketModel", "isSo", "(II)Z"⟩, 17), (⟨"MovingMarketModel", "visitsOfAll", "()I"⟩, 17), (⟨"MovingMarketModel", "held", "()I"⟩, 17)]
theorem lw_r5 : ∀ q ∈ lw_privs_5, lw_okq q := List.forall_mem_cons.mpr ⟨lw_p64, List.forall_mem_cons.mpr ⟨lw_p65, List.forall_mem_cons.mpr ⟨lw_p66, List.forall_mem_cons.mpr ⟨lw_p67, List.forall_mem_cons.mpr ⟨lw_p68, List.forall_mem_cons.mpr ⟨lw_p69, List.forall_mem_cons.mpr ⟨lw_p70, List.forall_mem_cons.mpr ⟨lw_p71, List.forall_mem_cons.mpr ⟨lw_p72, List.forall_mem_cons.mpr ⟨lw_p73, fun _ h => absurd h List.not_mem_nil⟩⟩⟩⟩⟩⟩⟩⟩⟩⟩
def lw_privs : List (MethodName × Nat) := lw_privs_1 ++ (lw_privs_2 ++ (lw_privs_3 ++ (lw_privs_4 ++ (lw_privs_5))))
def lw_tbl : List Cond := k2_sels lw_privs ++ tables_1
theorem lw_privs_ok : ∀ q ∈ lw_privs, lw_okq q := by
  show ∀ q ∈ lw_privs_1 ++ (lw_privs_2 ++ (lw_privs_3 ++ (lw_privs_4 ++ (lw_privs_5)))), lw_okq q
  exact List.forall_mem_append.mpr ⟨lw_r1, List.forall_mem_append.mpr ⟨lw_r2, List.forall_mem_append.mpr ⟨lw_r3, List.forall_mem_append.mpr ⟨lw_r4, lw_r5⟩⟩⟩⟩
end
section
def RX0 : String := "MovingMarket$Order"
def TX0 : u_T := fun k => match k with
  | 0 => ("MovingMarket$Order", "taken", "[I", true)
  | _ => ("MovingMarket$Order", "stalls", "I", false)
def tyX0 : Nat → FieldType := fun k => match k with
  | 0 => .array .int
  | _ => .int
abbrev wsX00 : List Cond := u_ws RX0 TX0 2
theorem nmX0 : ∀ a, a < 2 → ∀ b, b < 2 → a ≠ b → (TX0 a).2.1 ≠ (TX0 b).2.1 := by decide +kernel
theorem tyX0_ok : ∀ k, k < 2 → parseFieldDescriptor (TX0 k).2.2.1 = some (tyX0 k) := by decide +kernel
abbrev cX0_init : ByteArray := prog_2_method_1_code
def yX0_init : MethodName := ⟨RX0, "<init>", "()V"⟩
abbrev cX0_begin : ByteArray := prog_2_method_2_code
def yX0_begin : MethodName := ⟨RX0, "begin", "(I)I"⟩
abbrev cX0_become : ByteArray := prog_2_method_3_code
def yX0_become : MethodName := ⟨RX0, "become", "(LMovingMarket$Order;)V"⟩
abbrev cX0_advance : ByteArray := prog_2_method_4_code
def yX0_advance : MethodName := ⟨RX0, "advance", "()V"⟩
abbrev cX0_exchangeTaken : ByteArray := prog_2_method_5_code
def yX0_exchangeTaken : MethodName := ⟨RX0, "exchangeTaken", "(II)V"⟩
def RX1 : String := "MovingMarket$Sheet"
def TX1 : u_T := fun k => match k with
  | 0 => ("MovingMarket$Sheet", "numbers", "[I", true)
  | 1 => ("MovingMarket$Sheet", "bits", "I", false)
  | _ => ("MovingMarket$Sheet", "length", "I", false)
def tyX1 : Nat → FieldType := fun k => match k with
  | 0 => .array .int
  | 1 => .int
  | _ => .int
abbrev wsX10 : List Cond := u_ws RX1 TX1 3
theorem nmX1 : ∀ a, a < 3 → ∀ b, b < 3 → a ≠ b → (TX1 a).2.1 ≠ (TX1 b).2.1 := by decide +kernel
theorem tyX1_ok : ∀ k, k < 3 → parseFieldDescriptor (TX1 k).2.2.1 = some (tyX1 k) := by decide +kernel
abbrev cX1_init : ByteArray := prog_3_method_1_code
def yX1_init : MethodName := ⟨RX1, "<init>", "()V"⟩
abbrev cX1_begin : ByteArray := prog_3_method_2_code
def yX1_begin : MethodName := ⟨RX1, "begin", "(II)V"⟩
abbrev cX1_put : ByteArray := prog_3_method_3_code
def yX1_put : MethodName := ⟨RX1, "put", "(II)V"⟩
abbrev cX1_hasPart : ByteArray := prog_3_method_4_code
def yX1_hasPart : MethodName := ⟨RX1, "hasPart", "(II)Z"⟩
def RX2 : String := "MovingMarket$Square"
def TX2 : u_T := fun k => match k with
  | 0 => ("MovingMarket$Square", "visitsAt", "[I", true)
  | 1 => ("MovingMarket$Square", "shadeAt", "[I", true)
  | 2 => ("MovingMarket$Square", "kindOf", "[I", true)
  | 3 => ("MovingMarket$Square", "whereIs", "[I", true)
  | 4 => ("MovingMarket$Square", "goodsOf", "[I", true)
  | 5 => ("MovingMarket$Square", "coinOf", "[I", true)
  | 6 => ("MovingMarket$Square", "soldOf", "[I", true)
  | 7 => ("MovingMarket$Square", "heldIn", "[I", true)
  | 8 => ("MovingMarket$Square", "springAt", "I", false)
  | 9 => ("MovingMarket$Square", "stalls", "I", false)
  | 10 => ("MovingMarket$Square", "hour", "I", false)
  | _ => ("MovingMarket$Square", "z", "I", false)
def tyX2 : Nat → FieldType := fun k => match k with
  | 0 => .array .int
  | 1 => .array .int
  | 2 => .array .int
  | 3 => .array .int
  | 4 => .array .int
  | 5 => .array .int
  | 6 => .array .int
  | 7 => .array .int
  | 8 => .int
  | 9 => .int
  | 10 => .int
  | _ => .int
abbrev wsX20 : List Cond := u_ws RX2 TX2 12
theorem nmX2 : ∀ a, a < 12 → ∀ b, b < 12 → a ≠ b → (TX2 a).2.1 ≠ (TX2 b).2.1 := by decide +kernel
theorem tyX2_ok : ∀ k, k < 12 → parseFieldDescriptor (TX2 k).2.2.1 = some (tyX2 k) := by decide +kernel
abbrev cX2_init : ByteArray := prog_4_method_1_code
def yX2_init : MethodName := ⟨RX2, "<init>", "()V"⟩
abbrev cX2_become : ByteArray := prog_4_method_2_code
def yX2_become : MethodName := ⟨RX2, "become", "(LMovingMarket$Square;)V"⟩
abbrev cX2_addStall : ByteArray := prog_4_method_3_code
def yX2_addStall : MethodName := ⟨RX2, "addStall", "(II)I"⟩
abbrev cX2_stallAt : ByteArray := prog_4_method_4_code
def yX2_stallAt : MethodName := ⟨RX2, "stallAt", "(I)I"⟩
abbrev cX2_isOfKind : ByteArray := prog_4_method_5_code
def yX2_isOfKind : MethodName := ⟨RX2, "isOfKind", "(II)Z"⟩
abbrev cX2_priceOf : ByteArray := prog_4_method_6_code
def yX2_priceOf : MethodName := ⟨RX2, "priceOf", "(I)I"⟩
abbrev cX2_wouldGo : ByteArray := prog_4_method_7_code
def yX2_wouldGo : MethodName := ⟨RX2, "wouldGo", "(I)Z"⟩
abbrev cX2_offerAt : ByteArray := prog_4_method_8_code
def yX2_offerAt : MethodName := ⟨RX2, "offerAt", "(II)I"⟩
abbrev cX2_twofoldVisits : ByteArray := prog_4_method_9_code
def yX2_twofoldVisits : MethodName := ⟨RX2, "twofoldVisits", "(I)I"⟩
abbrev cX2_exchange : ByteArray := prog_4_method_10_code
def yX2_exchange : MethodName := ⟨RX2, "exchange", "(II)V"⟩
abbrev cX2_bring : ByteArray := prog_4_method_11_code
def yX2_bring : MethodName := ⟨RX2, "bring", "(II)V"⟩
abbrev cX2_passHours : ByteArray := prog_4_method_12_code
def yX2_passHours : MethodName := ⟨RX2, "passHours", "(I)I"⟩
abbrev cX2_passHour : ByteArray := prog_4_method_13_code
def yX2_passHour : MethodName := ⟨RX2, "passHour", "()I"⟩
abbrev cX2_sellAll : ByteArray := prog_4_method_14_code
def yX2_sellAll : MethodName := ⟨RX2, "sellAll", "()I"⟩
abbrev cX2_strike : ByteArray := prog_4_method_15_code
def yX2_strike : MethodName := ⟨RX2, "strike", "()V"⟩
abbrev cX2_stayers : ByteArray := prog_4_method_16_code
def yX2_stayers : MethodName := ⟨RX2, "stayers", "()I"⟩
abbrev cX2_placesOf : ByteArray := prog_4_method_17_code
def yX2_placesOf : MethodName := ⟨RX2, "placesOf", "(I)I"⟩
abbrev cX2_stepsFrom : ByteArray := prog_4_method_18_code
def yX2_stepsFrom : MethodName := ⟨RX2, "stepsFrom", "(II)I"⟩
abbrev cX2_standsLike : ByteArray := prog_4_method_19_code
def yX2_standsLike : MethodName := ⟨RX2, "standsLike", "(LMovingMarket$Square;)Z"⟩
abbrev cX2_areBeside : ByteArray := prog_4_method_20_code
def yX2_areBeside : MethodName := ⟨RX2, "areBeside", "(II)Z"⟩
abbrev cX2_besideSet : ByteArray := prog_4_method_21_code
def yX2_besideSet : MethodName := ⟨RX2, "besideSet", "(I)I"⟩
abbrev cX2_soldOut : ByteArray := prog_4_method_22_code
def yX2_soldOut : MethodName := ⟨RX2, "soldOut", "()I"⟩
abbrev cX2_freePlaces : ByteArray := prog_4_method_23_code
def yX2_freePlaces : MethodName := ⟨RX2, "freePlaces", "()I"⟩
abbrev cX2_allCoin : ByteArray := prog_4_method_24_code
def yX2_allCoin : MethodName := ⟨RX2, "allCoin", "()I"⟩
abbrev cX2_allGoods : ByteArray := prog_4_method_25_code
def yX2_allGoods : MethodName := ⟨RX2, "allGoods", "()I"⟩
abbrev cX2_allVisits : ByteArray := prog_4_method_26_code
def yX2_allVisits : MethodName := ⟨RX2, "allVisits", "()I"⟩
abbrev cX2_spotsInUse : ByteArray := prog_4_method_27_code
def yX2_spotsInUse : MethodName := ⟨RX2, "spotsInUse", "()I"⟩
abbrev cX2_draw : ByteArray := prog_4_method_28_code
def yX2_draw : MethodName := ⟨RX2, "draw", "()I"⟩
def RX3 : String := "MovingMarket$Tape"
def TX3 : u_T := fun k => match k with
  | 0 => ("MovingMarket$Tape", "bytes", "[I", true)
  | 1 => ("MovingMarket$Tape", "length", "I", false)
  | 2 => ("MovingMarket$Tape", "sort", "I", false)
  | 3 => ("MovingMarket$Tape", "begin", "I", false)
  | 4 => ("MovingMarket$Tape", "end", "I", false)
  | _ => ("MovingMarket$Tape", "value", "I", false)
def tyX3 : Nat → FieldType := fun k => match k with
  | 0 => .array .int
  | 1 => .int
  | 2 => .int
  | 3 => .int
  | 4 => .int
  | _ => .int
abbrev wsX30 : List Cond := u_ws RX3 TX3 6
theorem nmX3 : ∀ a, a < 6 → ∀ b, b < 6 → a ≠ b → (TX3 a).2.1 ≠ (TX3 b).2.1 := by decide +kernel
theorem tyX3_ok : ∀ k, k < 6 → parseFieldDescriptor (TX3 k).2.2.1 = some (tyX3 k) := by decide +kernel
abbrev cX3_init : ByteArray := prog_5_method_1_code
def yX3_init : MethodName := ⟨RX3, "<init>", "()V"⟩
abbrev cX3_put : ByteArray := prog_5_method_2_code
def yX3_put : MethodName := ⟨RX3, "put", "(I)V"⟩
abbrev cX3_readText : ByteArray := prog_5_method_3_code
def yX3_readText : MethodName := ⟨RX3, "readText", "(LMovingMarket$Square;)I"⟩
abbrev cX3_readOn : ByteArray := prog_5_method_4_code
def yX3_readOn : MethodName := ⟨RX3, "readOn", "()V"⟩
abbrev cX3_readRun : ByteArray := prog_5_method_5_code
def yX3_readRun : MethodName := ⟨RX3, "readRun", "(CC)V"⟩
abbrev cX3_isBetween : ByteArray := prog_5_method_6_code
def yX3_isBetween : MethodName := ⟨RX3, "isBetween", "(ICC)Z"⟩
abbrev cX3_valueOfRun : ByteArray := prog_5_method_7_code
def yX3_valueOfRun : MethodName := ⟨RX3, "valueOfRun", "()I"⟩
abbrev cX3_readItem : ByteArray := prog_5_method_8_code
def yX3_readItem : MethodName := ⟨RX3, "readItem", "(LMovingMarket$Square;)Z"⟩
abbrev cX3_readStall : ByteArray := prog_5_method_9_code
def yX3_readStall : MethodName := ⟨RX3, "readStall", "(LMovingMarket$Square;I)Z"⟩
abbrev cX3_readVisits : ByteArray := prog_5_method_10_code
def yX3_readVisits : MethodName := ⟨RX3, "readVisits", "(LMovingMarket$Square;)Z"⟩
abbrev cX3_readShade : ByteArray := prog_5_method_11_code
def yX3_readShade : MethodName := ⟨RX3, "readShade", "(LMovingMarket$Square;I)Z"⟩
abbrev cX3_readSpring : ByteArray := prog_5_method_12_code
def yX3_readSpring : MethodName := ⟨RX3, "readSpring", "(LMovingMarket$Square;)Z"⟩
abbrev cX3_isNumber : ByteArray := prog_5_method_13_code
def yX3_isNumber : MethodName := ⟨RX3, "isNumber", "(II)Z"⟩
abbrev cX3_kindOfWord : ByteArray := prog_5_method_14_code
def yX3_kindOfWord : MethodName := ⟨RX3, "kindOfWord", "()I"⟩
abbrev cX3_isWord : ByteArray := prog_5_method_15_code
def yX3_isWord : MethodName := ⟨RX3, "isWord", "(Ljava/lang/String;)Z"⟩
abbrev cX3_wordOfKind : ByteArray := prog_5_method_16_code
def yX3_wordOfKind : MethodName := ⟨RX3, "wordOfKind", "(I)Ljava/lang/String;"⟩
def RX4 : String := "MovingMarket"
def TX4 : u_T := fun k => match k with
  | 0 => ("MovingMarket", "now", "LMovingMarket$Square;", true)
  | 1 => ("MovingMarket", "trial", "LMovingMarket$Square;", true)
  | 2 => ("MovingMarket", "kept", "LMovingMarket$Square;", true)
  | 3 => ("MovingMarket", "tried", "LMovingMarket$Order;", true)
  | 4 => ("MovingMarket", "winner", "LMovingMarket$Order;", true)
  | 5 => ("MovingMarket", "tape", "LMovingMarket$Tape;", true)
  | 6 => ("MovingMarket", "sheets", "[LMovingMarket$Sheet;", true)
  | 7 => ("MovingMarket", "plainCoin", "[I", true)
  | 8 => ("MovingMarket", "told", "[I", true)
  | _ => ("MovingMarket", "isKept", "Z", false)
def tyX4 : Nat → FieldType := fun k => match k with
  | 0 => .object "MovingMarket$Square"
  | 1 => .object "MovingMarket$Square"
  | 2 => .object "MovingMarket$Square"
  | 3 => .object "MovingMarket$Order"
  | 4 => .object "MovingMarket$Order"
  | 5 => .object "MovingMarket$Tape"
  | 6 => .array (.object "MovingMarket$Sheet")
  | 7 => .array .int
  | 8 => .array .int
  | _ => .boolean
abbrev wsX40 : List Cond := u_ws RX4 TX4 10
theorem nmX4 : ∀ a, a < 10 → ∀ b, b < 10 → a ≠ b → (TX4 a).2.1 ≠ (TX4 b).2.1 := by decide +kernel
theorem tyX4_ok : ∀ k, k < 10 → parseFieldDescriptor (TX4 k).2.2.1 = some (tyX4 k) := by decide +kernel
abbrev cX4_init : ByteArray := prog_1_method_1_code
def yX4_init : MethodName := ⟨RX4, "<init>", "()V"⟩
abbrev cX4_visits : ByteArray := prog_1_method_2_code
def yX4_visits : MethodName := ⟨RX4, "visits", "(II)I"⟩
abbrev cX4_shade : ByteArray := prog_1_method_3_code
def yX4_shade : MethodName := ⟨RX4, "shade", "(IZ)I"⟩
abbrev cX4_spring : ByteArray := prog_1_method_4_code
def yX4_spring : MethodName := ⟨RX4, "spring", "(I)I"⟩
abbrev cX4_stall : ByteArray := prog_1_method_5_code
def yX4_stall : MethodName := ⟨RX4, "stall", "(II)I"⟩
abbrev cX4_of : ByteArray := prog_1_method_6_code
def yX4_of : MethodName := ⟨RX4, "of", "(II)I"⟩
abbrev cX4_change : ByteArray := prog_1_method_7_code
def yX4_change : MethodName := ⟨RX4, "change", "(III)I"⟩
abbrev cX4_swap : ByteArray := prog_1_method_8_code
def yX4_swap : MethodName := ⟨RX4, "swap", "(II)I"⟩
abbrev cX4_offers : ByteArray := prog_1_method_9_code
def yX4_offers : MethodName := ⟨RX4, "offers", "(II)I"⟩
abbrev cX4_placeOf : ByteArray := prog_1_method_10_code
def yX4_placeOf : MethodName := ⟨RX4, "placeOf", "(II)I"⟩
abbrev cX4_hours : ByteArray := prog_1_method_11_code
def yX4_hours : MethodName := ⟨RX4, "hours", "(I)I"⟩
abbrev cX4_stay : ByteArray := prog_1_method_12_code
def yX4_stay : MethodName := ⟨RX4, "stay", "()I"⟩
abbrev cX4_ahead : ByteArray := prog_1_method_13_code
def yX4_ahead : MethodName := ⟨RX4, "ahead", "(II)I"⟩
abbrev cX4_when : ByteArray := prog_1_method_14_code
def yX4_when : MethodName := ⟨RX4, "when", "(II)I"⟩
abbrev cX4_empty : ByteArray := prog_1_method_15_code
def yX4_empty : MethodName := ⟨RX4, "empty", "(I)I"⟩
abbrev cX4_again : ByteArray := prog_1_method_16_code
def yX4_again : MethodName := ⟨RX4, "again", "()I"⟩
abbrev cX4_there : ByteArray := prog_1_method_17_code
def yX4_there : MethodName := ⟨RX4, "there", "(II)I"⟩
abbrev cX4_passes : ByteArray := prog_1_method_18_code
def yX4_passes : MethodName := ⟨RX4, "passes", "(I)I"⟩
abbrev cX4_most : ByteArray := prog_1_method_19_code
def yX4_most : MethodName := ⟨RX4, "most", "(I)I"⟩
abbrev cX4_order : ByteArray := prog_1_method_20_code
def yX4_order : MethodName := ⟨RX4, "order", "(II)I"⟩
abbrev cX4_dawn : ByteArray := prog_1_method_21_code
def yX4_dawn : MethodName := ⟨RX4, "dawn", "(III)I"⟩
abbrev cX4_throwAway : ByteArray := prog_1_method_22_code
def yX4_throwAway : MethodName := ⟨RX4, "throwAway", "(II)I"⟩
abbrev cX4_wishes : ByteArray := prog_1_method_23_code
def yX4_wishes : MethodName := ⟨RX4, "wishes", "(II)I"⟩
abbrev cX4_deal : ByteArray := prog_1_method_24_code
def yX4_deal : MethodName := ⟨RX4, "deal", "(I)I"⟩
abbrev cX4_beside : ByteArray := prog_1_method_25_code
def yX4_beside : MethodName := ⟨RX4, "beside", "(I)I"⟩
abbrev cX4_ever : ByteArray := prog_1_method_26_code
def yX4_ever : MethodName := ⟨RX4, "ever", "(II)I"⟩
abbrev cX4_meet : ByteArray := prog_1_method_27_code
def yX4_meet : MethodName := ⟨RX4, "meet", "(II)I"⟩
abbrev cX4_never : ByteArray := prog_1_method_28_code
def yX4_never : MethodName := ⟨RX4, "never", "(III)I"⟩
abbrev cX4_worth : ByteArray := prog_1_method_29_code
def yX4_worth : MethodName := ⟨RX4, "worth", "(III)I"⟩
abbrev cX4_best : ByteArray := prog_1_method_30_code
def yX4_best : MethodName := ⟨RX4, "best", "(II)I"⟩
abbrev cX4_thief : ByteArray := prog_1_method_31_code
def yX4_thief : MethodName := ⟨RX4, "thief", "(II)I"⟩
abbrev cX4_lots : ByteArray := prog_1_method_32_code
def yX4_lots : MethodName := ⟨RX4, "lots", "(I)I"⟩
abbrev cX4_seed : ByteArray := prog_1_method_33_code
def yX4_seed : MethodName := ⟨RX4, "seed", "(I)I"⟩
abbrev cX4_feed : ByteArray := prog_1_method_34_code
def yX4_feed : MethodName := ⟨RX4, "feed", "(II)I"⟩
abbrev cX4_wipe : ByteArray := prog_1_method_35_code
def yX4_wipe : MethodName := ⟨RX4, "wipe", "()I"⟩
abbrev cX4_text : ByteArray := prog_1_method_36_code
def yX4_text : MethodName := ⟨RX4, "text", "()I"⟩
abbrev cX4_hold : ByteArray := prog_1_method_37_code
def yX4_hold : MethodName := ⟨RX4, "hold", "(II)I"⟩
abbrev cX4_as : ByteArray := prog_1_method_38_code
def yX4_as : MethodName := ⟨RX4, "as", "(II)I"⟩
abbrev cX4_sheet : ByteArray := prog_1_method_39_code
def yX4_sheet : MethodName := ⟨RX4, "sheet", "(III)I"⟩
abbrev cX4_write : ByteArray := prog_1_method_40_code
def yX4_write : MethodName := ⟨RX4, "write", "(III)I"⟩
abbrev cX4_copy : ByteArray := prog_1_method_41_code
def yX4_copy : MethodName := ⟨RX4, "copy", "(IIIII)I"⟩
abbrev cX4_load : ByteArray := prog_1_method_42_code
def yX4_load : MethodName := ⟨RX4, "load", "(I)I"⟩
abbrev cX4_fit : ByteArray := prog_1_method_43_code
def yX4_fit : MethodName := ⟨RX4, "fit", "(I)I"⟩
abbrev cX4_judge : ByteArray := prog_1_method_44_code
def yX4_judge : MethodName := ⟨RX4, "judge", "(II)I"⟩
abbrev cX4_image : ByteArray := prog_1_method_45_code
def yX4_image : MethodName := ⟨RX4, "image", "()I"⟩
abbrev cX4_undo : ByteArray := prog_1_method_46_code
def yX4_undo : MethodName := ⟨RX4, "undo", "()I"⟩
abbrev cX4_tear : ByteArray := prog_1_method_47_code
def yX4_tear : MethodName := ⟨RX4, "tear", "()I"⟩
abbrev cX4_count : ByteArray := prog_1_method_48_code
def yX4_count : MethodName := ⟨RX4, "count", "(I)I"⟩
abbrev cX4_status : ByteArray := prog_1_method_49_code
def yX4_status : MethodName := ⟨RX4, "status", "(I)I"⟩
abbrev cX4_finding : ByteArray := prog_1_method_50_code
def yX4_finding : MethodName := ⟨RX4, "finding", "(I)I"⟩
abbrev cX4_isPlace : ByteArray := prog_1_method_51_code
def yX4_isPlace : MethodName := ⟨RX4, "isPlace", "(I)Z"⟩
abbrev cX4_isKind : ByteArray := prog_1_method_52_code
def yX4_isKind : MethodName := ⟨RX4, "isKind", "(I)Z"⟩
abbrev cX4_isSpot : ByteArray := prog_1_method_53_code
def yX4_isSpot : MethodName := ⟨RX4, "isSpot", "(I)Z"⟩
abbrev cX4_isSheet : ByteArray := prog_1_method_54_code
def yX4_isSheet : MethodName := ⟨RX4, "isSheet", "(I)Z"⟩
abbrev cX4_isStall : ByteArray := prog_1_method_55_code
def yX4_isStall : MethodName := ⟨RX4, "isStall", "(I)Z"⟩
abbrev cX4_isPair : ByteArray := prog_1_method_56_code
def yX4_isPair : MethodName := ⟨RX4, "isPair", "(II)Z"⟩
abbrev cX4_aheadFinding : ByteArray := prog_1_method_57_code
def yX4_aheadFinding : MethodName := ⟨RX4, "aheadFinding", "(ZIII)I"⟩
abbrev cX4_orderFinding : ByteArray := prog_1_method_58_code
def yX4_orderFinding : MethodName := ⟨RX4, "orderFinding", "(ZII)I"⟩
abbrev cX4_sheetFinding : ByteArray := prog_1_method_59_code
def yX4_sheetFinding : MethodName := ⟨RX4, "sheetFinding", "(I)I"⟩
abbrev cX4_tryOrder : ByteArray := prog_1_method_60_code
def yX4_tryOrder : MethodName := ⟨RX4, "tryOrder", "()V"⟩
abbrev cX4_searchMost : ByteArray := prog_1_method_61_code
def yX4_searchMost : MethodName := ⟨RX4, "searchMost", "(I)I"⟩
abbrev cX4_swapAhead : ByteArray := prog_1_method_62_code
def yX4_swapAhead : MethodName := ⟨RX4, "swapAhead", "(III)V"⟩
abbrev cX4_coinFrom : ByteArray := prog_1_method_63_code
def yX4_coinFrom : MethodName := ⟨RX4, "coinFrom", "(III)I"⟩
abbrev cX4_firstBeside : ByteArray := prog_1_method_64_code
def yX4_firstBeside : MethodName := ⟨RX4, "firstBeside", "(III)I"⟩
abbrev cX4_lastWordHour : ByteArray := prog_1_method_65_code
def yX4_lastWordHour : MethodName := ⟨RX4, "lastWordHour", "(LMovingMarket$Sheet;)I"⟩
abbrev cX4_wordsAreSo : ByteArray := prog_1_method_66_code
def yX4_wordsAreSo : MethodName := ⟨RX4, "wordsAreSo", "(LMovingMarket$Sheet;I)Z"⟩
def RX5 : String := "MovingMarketModel"
def TX5 : u_T := fun k => match k with
  | 0 => ("MovingMarketModel", "s", "[I", true)
  | 1 => ("MovingMarketModel", "keptS", "[I", true)
  | 2 => ("MovingMarketModel", "other", "[I", true)
  | 3 => ("MovingMarketModel", "statuses", "[I", true)
  | 4 => ("MovingMarketModel", "isKept", "Z", false)
  | 5 => ("MovingMarketModel", "takes", "[I", true)
  | 6 => ("MovingMarketModel", "bestTake", "I", false)
  | 7 => ("MovingMarketModel", "tape", "[I", true)
  | 8 => ("MovingMarketModel", "taped", "I", false)
  | 9 => ("MovingMarketModel", "from", "I", false)
  | 10 => ("MovingMarketModel", "to", "I", false)
  | 11 => ("MovingMarketModel", "value", "I", false)
  | 12 => ("MovingMarketModel", "isWrong", "Z", false)
  | 13 => ("MovingMarketModel", "bitsOf", "[I", true)
  | 14 => ("MovingMarketModel", "sizeOf", "[I", true)
  | 15 => ("MovingMarketModel", "number", "[I", true)
  | _ => ("MovingMarketModel", "moved", "[I", true)
def tyX5 : Nat → FieldType := fun k => match k with
  | 0 => .array .int
  | 1 => .array .int
  | 2 => .array .int
  | 3 => .array .int
  | 4 => .boolean
  | 5 => .array .int
  | 6 => .int
  | 7 => .array .int
  | 8 => .int
  | 9 => .int
  | 10 => .int
  | 11 => .int
  | 12 => .boolean
  | 13 => .array .int
  | 14 => .array .int
  | 15 => .array .int
  | _ => .array .int
abbrev wsX50 : List Cond := u_ws RX5 TX5 17
theorem nmX5 : ∀ a, a < 17 → ∀ b, b < 17 → a ≠ b → (TX5 a).2.1 ≠ (TX5 b).2.1 := by decide +kernel
theorem tyX5_ok : ∀ k, k < 17 → parseFieldDescriptor (TX5 k).2.2.1 = some (tyX5 k) := by decide +kernel
abbrev cX5_init : ByteArray := prog_7_method_1_code
def yX5_init : MethodName := ⟨RX5, "<init>", "()V"⟩
abbrev cX5_in : ByteArray := prog_7_method_2_code
def yX5_in : MethodName := ⟨RX5, "in", "(JJJ)Z"⟩
abbrev cX5_finds : ByteArray := prog_7_method_3_code
def yX5_finds : MethodName := ⟨RX5, "finds", "(I)I"⟩
abbrev cX5_isPlace : ByteArray := prog_7_method_4_code
def yX5_isPlace : MethodName := ⟨RX5, "isPlace", "(I)Z"⟩
abbrev cX5_isStall : ByteArray := prog_7_method_5_code
def yX5_isStall : MethodName := ⟨RX5, "isStall", "(I)Z"⟩
abbrev cX5_has : ByteArray := prog_7_method_6_code
def yX5_has : MethodName := ⟨RX5, "has", "(II)Z"⟩
abbrev cX5_draw : ByteArray := prog_7_method_7_code
def yX5_draw : MethodName := ⟨RX5, "draw", "()I"⟩
abbrev cX5_saves : ByteArray := prog_7_method_8_code
def yX5_saves : MethodName := ⟨RX5, "saves", "()V"⟩
abbrev cX5_putsBack : ByteArray := prog_7_method_9_code
def yX5_putsBack : MethodName := ⟨RX5, "putsBack", "()V"⟩
abbrev cX5_at : ByteArray := prog_7_method_10_code
def yX5_at : MethodName := ⟨RX5, "at", "(II)I"⟩
abbrev cX5_its : ByteArray := prog_7_method_11_code
def yX5_its : MethodName := ⟨RX5, "its", "(II)I"⟩
abbrev cX5_visits : ByteArray := prog_7_method_12_code
def yX5_visits : MethodName := ⟨RX5, "visits", "(II)I"⟩
abbrev cX5_shade : ByteArray := prog_7_method_13_code
def yX5_shade : MethodName := ⟨RX5, "shade", "(IZ)I"⟩
abbrev cX5_spring : ByteArray := prog_7_method_14_code
def yX5_spring : MethodName := ⟨RX5, "spring", "(I)I"⟩
abbrev cX5_stallAt : ByteArray := prog_7_method_15_code
def yX5_stallAt : MethodName := ⟨RX5, "stallAt", "(I)I"⟩
abbrev cX5_newStall : ByteArray := prog_7_method_16_code
def yX5_newStall : MethodName := ⟨RX5, "newStall", "(III)I"⟩
abbrev cX5_stall : ByteArray := prog_7_method_17_code
def yX5_stall : MethodName := ⟨RX5, "stall", "(II)I"⟩
abbrev cX5_price : ByteArray := prog_7_method_18_code
def yX5_price : MethodName := ⟨RX5, "price", "(I)I"⟩
abbrev cX5_isGoing : ByteArray := prog_7_method_19_code
def yX5_isGoing : MethodName := ⟨RX5, "isGoing", "(I)Z"⟩
abbrev cX5_of : ByteArray := prog_7_method_20_code
def yX5_of : MethodName := ⟨RX5, "of", "(II)I"⟩
abbrev cX5_change : ByteArray := prog_7_method_21_code
def yX5_change : MethodName := ⟨RX5, "change", "(III)I"⟩
abbrev cX5_swaps : ByteArray := prog_7_method_22_code
def yX5_swaps : MethodName := ⟨RX5, "swaps", "(II)V"⟩
abbrev cX5_swap : ByteArray := prog_7_method_23_code
def yX5_swap : MethodName := ⟨RX5, "swap", "(II)I"⟩
abbrev cX5_offer : ByteArray := prog_7_method_24_code
def yX5_offer : MethodName := ⟨RX5, "offer", "(II)I"⟩
abbrev cX5_offers : ByteArray := prog_7_method_25_code
def yX5_offers : MethodName := ⟨RX5, "offers", "(II)I"⟩
abbrev cX5_placeOf : ByteArray := prog_7_method_26_code
def yX5_placeOf : MethodName := ⟨RX5, "placeOf", "(II)I"⟩
abbrev cX5_sells : ByteArray := prog_7_method_27_code
def yX5_sells : MethodName := ⟨RX5, "sells", "(I)I"⟩
abbrev cX5_staying : ByteArray := prog_7_method_28_code
def yX5_staying : MethodName := ⟨RX5, "staying", "(Z)I"⟩
abbrev cX5_placesOf : ByteArray := prog_7_method_29_code
def yX5_placesOf : MethodName := ⟨RX5, "placesOf", "(I)I"⟩
abbrev cX5_farFrom : ByteArray := prog_7_method_30_code
def yX5_farFrom : MethodName := ⟨RX5, "farFrom", "(II)I"⟩
abbrev cX5_hour : ByteArray := prog_7_method_31_code
def yX5_hour : MethodName := ⟨RX5, "hour", "()I"⟩
abbrev cX5_hoursGo : ByteArray := prog_7_method_32_code
def yX5_hoursGo : MethodName := ⟨RX5, "hoursGo", "(I)I"⟩
abbrev cX5_isTooLate : ByteArray := prog_7_method_33_code
def yX5_isTooLate : MethodName := ⟨RX5, "isTooLate", "(I)Z"⟩
abbrev cX5_hours : ByteArray := prog_7_method_34_code
def yX5_hours : MethodName := ⟨RX5, "hours", "(I)I"⟩
abbrev cX5_stay : ByteArray := prog_7_method_35_code
def yX5_stay : MethodName := ⟨RX5, "stay", "()I"⟩
abbrev cX5_emptySet : ByteArray := prog_7_method_36_code
def yX5_emptySet : MethodName := ⟨RX5, "emptySet", "()I"⟩
abbrev cX5_sumOf : ByteArray := prog_7_method_37_code
def yX5_sumOf : MethodName := ⟨RX5, "sumOf", "(I)I"⟩
abbrev cX5_everyPlace : ByteArray := prog_7_method_38_code
def yX5_everyPlace : MethodName := ⟨RX5, "everyPlace", "()I"⟩
abbrev cX5_isSpan : ByteArray := prog_7_method_39_code
def yX5_isSpan : MethodName := ⟨RX5, "isSpan", "(I)Z"⟩
abbrev cX5_ahead : ByteArray := prog_7_method_40_code
def yX5_ahead : MethodName := ⟨RX5, "ahead", "(II)I"⟩
abbrev cX5_when : ByteArray := prog_7_method_41_code
def yX5_when : MethodName := ⟨RX5, "when", "(II)I"⟩
abbrev cX5_empty : ByteArray := prog_7_method_42_code
def yX5_empty : MethodName := ⟨RX5, "empty", "(I)I"⟩
abbrev cX5_again : ByteArray := prog_7_method_43_code
def yX5_again : MethodName := ⟨RX5, "again", "()I"⟩
abbrev cX5_there : ByteArray := prog_7_method_44_code
def yX5_there : MethodName := ⟨RX5, "there", "(II)I"⟩
abbrev cX5_passes : ByteArray := prog_7_method_45_code
def yX5_passes : MethodName := ⟨RX5, "passes", "(I)I"⟩
abbrev cX5_firstOrder : ByteArray := prog_7_method_46_code
def yX5_firstOrder : MethodName := ⟨RX5, "firstOrder", "()V"⟩
abbrev cX5_nextOrder : ByteArray := prog_7_method_47_code
def yX5_nextOrder : MethodName := ⟨RX5, "nextOrder", "()Z"⟩
abbrev cX5_lays : ByteArray := prog_7_method_48_code
def yX5_lays : MethodName := ⟨RX5, "lays", "()V"⟩
abbrev cX5_orderWrong : ByteArray := prog_7_method_49_code
def yX5_orderWrong : MethodName := ⟨RX5, "orderWrong", "(I)I"⟩
abbrev cX5_bestOrder : ByteArray := prog_7_method_50_code
def yX5_bestOrder : MethodName := ⟨RX5, "bestOrder", "(II)I"⟩
abbrev cX5_most : ByteArray := prog_7_method_51_code
def yX5_most : MethodName := ⟨RX5, "most", "(I)I"⟩
abbrev cX5_order : ByteArray := prog_7_method_52_code
def yX5_order : MethodName := ⟨RX5, "order", "(II)I"⟩
abbrev cX5_dawn : ByteArray := prog_7_method_53_code
def yX5_dawn : MethodName := ⟨RX5, "dawn", "(III)I"⟩
abbrev cX5_coinOf : ByteArray := prog_7_method_54_code
def yX5_coinOf : MethodName := ⟨RX5, "coinOf", "(II)I"⟩
abbrev cX5_isDays : ByteArray := prog_7_method_55_code
def yX5_isDays : MethodName := ⟨RX5, "isDays", "(I)Z"⟩
abbrev cX5_throwAway : ByteArray := prog_7_method_56_code
def yX5_throwAway : MethodName := ⟨RX5, "throwAway", "(II)I"⟩
abbrev cX5_wishes : ByteArray := prog_7_method_57_code
def yX5_wishes : MethodName := ⟨RX5, "wishes", "(II)I"⟩
abbrev cX5_deal : ByteArray := prog_7_method_58_code
def yX5_deal : MethodName := ⟨RX5, "deal", "(I)I"⟩
abbrev cX5_isBeside : ByteArray := prog_7_method_59_code
def yX5_isBeside : MethodName := ⟨RX5, "isBeside", "(II)Z"⟩
abbrev cX5_besideSet : ByteArray := prog_7_method_60_code
def yX5_besideSet : MethodName := ⟨RX5, "besideSet", "(I)I"⟩
abbrev cX5_beside : ByteArray := prog_7_method_61_code
def yX5_beside : MethodName := ⟨RX5, "beside", "(I)I"⟩
abbrev cX5_ever : ByteArray := prog_7_method_62_code
def yX5_ever : MethodName := ⟨RX5, "ever", "(II)I"⟩
abbrev cX5_isTwo : ByteArray := prog_7_method_63_code
def yX5_isTwo : MethodName := ⟨RX5, "isTwo", "(II)Z"⟩
abbrev cX5_meet : ByteArray := prog_7_method_64_code
def yX5_meet : MethodName := ⟨RX5, "meet", "(II)I"⟩
abbrev cX5_never : ByteArray := prog_7_method_65_code
def yX5_never : MethodName := ⟨RX5, "never", "(III)I"⟩
abbrev cX5_worthOf : ByteArray := prog_7_method_66_code
def yX5_worthOf : MethodName := ⟨RX5, "worthOf", "(III)I"⟩
abbrev cX5_worth : ByteArray := prog_7_method_67_code
def yX5_worth : MethodName := ⟨RX5, "worth", "(III)I"⟩
abbrev cX5_best : ByteArray := prog_7_method_68_code
def yX5_best : MethodName := ⟨RX5, "best", "(II)I"⟩
abbrev cX5_thief : ByteArray := prog_7_method_69_code
def yX5_thief : MethodName := ⟨RX5, "thief", "(II)I"⟩
abbrev cX5_lots : ByteArray := prog_7_method_70_code
def yX5_lots : MethodName := ⟨RX5, "lots", "(I)I"⟩
abbrev cX5_seed : ByteArray := prog_7_method_71_code
def yX5_seed : MethodName := ⟨RX5, "seed", "(I)I"⟩
abbrev cX5_feed : ByteArray := prog_7_method_72_code
def yX5_feed : MethodName := ⟨RX5, "feed", "(II)I"⟩
abbrev cX5_wipe : ByteArray := prog_7_method_73_code
def yX5_wipe : MethodName := ⟨RX5, "wipe", "()I"⟩
abbrev cX5_byteAt : ByteArray := prog_7_method_74_code
def yX5_byteAt : MethodName := ⟨RX5, "byteAt", "(I)I"⟩
abbrev cX5_isLetter : ByteArray := prog_7_method_75_code
def yX5_isLetter : MethodName := ⟨RX5, "isLetter", "(I)Z"⟩
abbrev cX5_isDigit : ByteArray := prog_7_method_76_code
def yX5_isDigit : MethodName := ⟨RX5, "isDigit", "(I)Z"⟩
abbrev cX5_token : ByteArray := prog_7_method_77_code
def yX5_token : MethodName := ⟨RX5, "token", "()V"⟩
abbrev cX5_needs : ByteArray := prog_7_method_78_code
def yX5_needs : MethodName := ⟨RX5, "needs", "(Z)V"⟩
abbrev cX5_word : ByteArray := prog_7_method_79_code
def yX5_word : MethodName := ⟨RX5, "word", "()J"⟩
abbrev cX5_number : ByteArray := prog_7_method_80_code
def yX5_number : MethodName := ⟨RX5, "number", "(II)V"⟩
abbrev cX5_kindHere : ByteArray := prog_7_method_81_code
def yX5_kindHere : MethodName := ⟨RX5, "kindHere", "()I"⟩
abbrev cX5_perhaps : ByteArray := prog_7_method_82_code
def yX5_perhaps : MethodName := ⟨RX5, "perhaps", "(ZIII)I"⟩
abbrev cX5_freePlace : ByteArray := prog_7_method_83_code
def yX5_freePlace : MethodName := ⟨RX5, "freePlace", "()V"⟩
abbrev cX5_stallItem : ByteArray := prog_7_method_84_code
def yX5_stallItem : MethodName := ⟨RX5, "stallItem", "(I)V"⟩
abbrev cX5_visitsItem : ByteArray := prog_7_method_85_code
def yX5_visitsItem : MethodName := ⟨RX5, "visitsItem", "()V"⟩
abbrev cX5_item : ByteArray := prog_7_method_86_code
def yX5_item : MethodName := ⟨RX5, "item", "()V"⟩
abbrev cX5_text : ByteArray := prog_7_method_87_code
def yX5_text : MethodName := ⟨RX5, "text", "()I"⟩
abbrev cX5_hold : ByteArray := prog_7_method_88_code
def yX5_hold : MethodName := ⟨RX5, "hold", "(II)I"⟩
abbrev cX5_as : ByteArray := prog_7_method_89_code
def yX5_as : MethodName := ⟨RX5, "as", "(II)I"⟩
abbrev cX5_isOne : ByteArray := prog_7_method_90_code
def yX5_isOne : MethodName := ⟨RX5, "isOne", "(I)Z"⟩
abbrev cX5_sheet : ByteArray := prog_7_method_91_code
def yX5_sheet : MethodName := ⟨RX5, "sheet", "(III)I"⟩
abbrev cX5_narrowed : ByteArray := prog_7_method_92_code
def yX5_narrowed : MethodName := ⟨RX5, "narrowed", "(II)I"⟩
abbrev cX5_wrong : ByteArray := prog_7_method_93_code
def yX5_wrong : MethodName := ⟨RX5, "wrong", "(I)I"⟩
abbrev cX5_write : ByteArray := prog_7_method_94_code
def yX5_write : MethodName := ⟨RX5, "write", "(III)I"⟩
abbrev cX5_copy : ByteArray := prog_7_method_95_code
def yX5_copy : MethodName := ⟨RX5, "copy", "(IIIII)I"⟩
abbrev cX5_load : ByteArray := prog_7_method_96_code
def yX5_load : MethodName := ⟨RX5, "load", "(I)I"⟩
abbrev cX5_isSo : ByteArray := prog_7_method_97_code
def yX5_isSo : MethodName := ⟨RX5, "isSo", "(II)Z"⟩
abbrev cX5_fit : ByteArray := prog_7_method_98_code
def yX5_fit : MethodName := ⟨RX5, "fit", "(I)I"⟩
abbrev cX5_judge : ByteArray := prog_7_method_99_code
def yX5_judge : MethodName := ⟨RX5, "judge", "(II)I"⟩
abbrev cX5_image : ByteArray := prog_7_method_100_code
def yX5_image : MethodName := ⟨RX5, "image", "()I"⟩
abbrev cX5_undo : ByteArray := prog_7_method_101_code
def yX5_undo : MethodName := ⟨RX5, "undo", "()I"⟩
abbrev cX5_tear : ByteArray := prog_7_method_102_code
def yX5_tear : MethodName := ⟨RX5, "tear", "()I"⟩
abbrev cX5_visitsOfAll : ByteArray := prog_7_method_103_code
def yX5_visitsOfAll : MethodName := ⟨RX5, "visitsOfAll", "()I"⟩
abbrev cX5_held : ByteArray := prog_7_method_104_code
def yX5_held : MethodName := ⟨RX5, "held", "()I"⟩
abbrev cX5_count : ByteArray := prog_7_method_105_code
def yX5_count : MethodName := ⟨RX5, "count", "(I)I"⟩
abbrev cX5_status : ByteArray := prog_7_method_106_code
def yX5_status : MethodName := ⟨RX5, "status", "(I)I"⟩
def RJx145de : String := "java/io/Serializable"
def TJx145de : u_T := fun k => match k with
  | _ => ("", "", "", false)
def tyJx145de : Nat → FieldType := fun k => match k with
  | _ => .int
abbrev wsJx145de0 : List Cond := u_ws RJx145de TJx145de 0
theorem nmJx145de : ∀ a, a < 0 → ∀ b, b < 0 → a ≠ b → (TJx145de a).2.1 ≠ (TJx145de b).2.1 := by decide +kernel
theorem tyJx145de_ok : ∀ k, k < 0 → parseFieldDescriptor (TJx145de k).2.2.1 = some (tyJx145de k) := by decide +kernel
def RJx9f9b0 : String := "java/lang/CharSequence"
def TJx9f9b0 : u_T := fun k => match k with
  | _ => ("", "", "", false)
def tyJx9f9b0 : Nat → FieldType := fun k => match k with
  | _ => .int
abbrev wsJx9f9b00 : List Cond := u_ws RJx9f9b0 TJx9f9b0 0
theorem nmJx9f9b0 : ∀ a, a < 0 → ∀ b, b < 0 → a ≠ b → (TJx9f9b0 a).2.1 ≠ (TJx9f9b0 b).2.1 := by decide +kernel
theorem tyJx9f9b0_ok : ∀ k, k < 0 → parseFieldDescriptor (TJx9f9b0 k).2.2.1 = some (tyJx9f9b0 k) := by decide +kernel
def RJxb160c : String := "java/lang/Comparable"
def TJxb160c : u_T := fun k => match k with
  | _ => ("", "", "", false)
def tyJxb160c : Nat → FieldType := fun k => match k with
  | _ => .int
abbrev wsJxb160c0 : List Cond := u_ws RJxb160c TJxb160c 0
theorem nmJxb160c : ∀ a, a < 0 → ∀ b, b < 0 → a ≠ b → (TJxb160c a).2.1 ≠ (TJxb160c b).2.1 := by decide +kernel
theorem tyJxb160c_ok : ∀ k, k < 0 → parseFieldDescriptor (TJxb160c k).2.2.1 = some (tyJxb160c k) := by decide +kernel
def RJ9 : String := "java/lang/Math"
def TJ9 : u_T := fun k => match k with
  | _ => ("", "", "", false)
def tyJ9 : Nat → FieldType := fun k => match k with
  | _ => .int
abbrev wsJ90 : List Cond := u_ws RJ9 TJ9 0
theorem nmJ9 : ∀ a, a < 0 → ∀ b, b < 0 → a ≠ b → (TJ9 a).2.1 ≠ (TJ9 b).2.1 := by decide +kernel
theorem tyJ9_ok : ∀ k, k < 0 → parseFieldDescriptor (TJ9 k).2.2.1 = some (tyJ9 k) := by decide +kernel
abbrev cJ9_floorMod_7cf53 : ByteArray := prog_8_method_50_code
def yJ9_floorMod_7cf53 : MethodName := ⟨RJ9, "floorMod", "(II)I"⟩
abbrev cJ9_max_7cf53 : ByteArray := prog_8_method_65_code
def yJ9_max_7cf53 : MethodName := ⟨RJ9, "max", "(II)I"⟩
abbrev cJ9_min_7cf53 : ByteArray := prog_8_method_69_code
def yJ9_min_7cf53 : MethodName := ⟨RJ9, "min", "(II)I"⟩
def RJ0 : String := "java/lang/String"
def TJ0 : u_T := fun k => match k with
  | _ => ("", "", "", false)
def tyJ0 : Nat → FieldType := fun k => match k with
  | _ => .int
abbrev wsJ00 : List Cond := u_ws RJ0 TJ0 0
theorem nmJ0 : ∀ a, a < 0 → ∀ b, b < 0 → a ≠ b → (TJ0 a).2.1 ≠ (TJ0 b).2.1 := by decide +kernel
theorem tyJ0_ok : ∀ k, k < 0 → parseFieldDescriptor (TJ0 k).2.2.1 = some (tyJ0 k) := by decide +kernel
abbrev cJ0_length_8abf5 : ByteArray := prog_9_method_54_code
def yJ0_length_8abf5 : MethodName := ⟨RJ0, "length", "()I"⟩
abbrev cJ0_charAt_5068e : ByteArray := prog_9_method_56_code
def yJ0_charAt_5068e : MethodName := ⟨RJ0, "charAt", "(I)C"⟩
abbrev cJ0_coder_7d493 : ByteArray := prog_9_method_152_code
def yJ0_coder_7d493 : MethodName := ⟨RJ0, "coder", "()B"⟩
abbrev cJ0_isLatin1_aae02 : ByteArray := prog_9_method_154_code
def yJ0_isLatin1_aae02 : MethodName := ⟨RJ0, "isLatin1", "()Z"⟩
abbrev cJ0_checkIndex_df160 : ByteArray := prog_9_method_155_code
def yJ0_checkIndex_df160 : MethodName := ⟨RJ0, "checkIndex", "(II)V"⟩
def RJ1 : String := "java/lang/StringLatin1"
def TJ1 : u_T := fun k => match k with
  | _ => ("", "", "", false)
def tyJ1 : Nat → FieldType := fun k => match k with
  | _ => .int
abbrev wsJ10 : List Cond := u_ws RJ1 TJ1 0
theorem nmJ1 : ∀ a, a < 0 → ∀ b, b < 0 → a ≠ b → (TJ1 a).2.1 ≠ (TJ1 b).2.1 := by decide +kernel
theorem tyJ1_ok : ∀ k, k < 0 → parseFieldDescriptor (TJ1 k).2.2.1 = some (tyJ1 k) := by decide +kernel
abbrev cJ1_charAt_3b067 : ByteArray := prog_10_method_2_code
def yJ1_charAt_3b067 : MethodName := ⟨RJ1, "charAt", "([BI)C"⟩
def RJ2 : String := "java/lang/StringUTF16"
def TJ2 : u_T := fun k => match k with
  | _ => ("", "", "", false)
def tyJ2 : Nat → FieldType := fun k => match k with
  | _ => .int
abbrev wsJ20 : List Cond := u_ws RJ2 TJ2 0
theorem nmJ2 : ∀ a, a < 0 → ∀ b, b < 0 → a ≠ b → (TJ2 a).2.1 ≠ (TJ2 b).2.1 := by decide +kernel
theorem tyJ2_ok : ∀ k, k < 0 → parseFieldDescriptor (TJ2 k).2.2.1 = some (tyJ2 k) := by decide +kernel
abbrev cJ2_getChar_3b067 : ByteArray := prog_11_method_5_code
def yJ2_getChar_3b067 : MethodName := ⟨RJ2, "getChar", "([BI)C"⟩
abbrev cJ2_length_9d52b : ByteArray := prog_11_method_6_code
def yJ2_length_9d52b : MethodName := ⟨RJ2, "length", "([B)I"⟩
abbrev cJ2_charAt_3b067 : ByteArray := prog_11_method_83_code
def yJ2_charAt_3b067 : MethodName := ⟨RJ2, "charAt", "([BI)C"⟩
abbrev cJ2_checkIndex_2214a : ByteArray := prog_11_method_91_code
def yJ2_checkIndex_2214a : MethodName := ⟨RJ2, "checkIndex", "(I[B)V"⟩
def RJ10 : String := "java/lang/System"
def TJ10 : u_T := fun k => match k with
  | _ => ("", "", "", false)
def tyJ10 : Nat → FieldType := fun k => match k with
  | _ => .int
abbrev wsJ100 : List Cond := u_ws RJ10 TJ10 0
theorem nmJ10 : ∀ a, a < 0 → ∀ b, b < 0 → a ≠ b → (TJ10 a).2.1 ≠ (TJ10 b).2.1 := by decide +kernel
theorem tyJ10_ok : ∀ k, k < 0 → parseFieldDescriptor (TJ10 k).2.2.1 = some (tyJ10 k) := by decide +kernel
def RJxfd54e : String := "java/lang/constant/Constable"
def TJxfd54e : u_T := fun k => match k with
  | _ => ("", "", "", false)
def tyJxfd54e : Nat → FieldType := fun k => match k with
  | _ => .int
abbrev wsJxfd54e0 : List Cond := u_ws RJxfd54e TJxfd54e 0
theorem nmJxfd54e : ∀ a, a < 0 → ∀ b, b < 0 → a ≠ b → (TJxfd54e a).2.1 ≠ (TJxfd54e b).2.1 := by decide +kernel
theorem tyJxfd54e_ok : ∀ k, k < 0 → parseFieldDescriptor (TJxfd54e k).2.2.1 = some (tyJxfd54e k) := by decide +kernel
def RJx3cf43 : String := "java/lang/constant/ConstantDesc"
def TJx3cf43 : u_T := fun k => match k with
  | _ => ("", "", "", false)
def tyJx3cf43 : Nat → FieldType := fun k => match k with
  | _ => .int
abbrev wsJx3cf430 : List Cond := u_ws RJx3cf43 TJx3cf43 0
theorem nmJx3cf43 : ∀ a, a < 0 → ∀ b, b < 0 → a ≠ b → (TJx3cf43 a).2.1 ≠ (TJx3cf43 b).2.1 := by decide +kernel
theorem tyJx3cf43_ok : ∀ k, k < 0 → parseFieldDescriptor (TJx3cf43 k).2.2.1 = some (tyJx3cf43 k) := by decide +kernel
def RJ7 : String := "java/util/Arrays"
def TJ7 : u_T := fun k => match k with
  | _ => ("", "", "", false)
def tyJ7 : Nat → FieldType := fun k => match k with
  | _ => .int
abbrev wsJ70 : List Cond := u_ws RJ7 TJ7 0
theorem nmJ7 : ∀ a, a < 0 → ∀ b, b < 0 → a ≠ b → (TJ7 a).2.1 ≠ (TJ7 b).2.1 := by decide +kernel
theorem tyJ7_ok : ∀ k, k < 0 → parseFieldDescriptor (TJ7 k).2.2.1 = some (tyJ7 k) := by decide +kernel
abbrev cJ7_fill_53178 : ByteArray := prog_13_method_103_code
def yJ7_fill_53178 : MethodName := ⟨RJ7, "fill", "([II)V"⟩
def RJ3 : String := "jdk/internal/util/Preconditions"
def TJ3 : u_T := fun k => match k with
  | _ => ("", "", "", false)
def tyJ3 : Nat → FieldType := fun k => match k with
  | _ => .int
abbrev wsJ30 : List Cond := u_ws RJ3 TJ3 0
theorem nmJ3 : ∀ a, a < 0 → ∀ b, b < 0 → a ≠ b → (TJ3 a).2.1 ≠ (TJ3 b).2.1 := by decide +kernel
theorem tyJ3_ok : ∀ k, k < 0 → parseFieldDescriptor (TJ3 k).2.2.1 = some (tyJ3 k) := by decide +kernel
abbrev cJ3_checkIndex_8e157 : ByteArray := prog_14_method_11_code
def yJ3_checkIndex_8e157 : MethodName := ⟨RJ3, "checkIndex", "(IILjava/util/function/BiFunction;)I"⟩
def RL : String := "MovingMarketLaw"
abbrev cL_law : ByteArray := code
def yL_law : MethodName := ⟨RL, "law", "([I)Z"⟩
abbrev vwCl : List vw_C := [(RX0, TX0, 2), (RX1, TX1, 3), (RX2, TX2, 12), (RX3, TX3, 6), (RX4, TX4, 10), (RX5, TX5, 17)]
end
section
/-! THE WORDS of the tables: AW, those that keep; each that is used, by its place -/
abbrev AW : List Cond := lw_tbl.filter goodWord
theorem gAW : GoodIn lw_tbl AW := fun w h => ⟨(List.mem_filter.mp h).1, good_of_word (List.mem_filter.mp h).2⟩
theorem aw_s {w : Cond} (i : Nat) (h : (k2_sels lw_privs)[i]? = some w) (g : goodWord w = true) : w ∈ AW := List.mem_filter.mpr ⟨List.mem_append_left _ (List.mem_of_getElem? h), g⟩
theorem aw_1 {w : Cond} (i : Nat) (h : tables_1_1[i]? = some w) (g : goodWord w = true) : w ∈ AW := List.mem_filter.mpr ⟨List.mem_append_right _ (List.mem_append_left _ (List.mem_of_getElem? h)), g⟩
theorem aw_2 {w : Cond} (i : Nat) (h : tables_1_2[i]? = some w) (g : goodWord w = true) : w ∈ AW := List.mem_filter.mpr ⟨List.mem_append_right _ (List.mem_append_right _ (List.mem_append_left _ (List.mem_of_getElem? h))), g⟩
theorem aw_3 {w : Cond} (i : Nat) (h : tables_1_3[i]? = some w) (g : goodWord w = true) : w ∈ AW := List.mem_filter.mpr ⟨List.mem_append_right _ (List.mem_append_right _ (List.mem_append_right _ (List.mem_append_left _ (List.mem_of_getElem? h)))), g⟩
theorem aw_4 {w : Cond} (i : Nat) (h : tables_1_4[i]? = some w) (g : goodWord w = true) : w ∈ AW := List.mem_filter.mpr ⟨List.mem_append_right _ (List.mem_append_right _ (List.mem_append_right _ (List.mem_append_right _ (List.mem_append_left _ (List.mem_of_getElem? h))))), g⟩
theorem aw_5 {w : Cond} (i : Nat) (h : tables_1_5[i]? = some w) (g : goodWord w = true) : w ∈ AW := List.mem_filter.mpr ⟨List.mem_append_right _ (List.mem_append_right _ (List.mem_append_right _ (List.mem_append_right _ (List.mem_append_right _ (List.mem_append_left _ (List.mem_of_getElem? h)))))), g⟩
theorem aw_6 {w : Cond} (i : Nat) (h : tables_1_6[i]? = some w) (g : goodWord w = true) : w ∈ AW := List.mem_filter.mpr ⟨List.mem_append_right _ (List.mem_append_right _ (List.mem_append_right _ (List.mem_append_right _ (List.mem_append_right _ (List.mem_append_right _ (List.mem_of_getElem? h)))))), g⟩
theorem ws_0 : Cond.selects "MovingMarket" ⟨"MovingMarket", "finding", "(I)I"⟩ ⟨"MovingMarket", "finding", "(I)I"⟩ ∈ AW := aw_s 0 rfl rfl
theorem ws_1 : Cond.selects "MovingMarket" ⟨"MovingMarket", "isStall", "(I)Z"⟩ ⟨"MovingMarket", "isStall", "(I)Z"⟩ ∈ AW := aw_s 1 rfl rfl
theorem ws_2 : Cond.selects "MovingMarket$Square" ⟨"MovingMarket$Square", "twofoldVisits", "(I)I"⟩ ⟨"MovingMarket$Square", "twofoldVisits", "(I)I"⟩ ∈ AW := aw_s 2 rfl rfl
theorem ws_3 : Cond.selects "MovingMarket" ⟨"MovingMarket", "aheadFinding", "(ZIII)I"⟩ ⟨"MovingMarket", "aheadFinding", "(ZIII)I"⟩ ∈ AW := aw_s 3 rfl rfl
theorem ws_4 : Cond.selects "MovingMarket$Square" ⟨"MovingMarket$Square", "strike", "()V"⟩ ⟨"MovingMarket$Square", "strike", "()V"⟩ ∈ AW := aw_s 4 rfl rfl
theorem ws_5 : Cond.selects "MovingMarket" ⟨"MovingMarket", "orderFinding", "(ZII)I"⟩ ⟨"MovingMarket", "orderFinding", "(ZII)I"⟩ ∈ AW := aw_s 5 rfl rfl
theorem ws_6 : Cond.selects "MovingMarket" ⟨"MovingMarket", "searchMost", "(I)I"⟩ ⟨"MovingMarket", "searchMost", "(I)I"⟩ ∈ AW := aw_s 6 rfl rfl
theorem ws_7 : Cond.selects "MovingMarket" ⟨"MovingMarket", "tryOrder", "()V"⟩ ⟨"MovingMarket", "tryOrder", "()V"⟩ ∈ AW := aw_s 7 rfl rfl
theorem ws_8 : Cond.selects "MovingMarket$Order" ⟨"MovingMarket$Order", "exchangeTaken", "(II)V"⟩ ⟨"MovingMarket$Order", "exchangeTaken", "(II)V"⟩ ∈ AW := aw_s 8 rfl rfl
theorem ws_9 : Cond.selects "MovingMarket" ⟨"MovingMarket", "swapAhead", "(III)V"⟩ ⟨"MovingMarket", "swapAhead", "(III)V"⟩ ∈ AW := aw_s 9 rfl rfl
theorem ws_10 : Cond.selects "MovingMarket" ⟨"MovingMarket", "isPair", "(II)Z"⟩ ⟨"MovingMarket", "isPair", "(II)Z"⟩ ∈ AW := aw_s 10 rfl rfl
theorem ws_11 : Cond.selects "MovingMarket" ⟨"MovingMarket", "firstBeside", "(III)I"⟩ ⟨"MovingMarket", "firstBeside", "(III)I"⟩ ∈ AW := aw_s 11 rfl rfl
theorem ws_12 : Cond.selects "MovingMarket" ⟨"MovingMarket", "coinFrom", "(III)I"⟩ ⟨"MovingMarket", "coinFrom", "(III)I"⟩ ∈ AW := aw_s 12 rfl rfl
theorem ws_13 : Cond.selects "MovingMarket$Tape" ⟨"MovingMarket$Tape", "readOn", "()V"⟩ ⟨"MovingMarket$Tape", "readOn", "()V"⟩ ∈ AW := aw_s 13 rfl rfl
theorem ws_14 : Cond.selects "MovingMarket$Tape" ⟨"MovingMarket$Tape", "isBetween", "(ICC)Z"⟩ ⟨"MovingMarket$Tape", "isBetween", "(ICC)Z"⟩ ∈ AW := aw_s 14 rfl rfl
theorem ws_15 : Cond.selects "MovingMarket$Tape" ⟨"MovingMarket$Tape", "readRun", "(CC)V"⟩ ⟨"MovingMarket$Tape", "readRun", "(CC)V"⟩ ∈ AW := aw_s 15 rfl rfl
theorem ws_16 : Cond.selects "MovingMarket$Tape" ⟨"MovingMarket$Tape", "valueOfRun", "()I"⟩ ⟨"MovingMarket$Tape", "valueOfRun", "()I"⟩ ∈ AW := aw_s 16 rfl rfl
theorem ws_17 : Cond.selects "MovingMarket$Tape" ⟨"MovingMarket$Tape", "readItem", "(LMovingMarket$Square;)Z"⟩ ⟨"MovingMarket$Tape", "readItem", "(LMovingMarket$Square;)Z"⟩ ∈ AW := aw_s 17 rfl rfl
theorem ws_18 : Cond.selects "MovingMarket$Tape" ⟨"MovingMarket$Tape", "kindOfWord", "()I"⟩ ⟨"MovingMarket$Tape", "kindOfWord", "()I"⟩ ∈ AW := aw_s 18 rfl rfl
theorem ws_19 : Cond.selects "MovingMarket$Tape" ⟨"MovingMarket$Tape", "isWord", "(Ljava/lang/String;)Z"⟩ ⟨"MovingMarket$Tape", "isWord", "(Ljava/lang/String;)Z"⟩ ∈ AW := aw_s 19 rfl rfl
theorem ws_20 : Cond.selects "MovingMarket$Tape" ⟨"MovingMarket$Tape", "readStall", "(LMovingMarket$Square;I)Z"⟩ ⟨"MovingMarket$Tape", "readStall", "(LMovingMarket$Square;I)Z"⟩ ∈ AW := aw_s 20 rfl rfl
theorem ws_21 : Cond.selects "MovingMarket$Tape" ⟨"MovingMarket$Tape", "isNumber", "(II)Z"⟩ ⟨"MovingMarket$Tape", "isNumber", "(II)Z"⟩ ∈ AW := aw_s 21 rfl rfl
theorem ws_22 : Cond.selects "MovingMarket$Tape" ⟨"MovingMarket$Tape", "readVisits", "(LMovingMarket$Square;)Z"⟩ ⟨"MovingMarket$Tape", "readVisits", "(LMovingMarket$Square;)Z"⟩ ∈ AW := aw_s 22 rfl rfl
theorem ws_23 : Cond.selects "MovingMarket$Tape" ⟨"MovingMarket$Tape", "readShade", "(LMovingMarket$Square;I)Z"⟩ ⟨"MovingMarket$Tape", "readShade", "(LMovingMarket$Square;I)Z"⟩ ∈ AW := aw_s 23 rfl rfl
theorem ws_24 : Cond.selects "MovingMarket$Tape" ⟨"MovingMarket$Tape", "readSpring", "(LMovingMarket$Square;)Z"⟩ ⟨"MovingMarket$Tape", "readSpring", "(LMovingMarket$Square;)Z"⟩ ∈ AW := aw_s 24 rfl rfl
theorem ws_25 : Cond.selects "MovingMarket" ⟨"MovingMarket", "sheetFinding", "(I)I"⟩ ⟨"MovingMarket", "sheetFinding", "(I)I"⟩ ∈ AW := aw_s 25 rfl rfl
theorem ws_26 : Cond.selects "MovingMarket" ⟨"MovingMarket", "lastWordHour", "(LMovingMarket$Sheet;)I"⟩ ⟨"MovingMarket", "lastWordHour", "(LMovingMarket$Sheet;)I"⟩ ∈ AW := aw_s 26 rfl rfl
theorem ws_27 : Cond.selects "MovingMarket" ⟨"MovingMarket", "wordsAreSo", "(LMovingMarket$Sheet;I)Z"⟩ ⟨"MovingMarket", "wordsAreSo", "(LMovingMarket$Sheet;I)Z"⟩ ∈ AW := aw_s 27 rfl rfl
theorem ws_28 : Cond.selects "MovingMarketModel" ⟨"MovingMarketModel", "finds", "(I)I"⟩ ⟨"MovingMarketModel", "finds", "(I)I"⟩ ∈ AW := aw_s 28 rfl rfl
theorem ws_29 : Cond.selects "MovingMarketModel" ⟨"MovingMarketModel", "stallAt", "(I)I"⟩ ⟨"MovingMarketModel", "stallAt", "(I)I"⟩ ∈ AW := aw_s 29 rfl rfl
theorem ws_30 : Cond.selects "MovingMarketModel" ⟨"MovingMarketModel", "its", "(II)I"⟩ ⟨"MovingMarketModel", "its", "(II)I"⟩ ∈ AW := aw_s 30 rfl rfl
theorem ws_31 : Cond.selects "MovingMarketModel" ⟨"MovingMarketModel", "newStall", "(III)I"⟩ ⟨"MovingMarketModel", "newStall", "(III)I"⟩ ∈ AW := aw_s 31 rfl rfl
theorem ws_32 : Cond.selects "MovingMarketModel" ⟨"MovingMarketModel", "isStall", "(I)Z"⟩ ⟨"MovingMarketModel", "isStall", "(I)Z"⟩ ∈ AW := aw_s 32 rfl rfl
theorem ws_33 : Cond.selects "MovingMarketModel" ⟨"MovingMarketModel", "price", "(I)I"⟩ ⟨"MovingMarketModel", "price", "(I)I"⟩ ∈ AW := aw_s 33 rfl rfl
theorem ws_34 : Cond.selects "MovingMarketModel" ⟨"MovingMarketModel", "isGoing", "(I)Z"⟩ ⟨"MovingMarketModel", "isGoing", "(I)Z"⟩ ∈ AW := aw_s 34 rfl rfl
theorem ws_35 : Cond.selects "MovingMarketModel" ⟨"MovingMarketModel", "swaps", "(II)V"⟩ ⟨"MovingMarketModel", "swaps", "(II)V"⟩ ∈ AW := aw_s 35 rfl rfl
theorem ws_36 : Cond.selects "MovingMarketModel" ⟨"MovingMarketModel", "offer", "(II)I"⟩ ⟨"MovingMarketModel", "offer", "(II)I"⟩ ∈ AW := aw_s 36 rfl rfl
theorem ws_37 : Cond.selects "MovingMarketModel" ⟨"MovingMarketModel", "isTooLate", "(I)Z"⟩ ⟨"MovingMarketModel", "isTooLate", "(I)Z"⟩ ∈ AW := aw_s 37 rfl rfl
theorem ws_38 : Cond.selects "MovingMarketModel" ⟨"MovingMarketModel", "hoursGo", "(I)I"⟩ ⟨"MovingMarketModel", "hoursGo", "(I)I"⟩ ∈ AW := aw_s 38 rfl rfl
theorem ws_39 : Cond.selects "MovingMarketModel" ⟨"MovingMarketModel", "hour", "()I"⟩ ⟨"MovingMarketModel", "hour", "()I"⟩ ∈ AW := aw_s 39 rfl rfl
theorem ws_40 : Cond.selects "MovingMarketModel" ⟨"MovingMarketModel", "sells", "(I)I"⟩ ⟨"MovingMarketModel", "sells", "(I)I"⟩ ∈ AW := aw_s 40 rfl rfl
theorem ws_41 : Cond.selects "MovingMarketModel" ⟨"MovingMarketModel", "staying", "(Z)I"⟩ ⟨"MovingMarketModel", "staying", "(Z)I"⟩ ∈ AW := aw_s 41 rfl rfl
theorem ws_42 : Cond.selects "MovingMarketModel" ⟨"MovingMarketModel", "placesOf", "(I)I"⟩ ⟨"MovingMarketModel", "placesOf", "(I)I"⟩ ∈ AW := aw_s 42 rfl rfl
theorem ws_43 : Cond.selects "MovingMarketModel" ⟨"MovingMarketModel", "saves", "()V"⟩ ⟨"MovingMarketModel", "saves", "()V"⟩ ∈ AW := aw_s 43 rfl rfl
theorem ws_44 : Cond.selects "MovingMarketModel" ⟨"MovingMarketModel", "emptySet", "()I"⟩ ⟨"MovingMarketModel", "emptySet", "()I"⟩ ∈ AW := aw_s 44 rfl rfl
theorem ws_45 : Cond.selects "MovingMarketModel" ⟨"MovingMarketModel", "everyPlace", "()I"⟩ ⟨"MovingMarketModel", "everyPlace", "()I"⟩ ∈ AW := aw_s 45 rfl rfl
theorem ws_46 : Cond.selects "MovingMarketModel" ⟨"MovingMarketModel", "sumOf", "(I)I"⟩ ⟨"MovingMarketModel", "sumOf", "(I)I"⟩ ∈ AW := aw_s 46 rfl rfl
theorem ws_47 : Cond.selects "MovingMarketModel" ⟨"MovingMarketModel", "putsBack", "()V"⟩ ⟨"MovingMarketModel", "putsBack", "()V"⟩ ∈ AW := aw_s 47 rfl rfl
theorem ws_48 : Cond.selects "MovingMarketModel" ⟨"MovingMarketModel", "orderWrong", "(I)I"⟩ ⟨"MovingMarketModel", "orderWrong", "(I)I"⟩ ∈ AW := aw_s 48 rfl rfl
theorem ws_49 : Cond.selects "MovingMarketModel" ⟨"MovingMarketModel", "bestOrder", "(II)I"⟩ ⟨"MovingMarketModel", "bestOrder", "(II)I"⟩ ∈ AW := aw_s 49 rfl rfl
theorem ws_50 : Cond.selects "MovingMarketModel" ⟨"MovingMarketModel", "firstOrder", "()V"⟩ ⟨"MovingMarketModel", "firstOrder", "()V"⟩ ∈ AW := aw_s 50 rfl rfl
theorem ws_51 : Cond.selects "MovingMarketModel" ⟨"MovingMarketModel", "lays", "()V"⟩ ⟨"MovingMarketModel", "lays", "()V"⟩ ∈ AW := aw_s 51 rfl rfl
theorem ws_52 : Cond.selects "MovingMarketModel" ⟨"MovingMarketModel", "nextOrder", "()Z"⟩ ⟨"MovingMarketModel", "nextOrder", "()Z"⟩ ∈ AW := aw_s 52 rfl rfl
theorem ws_53 : Cond.selects "MovingMarketModel" ⟨"MovingMarketModel", "coinOf", "(II)I"⟩ ⟨"MovingMarketModel", "coinOf", "(II)I"⟩ ∈ AW := aw_s 53 rfl rfl
theorem ws_54 : Cond.selects "MovingMarketModel" ⟨"MovingMarketModel", "besideSet", "(I)I"⟩ ⟨"MovingMarketModel", "besideSet", "(I)I"⟩ ∈ AW := aw_s 54 rfl rfl
theorem ws_55 : Cond.selects "MovingMarketModel" ⟨"MovingMarketModel", "isBeside", "(II)Z"⟩ ⟨"MovingMarketModel", "isBeside", "(II)Z"⟩ ∈ AW := aw_s 55 rfl rfl
theorem ws_56 : Cond.selects "MovingMarketModel" ⟨"MovingMarketModel", "isTwo", "(II)Z"⟩ ⟨"MovingMarketModel", "isTwo", "(II)Z"⟩ ∈ AW := aw_s 56 rfl rfl
theorem ws_57 : Cond.selects "MovingMarketModel" ⟨"MovingMarketModel", "worthOf", "(III)I"⟩ ⟨"MovingMarketModel", "worthOf", "(III)I"⟩ ∈ AW := aw_s 57 rfl rfl
theorem ws_58 : Cond.selects "MovingMarketModel" ⟨"MovingMarketModel", "draw", "()I"⟩ ⟨"MovingMarketModel", "draw", "()I"⟩ ∈ AW := aw_s 58 rfl rfl
theorem ws_59 : Cond.selects "MovingMarketModel" ⟨"MovingMarketModel", "token", "()V"⟩ ⟨"MovingMarketModel", "token", "()V"⟩ ∈ AW := aw_s 59 rfl rfl
theorem ws_60 : Cond.selects "MovingMarketModel" ⟨"MovingMarketModel", "byteAt", "(I)I"⟩ ⟨"MovingMarketModel", "byteAt", "(I)I"⟩ ∈ AW := aw_s 60 rfl rfl
theorem ws_61 : Cond.selects "MovingMarketModel" ⟨"MovingMarketModel", "item", "()V"⟩ ⟨"MovingMarketModel", "item", "()V"⟩ ∈ AW := aw_s 61 rfl rfl
theorem ws_62 : Cond.selects "MovingMarketModel" ⟨"MovingMarketModel", "kindHere", "()I"⟩ ⟨"MovingMarketModel", "kindHere", "()I"⟩ ∈ AW := aw_s 62 rfl rfl
theorem ws_63 : Cond.selects "MovingMarketModel" ⟨"MovingMarketModel", "word", "()J"⟩ ⟨"MovingMarketModel", "word", "()J"⟩ ∈ AW := aw_s 63 rfl rfl
theorem ws_64 : Cond.selects "MovingMarketModel" ⟨"MovingMarketModel", "stallItem", "(I)V"⟩ ⟨"MovingMarketModel", "stallItem", "(I)V"⟩ ∈ AW := aw_s 64 rfl rfl
theorem ws_65 : Cond.selects "MovingMarketModel" ⟨"MovingMarketModel", "needs", "(Z)V"⟩ ⟨"MovingMarketModel", "needs", "(Z)V"⟩ ∈ AW := aw_s 65 rfl rfl
theorem ws_66 : Cond.selects "MovingMarketModel" ⟨"MovingMarketModel", "freePlace", "()V"⟩ ⟨"MovingMarketModel", "freePlace", "()V"⟩ ∈ AW := aw_s 66 rfl rfl
theorem ws_67 : Cond.selects "MovingMarketModel" ⟨"MovingMarketModel", "perhaps", "(ZIII)I"⟩ ⟨"MovingMarketModel", "perhaps", "(ZIII)I"⟩ ∈ AW := aw_s 67 rfl rfl
theorem ws_68 : Cond.selects "MovingMarketModel" ⟨"MovingMarketModel", "number", "(II)V"⟩ ⟨"MovingMarketModel", "number", "(II)V"⟩ ∈ AW := aw_s 68 rfl rfl
theorem ws_69 : Cond.selects "MovingMarketModel" ⟨"MovingMarketModel", "visitsItem", "()V"⟩ ⟨"MovingMarketModel", "visitsItem", "()V"⟩ ∈ AW := aw_s 69 rfl rfl
theorem ws_70 : Cond.selects "MovingMarketModel" ⟨"MovingMarketModel", "wrong", "(I)I"⟩ ⟨"MovingMarketModel", "wrong", "(I)I"⟩ ∈ AW := aw_s 70 rfl rfl
theorem ws_71 : Cond.selects "MovingMarketModel" ⟨"MovingMarketModel", "isSo", "(II)Z"⟩ ⟨"MovingMarketModel", "isSo", "(II)Z"⟩ ∈ AW := aw_s 71 rfl rfl
theorem ws_72 : Cond.selects "MovingMarketModel" ⟨"MovingMarketModel", "visitsOfAll", "()I"⟩ ⟨"MovingMarketModel", "visitsOfAll", "()I"⟩ ∈ AW := aw_s 72 rfl rfl
theorem ws_73 : Cond.selects "MovingMarketModel" ⟨"MovingMarketModel", "held", "()I"⟩ ⟨"MovingMarketModel", "held", "()I"⟩ ∈ AW := aw_s 73 rfl rfl
theorem wd_1_0 : Cond.initialized "MovingMarketLaw" ∈ AW := aw_1 0 rfl rfl
theorem wd_1_1 : Cond.initialized "MovingMarket" ∈ AW := aw_1 1 rfl rfl
theorem wd_1_2 : Cond.initialized "MovingMarket$Square" ∈ AW := aw_1 2 rfl rfl
theorem wd_1_3 : Cond.initialized "java/util/Arrays" ∈ AW := aw_1 3 rfl rfl
theorem wd_1_4 : Cond.initialized "MovingMarket$Order" ∈ AW := aw_1 4 rfl rfl
theorem wd_1_5 : Cond.initialized "MovingMarket$Tape" ∈ AW := aw_1 5 rfl rfl
theorem wd_1_6 : Cond.initialized "MovingMarket$Sheet" ∈ AW := aw_1 6 rfl rfl
theorem wd_1_7 : Cond.initialized "MovingMarketModel" ∈ AW := aw_1 7 rfl rfl
theorem wd_1_8 : Cond.initialized "java/lang/Math" ∈ AW := aw_1 8 rfl rfl
theorem wd_1_9 : Cond.initialized "java/lang/System" ∈ AW := aw_1 9 rfl rfl
theorem wd_1_10 : Cond.initialized "java/lang/String" ∈ AW := aw_1 10 rfl rfl
theorem wd_1_11 : Cond.initialized "java/lang/StringLatin1" ∈ AW := aw_1 11 rfl rfl
theorem wd_1_12 : Cond.initialized "jdk/internal/util/Preconditions" ∈ AW := aw_1 12 rfl rfl
theorem wd_1_13 : Cond.initialized "java/lang/StringUTF16" ∈ AW := aw_1 13 rfl rfl
theorem wd_1_14 : Cond.classLink "MovingMarketLaw" (7 : Nat) "MovingMarket" ∈ AW := aw_1 14 rfl rfl
theorem wd_1_15 : Cond.instantiable "MovingMarket" (10 : Nat) ∈ AW := aw_1 15 rfl rfl
theorem wd_1_16 : Cond.methodLink "MovingMarketLaw" (9 : Nat) ⟨"MovingMarket", "<init>", "()V"⟩ ∈ AW := aw_1 16 rfl rfl
theorem wd_1_17 : Cond.instanceMethod ⟨"MovingMarket", "<init>", "()V"⟩ ∈ AW := aw_1 17 rfl rfl
theorem wd_1_18 : Cond.code ⟨"MovingMarket", "<init>", "()V"⟩ prog_1_method_1_code (2 : Nat) (none : Option FieldType) ∈ AW := aw_1 18 rfl rfl
theorem wd_1_19 : Cond.methodLink "MovingMarket" (1 : Nat) ⟨"java/lang/Object", "<init>", "()V"⟩ ∈ AW := aw_1 19 rfl rfl
theorem wd_1_20 : Cond.instanceMethod ⟨"java/lang/Object", "<init>", "()V"⟩ ∈ AW := aw_1 20 rfl rfl
theorem wd_1_21 : Cond.code ⟨"java/lang/Object", "<init>", "()V"⟩ object_method_1_code (1 : Nat) (none : Option FieldType) ∈ AW := aw_1 21 rfl rfl
theorem wd_1_22 : Cond.classLink "MovingMarket" (7 : Nat) "MovingMarket$Square" ∈ AW := aw_1 22 rfl rfl
theorem wd_1_23 : Cond.instantiable "MovingMarket$Square" (12 : Nat) ∈ AW := aw_1 23 rfl rfl
theorem wd_1_24 : Cond.methodLink "MovingMarket" (9 : Nat) ⟨"MovingMarket$Square", "<init>", "()V"⟩ ∈ AW := aw_1 24 rfl rfl
theorem wd_1_25 : Cond.instanceMethod ⟨"MovingMarket$Square", "<init>", "()V"⟩ ∈ AW := aw_1 25 rfl rfl
theorem wd_1_26 : Cond.code ⟨"MovingMarket$Square", "<init>", "()V"⟩ prog_4_method_1_code (1 : Nat) (none : Option FieldType) ∈ AW := aw_1 26 rfl rfl
theorem wd_1_27 : Cond.methodLink "MovingMarket$Square" (3 : Nat) ⟨"java/lang/Object", "<init>", "()V"⟩ ∈ AW := aw_1 27 rfl rfl
theorem wd_1_28 : Cond.methodLink "MovingMarket$Square" (40 : Nat) ⟨"java/util/Arrays", "fill", "([II)V"⟩ ∈ AW := aw_1 28 rfl rfl
theorem wd_1_29 : Cond.static ⟨"java/util/Arrays", "fill", "([II)V"⟩ ∈ AW := aw_1 29 rfl rfl
theorem wd_1_30 : Cond.code ⟨"java/util/Arrays", "fill", "([II)V"⟩ prog_13_method_103_code (4 : Nat) (none : Option FieldType) ∈ AW := aw_1 30 rfl rfl
theorem wd_1_31 : Cond.fieldLink "MovingMarket$Square" (9 : Nat) "MovingMarket$Square" "visitsAt" "[I" ∈ AW := aw_1 31 rfl rfl
theorem wd_1_32 : Cond.fieldLink "MovingMarket" (61 : Nat) "MovingMarket$Square" "visitsAt" "[I" ∈ AW := aw_1 32 rfl rfl
theorem wd_1_33 : Cond.fieldLink "MovingMarket$Tape" (106 : Nat) "MovingMarket$Square" "visitsAt" "[I" ∈ AW := aw_1 33 rfl rfl
theorem wd_1_34 : Cond.fieldLink "MovingMarket$Square" (15 : Nat) "MovingMarket$Square" "shadeAt" "[I" ∈ AW := aw_1 34 rfl rfl
theorem wd_1_35 : Cond.fieldLink "MovingMarket" (64 : Nat) "MovingMarket$Square" "shadeAt" "[I" ∈ AW := aw_1 35 rfl rfl
theorem wd_1_36 : Cond.fieldLink "MovingMarket$Tape" (109 : Nat) "MovingMarket$Square" "shadeAt" "[I" ∈ AW := aw_1 36 rfl rfl
theorem wd_1_37 : Cond.fieldLink "MovingMarket$Square" (18 : Nat) "MovingMarket$Square" "kindOf" "[I" ∈ AW := aw_1 37 rfl rfl
theorem wd_1_38 : Cond.fieldLink "MovingMarket" (87 : Nat) "MovingMarket$Square" "kindOf" "[I" ∈ AW := aw_1 38 rfl rfl
theorem wd_1_39 : Cond.fieldLink "MovingMarket$Square" (21 : Nat) "MovingMarket$Square" "whereIs" "[I" ∈ AW := aw_1 39 rfl rfl
theorem wd_1_40 : Cond.fieldLink "MovingMarket" (90 : Nat) "MovingMarket$Square" "whereIs" "[I" ∈ AW := aw_1 40 rfl rfl
theorem wd_1_41 : Cond.fieldLink "MovingMarket$Square" (24 : Nat) "MovingMarket$Square" "goodsOf" "[I" ∈ AW := aw_1 41 rfl rfl
theorem wd_1_42 : Cond.fieldLink "MovingMarket" (93 : Nat) "MovingMarket$Square" "goodsOf" "[I" ∈ AW := aw_1 42 rfl rfl
theorem wd_1_43 : Cond.fieldLink "MovingMarket$Tape" (99 : Nat) "MovingMarket$Square" "goodsOf" "[I" ∈ AW := aw_1 43 rfl rfl
theorem wd_1_44 : Cond.fieldLink "MovingMarket$Square" (27 : Nat) "MovingMarket$Square" "coinOf" "[I" ∈ AW := aw_1 44 rfl rfl
theorem wd_1_45 : Cond.fieldLink "MovingMarket" (96 : Nat) "MovingMarket$Square" "coinOf" "[I" ∈ AW := aw_1 45 rfl rfl
theorem wd_1_46 : Cond.fieldLink "MovingMarket$Square" (30 : Nat) "MovingMarket$Square" "soldOf" "[I" ∈ AW := aw_1 46 rfl rfl
theorem wd_1_47 : Cond.fieldLink "MovingMarket" (99 : Nat) "MovingMarket$Square" "soldOf" "[I" ∈ AW := aw_1 47 rfl rfl
theorem wd_1_48 : Cond.fieldLink "MovingMarket$Square" (33 : Nat) "MovingMarket$Square" "heldIn" "[I" ∈ AW := aw_1 48 rfl rfl
theorem wd_1_49 : Cond.fieldLink "MovingMarket" (218 : Nat) "MovingMarket$Square" "heldIn" "[I" ∈ AW := aw_1 49 rfl rfl
theorem wd_1_50 : Cond.fieldLink "MovingMarket$Square" (52 : Nat) "MovingMarket$Square" "springAt" "I" ∈ AW := aw_1 50 rfl rfl
theorem wd_1_51 : Cond.fieldLink "MovingMarket" (67 : Nat) "MovingMarket$Square" "springAt" "I" ∈ AW := aw_1 51 rfl rfl
theorem wd_1_52 : Cond.fieldLink "MovingMarket$Tape" (112 : Nat) "MovingMarket$Square" "springAt" "I" ∈ AW := aw_1 52 rfl rfl
theorem wd_1_53 : Cond.fieldLink "MovingMarket$Square" (55 : Nat) "MovingMarket$Square" "stalls" "I" ∈ AW := aw_1 53 rfl rfl
theorem wd_1_54 : Cond.fieldLink "MovingMarket" (77 : Nat) "MovingMarket$Square" "stalls" "I" ∈ AW := aw_1 54 rfl rfl
theorem wd_1_55 : Cond.fieldLink "MovingMarket$Tape" (78 : Nat) "MovingMarket$Square" "stalls" "I" ∈ AW := aw_1 55 rfl rfl
theorem wd_1_56 : Cond.fieldLink "MovingMarket$Square" (58 : Nat) "MovingMarket$Square" "hour" "I" ∈ AW := aw_1 56 rfl rfl
theorem wd_1_57 : Cond.fieldLink "MovingMarket" (261 : Nat) "MovingMarket$Square" "hour" "I" ∈ AW := aw_1 57 rfl rfl
theorem wd_1_58 : Cond.fieldLink "MovingMarket$Square" (36 : Nat) "MovingMarket$Square" "z" "I" ∈ AW := aw_1 58 rfl rfl
theorem wd_1_59 : Cond.fieldLink "MovingMarket" (201 : Nat) "MovingMarket$Square" "z" "I" ∈ AW := aw_1 59 rfl rfl
theorem wd_1_60 : Cond.laysFinal "MovingMarket$Square" "MovingMarket$Square" "visitsAt" "[I" ∈ AW := aw_1 60 rfl rfl
theorem wd_1_62 : Cond.laysFinal "MovingMarket$Square" "MovingMarket$Square" "shadeAt" "[I" ∈ AW := aw_1 62 rfl rfl
theorem wd_1_64 : Cond.laysFinal "MovingMarket$Square" "MovingMarket$Square" "kindOf" "[I" ∈ AW := aw_1 64 rfl rfl
theorem wd_1_66 : Cond.laysFinal "MovingMarket$Square" "MovingMarket$Square" "whereIs" "[I" ∈ AW := aw_1 66 rfl rfl
theorem wd_1_68 : Cond.laysFinal "MovingMarket$Square" "MovingMarket$Square" "goodsOf" "[I" ∈ AW := aw_1 68 rfl rfl
theorem wd_1_70 : Cond.laysFinal "MovingMarket$Square" "MovingMarket$Square" "coinOf" "[I" ∈ AW := aw_1 70 rfl rfl
theorem wd_1_72 : Cond.laysFinal "MovingMarket$Square" "MovingMarket$Square" "soldOf" "[I" ∈ AW := aw_1 72 rfl rfl
theorem wd_1_74 : Cond.laysFinal "MovingMarket$Square" "MovingMarket$Square" "heldIn" "[I" ∈ AW := aw_1 74 rfl rfl
theorem wd_1_76 : Cond.lays "MovingMarket$Square" "MovingMarket$Square" "springAt" "I" ∈ AW := aw_1 76 rfl rfl
theorem wd_1_78 : Cond.lays "MovingMarket$Square" "MovingMarket$Square" "stalls" "I" ∈ AW := aw_1 78 rfl rfl
theorem wd_1_80 : Cond.lays "MovingMarket$Square" "MovingMarket$Square" "hour" "I" ∈ AW := aw_1 80 rfl rfl
theorem wd_1_82 : Cond.lays "MovingMarket$Square" "MovingMarket$Square" "z" "I" ∈ AW := aw_1 82 rfl rfl
theorem wd_1_85 : Cond.arrayClass FieldType.int ∈ AW := aw_1 85 rfl rfl
theorem wd_1_86 : Cond.classLink "MovingMarket" (22 : Nat) "MovingMarket$Order" ∈ AW := aw_1 86 rfl rfl
theorem wd_1_87 : Cond.instantiable "MovingMarket$Order" (2 : Nat) ∈ AW := aw_1 87 rfl rfl
theorem wd_1_89 : Cond.instanceMethod ⟨"MovingMarket$Order", "<init>", "()V"⟩ ∈ AW := aw_1 89 rfl rfl
theorem wd_1_90 : Cond.code ⟨"MovingMarket$Order", "<init>", "()V"⟩ prog_2_method_1_code (1 : Nat) (none : Option FieldType) ∈ AW := aw_1 90 rfl rfl
theorem wd_1_91 : Cond.methodLink "MovingMarket$Order" (3 : Nat) ⟨"java/lang/Object", "<init>", "()V"⟩ ∈ AW := aw_1 91 rfl rfl
theorem wd_1_92 : Cond.fieldLink "MovingMarket$Order" (9 : Nat) "MovingMarket$Order" "taken" "[I" ∈ AW := aw_1 92 rfl rfl
theorem wd_1_93 : Cond.fieldLink "MovingMarket" (162 : Nat) "MovingMarket$Order" "taken" "[I" ∈ AW := aw_1 93 rfl rfl
theorem wd_1_94 : Cond.fieldLink "MovingMarket$Order" (15 : Nat) "MovingMarket$Order" "stalls" "I" ∈ AW := aw_1 94 rfl rfl
theorem wd_1_95 : Cond.laysFinal "MovingMarket$Order" "MovingMarket$Order" "taken" "[I" ∈ AW := aw_1 95 rfl rfl
theorem wd_1_97 : Cond.lays "MovingMarket$Order" "MovingMarket$Order" "stalls" "I" ∈ AW := aw_1 97 rfl rfl
theorem wd_1_100 : Cond.classLink "MovingMarket" (32 : Nat) "MovingMarket$Tape" ∈ AW := aw_1 100 rfl rfl
theorem wd_1_101 : Cond.instantiable "MovingMarket$Tape" (6 : Nat) ∈ AW := aw_1 101 rfl rfl
theorem wd_1_103 : Cond.instanceMethod ⟨"MovingMarket$Tape", "<init>", "()V"⟩ ∈ AW := aw_1 103 rfl rfl
theorem wd_1_104 : Cond.code ⟨"MovingMarket$Tape", "<init>", "()V"⟩ prog_5_method_1_code (1 : Nat) (none : Option FieldType) ∈ AW := aw_1 104 rfl rfl
theorem wd_1_105 : Cond.methodLink "MovingMarket$Tape" (3 : Nat) ⟨"java/lang/Object", "<init>", "()V"⟩ ∈ AW := aw_1 105 rfl rfl
theorem wd_1_106 : Cond.fieldLink "MovingMarket$Tape" (9 : Nat) "MovingMarket$Tape" "bytes" "[I" ∈ AW := aw_1 106 rfl rfl
theorem wd_1_107 : Cond.fieldLink "MovingMarket$Tape" (15 : Nat) "MovingMarket$Tape" "length" "I" ∈ AW := aw_1 107 rfl rfl
theorem wd_1_108 : Cond.fieldLink "MovingMarket" (204 : Nat) "MovingMarket$Tape" "length" "I" ∈ AW := aw_1 108 rfl rfl
theorem wd_1_109 : Cond.fieldLink "MovingMarket$Tape" (32 : Nat) "MovingMarket$Tape" "sort" "I" ∈ AW := aw_1 109 rfl rfl
theorem wd_1_110 : Cond.fieldLink "MovingMarket$Tape" (29 : Nat) "MovingMarket$Tape" "begin" "I" ∈ AW := aw_1 110 rfl rfl
theorem wd_1_111 : Cond.fieldLink "MovingMarket$Tape" (19 : Nat) "MovingMarket$Tape" "end" "I" ∈ AW := aw_1 111 rfl rfl
theorem wd_1_112 : Cond.fieldLink "MovingMarket$Tape" (47 : Nat) "MovingMarket$Tape" "value" "I" ∈ AW := aw_1 112 rfl rfl
theorem wd_1_113 : Cond.laysFinal "MovingMarket$Tape" "MovingMarket$Tape" "bytes" "[I" ∈ AW := aw_1 113 rfl rfl
theorem wd_1_115 : Cond.lays "MovingMarket$Tape" "MovingMarket$Tape" "length" "I" ∈ AW := aw_1 115 rfl rfl
theorem wd_1_117 : Cond.lays "MovingMarket$Tape" "MovingMarket$Tape" "sort" "I" ∈ AW := aw_1 117 rfl rfl
theorem wd_1_119 : Cond.lays "MovingMarket$Tape" "MovingMarket$Tape" "begin" "I" ∈ AW := aw_1 119 rfl rfl
theorem wd_1_121 : Cond.lays "MovingMarket$Tape" "MovingMarket$Tape" "end" "I" ∈ AW := aw_1 121 rfl rfl
theorem wd_1_123 : Cond.lays "MovingMarket$Tape" "MovingMarket$Tape" "value" "I" ∈ AW := aw_1 123 rfl rfl
theorem wd_1_126 : Cond.classLink "MovingMarket" (39 : Nat) "MovingMarket$Sheet" ∈ AW := aw_1 126 rfl rfl
theorem wd_1_128 : Cond.instantiable "MovingMarket$Sheet" (3 : Nat) ∈ AW := aw_1 128 rfl rfl
theorem wd_1_130 : Cond.instanceMethod ⟨"MovingMarket$Sheet", "<init>", "()V"⟩ ∈ AW := aw_1 130 rfl rfl
theorem wd_1_131 : Cond.code ⟨"MovingMarket$Sheet", "<init>", "()V"⟩ prog_3_method_1_code (1 : Nat) (none : Option FieldType) ∈ AW := aw_1 131 rfl rfl
theorem wd_1_132 : Cond.methodLink "MovingMarket$Sheet" (3 : Nat) ⟨"java/lang/Object", "<init>", "()V"⟩ ∈ AW := aw_1 132 rfl rfl
theorem wd_1_133 : Cond.fieldLink "MovingMarket$Sheet" (9 : Nat) "MovingMarket$Sheet" "numbers" "[I" ∈ AW := aw_1 133 rfl rfl
theorem wd_1_134 : Cond.fieldLink "MovingMarket" (241 : Nat) "MovingMarket$Sheet" "numbers" "[I" ∈ AW := aw_1 134 rfl rfl
theorem wd_1_135 : Cond.fieldLink "MovingMarket$Sheet" (15 : Nat) "MovingMarket$Sheet" "bits" "I" ∈ AW := aw_1 135 rfl rfl
theorem wd_1_136 : Cond.fieldLink "MovingMarket" (235 : Nat) "MovingMarket$Sheet" "bits" "I" ∈ AW := aw_1 136 rfl rfl
theorem wd_1_137 : Cond.fieldLink "MovingMarket$Sheet" (19 : Nat) "MovingMarket$Sheet" "length" "I" ∈ AW := aw_1 137 rfl rfl
theorem wd_1_138 : Cond.fieldLink "MovingMarket" (229 : Nat) "MovingMarket$Sheet" "length" "I" ∈ AW := aw_1 138 rfl rfl
theorem wd_1_139 : Cond.laysFinal "MovingMarket$Sheet" "MovingMarket$Sheet" "numbers" "[I" ∈ AW := aw_1 139 rfl rfl
theorem wd_1_141 : Cond.lays "MovingMarket$Sheet" "MovingMarket$Sheet" "bits" "I" ∈ AW := aw_1 141 rfl rfl
theorem wd_1_143 : Cond.lays "MovingMarket$Sheet" "MovingMarket$Sheet" "length" "I" ∈ AW := aw_1 143 rfl rfl
theorem wd_1_146 : Cond.fieldLink "MovingMarket" (10 : Nat) "MovingMarket" "now" "LMovingMarket$Square;" ∈ AW := aw_1 146 rfl rfl
theorem wd_1_147 : Cond.fieldLink "MovingMarket" (16 : Nat) "MovingMarket" "trial" "LMovingMarket$Square;" ∈ AW := aw_1 147 rfl rfl
theorem wd_1_148 : Cond.fieldLink "MovingMarket" (19 : Nat) "MovingMarket" "kept" "LMovingMarket$Square;" ∈ AW := aw_1 148 rfl rfl
theorem wd_1_149 : Cond.fieldLink "MovingMarket" (25 : Nat) "MovingMarket" "tried" "LMovingMarket$Order;" ∈ AW := aw_1 149 rfl rfl
theorem wd_1_150 : Cond.fieldLink "MovingMarket" (29 : Nat) "MovingMarket" "winner" "LMovingMarket$Order;" ∈ AW := aw_1 150 rfl rfl
theorem wd_1_151 : Cond.fieldLink "MovingMarket" (35 : Nat) "MovingMarket" "tape" "LMovingMarket$Tape;" ∈ AW := aw_1 151 rfl rfl
theorem wd_1_152 : Cond.fieldLink "MovingMarket" (41 : Nat) "MovingMarket" "sheets" "[LMovingMarket$Sheet;" ∈ AW := aw_1 152 rfl rfl
theorem wd_1_153 : Cond.fieldLink "MovingMarket" (45 : Nat) "MovingMarket" "plainCoin" "[I" ∈ AW := aw_1 153 rfl rfl
theorem wd_1_154 : Cond.fieldLink "MovingMarket" (49 : Nat) "MovingMarket" "told" "[I" ∈ AW := aw_1 154 rfl rfl
theorem wd_1_155 : Cond.fieldLink "MovingMarket" (257 : Nat) "MovingMarket" "isKept" "Z" ∈ AW := aw_1 155 rfl rfl
theorem wd_1_156 : Cond.laysFinal "MovingMarket" "MovingMarket" "now" "LMovingMarket$Square;" ∈ AW := aw_1 156 rfl rfl
theorem wd_1_158 : Cond.laysFinal "MovingMarket" "MovingMarket" "trial" "LMovingMarket$Square;" ∈ AW := aw_1 158 rfl rfl
theorem wd_1_160 : Cond.laysFinal "MovingMarket" "MovingMarket" "kept" "LMovingMarket$Square;" ∈ AW := aw_1 160 rfl rfl
theorem wd_1_162 : Cond.laysFinal "MovingMarket" "MovingMarket" "tried" "LMovingMarket$Order;" ∈ AW := aw_1 162 rfl rfl
theorem wd_1_164 : Cond.laysFinal "MovingMarket" "MovingMarket" "winner" "LMovingMarket$Order;" ∈ AW := aw_1 164 rfl rfl
theorem wd_1_166 : Cond.laysFinal "MovingMarket" "MovingMarket" "tape" "LMovingMarket$Tape;" ∈ AW := aw_1 166 rfl rfl
theorem wd_1_168 : Cond.laysFinal "MovingMarket" "MovingMarket" "sheets" "[LMovingMarket$Sheet;" ∈ AW := aw_1 168 rfl rfl
theorem wd_1_170 : Cond.laysFinal "MovingMarket" "MovingMarket" "plainCoin" "[I" ∈ AW := aw_1 170 rfl rfl
theorem wd_1_172 : Cond.laysFinal "MovingMarket" "MovingMarket" "told" "[I" ∈ AW := aw_1 172 rfl rfl
theorem wd_1_174 : Cond.lays "MovingMarket" "MovingMarket" "isKept" "Z" ∈ AW := aw_1 174 rfl rfl
theorem wd_1_177 : Cond.methodLink "MovingMarketLaw" (13 : Nat) ⟨"MovingMarket", "visits", "(II)I"⟩ ∈ AW := aw_1 177 rfl rfl
theorem wd_1_178 : Cond.instanceMethod ⟨"MovingMarket", "visits", "(II)I"⟩ ∈ AW := aw_1 178 rfl rfl
theorem wd_1_179 : Cond.selects "MovingMarket" ⟨"MovingMarket", "visits", "(II)I"⟩ ⟨"MovingMarket", "visits", "(II)I"⟩ ∈ AW := aw_1 179 rfl rfl
theorem wd_1_180 : Cond.code ⟨"MovingMarket", "visits", "(II)I"⟩ prog_1_method_2_code (4 : Nat) (some FieldType.int) ∈ AW := aw_1 180 rfl rfl
theorem wd_1_181 : Cond.methodLink "MovingMarket" (53 : Nat) ⟨"MovingMarket", "isPlace", "(I)Z"⟩ ∈ AW := aw_1 181 rfl rfl
theorem wd_1_182 : Cond.static ⟨"MovingMarket", "isPlace", "(I)Z"⟩ ∈ AW := aw_1 182 rfl rfl
theorem wd_1_183 : Cond.code ⟨"MovingMarket", "isPlace", "(I)Z"⟩ prog_1_method_51_code (1 : Nat) (some FieldType.boolean) ∈ AW := aw_1 183 rfl rfl
theorem wd_1_184 : Cond.methodLink "MovingMarket" (57 : Nat) ⟨"MovingMarket", "finding", "(I)I"⟩ ∈ AW := aw_1 184 rfl rfl
theorem wd_1_186 : Cond.instanceMethod ⟨"MovingMarket", "finding", "(I)I"⟩ ∈ AW := aw_1 186 rfl rfl
theorem wd_1_187 : Cond.code ⟨"MovingMarket", "finding", "(I)I"⟩ prog_1_method_50_code (2 : Nat) (some FieldType.int) ∈ AW := aw_1 187 rfl rfl
theorem wd_1_188 : Cond.constant "MovingMarket" (273 : Nat) (-1000001 : Int32) ∈ AW := aw_1 188 rfl rfl
theorem wd_1_189 : Cond.methodLink "MovingMarketLaw" (18 : Nat) ⟨"MovingMarket", "shade", "(IZ)I"⟩ ∈ AW := aw_1 189 rfl rfl
theorem wd_1_190 : Cond.instanceMethod ⟨"MovingMarket", "shade", "(IZ)I"⟩ ∈ AW := aw_1 190 rfl rfl
theorem wd_1_191 : Cond.selects "MovingMarket" ⟨"MovingMarket", "shade", "(IZ)I"⟩ ⟨"MovingMarket", "shade", "(IZ)I"⟩ ∈ AW := aw_1 191 rfl rfl
theorem wd_1_192 : Cond.code ⟨"MovingMarket", "shade", "(IZ)I"⟩ prog_1_method_3_code (4 : Nat) (some FieldType.int) ∈ AW := aw_1 192 rfl rfl
theorem wd_1_193 : Cond.methodLink "MovingMarketLaw" (23 : Nat) ⟨"MovingMarket", "spring", "(I)I"⟩ ∈ AW := aw_1 193 rfl rfl
theorem wd_1_194 : Cond.instanceMethod ⟨"MovingMarket", "spring", "(I)I"⟩ ∈ AW := aw_1 194 rfl rfl
theorem wd_1_195 : Cond.selects "MovingMarket" ⟨"MovingMarket", "spring", "(I)I"⟩ ⟨"MovingMarket", "spring", "(I)I"⟩ ∈ AW := aw_1 195 rfl rfl
theorem wd_1_196 : Cond.code ⟨"MovingMarket", "spring", "(I)I"⟩ prog_1_method_4_code (3 : Nat) (some FieldType.int) ∈ AW := aw_1 196 rfl rfl
theorem wd_1_197 : Cond.methodLink "MovingMarketLaw" (28 : Nat) ⟨"MovingMarket", "stall", "(II)I"⟩ ∈ AW := aw_1 197 rfl rfl
theorem wd_1_198 : Cond.instanceMethod ⟨"MovingMarket", "stall", "(II)I"⟩ ∈ AW := aw_1 198 rfl rfl
theorem wd_1_199 : Cond.selects "MovingMarket" ⟨"MovingMarket", "stall", "(II)I"⟩ ⟨"MovingMarket", "stall", "(II)I"⟩ ∈ AW := aw_1 199 rfl rfl
theorem wd_1_200 : Cond.code ⟨"MovingMarket", "stall", "(II)I"⟩ prog_1_method_5_code (3 : Nat) (some FieldType.int) ∈ AW := aw_1 200 rfl rfl
theorem wd_1_201 : Cond.methodLink "MovingMarket" (71 : Nat) ⟨"MovingMarket", "isKind", "(I)Z"⟩ ∈ AW := aw_1 201 rfl rfl
theorem wd_1_202 : Cond.static ⟨"MovingMarket", "isKind", "(I)Z"⟩ ∈ AW := aw_1 202 rfl rfl
theorem wd_1_203 : Cond.code ⟨"MovingMarket", "isKind", "(I)Z"⟩ prog_1_method_52_code (1 : Nat) (some FieldType.boolean) ∈ AW := aw_1 203 rfl rfl
theorem wd_1_204 : Cond.methodLink "MovingMarket" (74 : Nat) ⟨"MovingMarket$Square", "stallAt", "(I)I"⟩ ∈ AW := aw_1 204 rfl rfl
theorem wd_1_205 : Cond.instanceMethod ⟨"MovingMarket$Square", "stallAt", "(I)I"⟩ ∈ AW := aw_1 205 rfl rfl
theorem wd_1_206 : Cond.selects "MovingMarket$Square" ⟨"MovingMarket$Square", "stallAt", "(I)I"⟩ ⟨"MovingMarket$Square", "stallAt", "(I)I"⟩ ∈ AW := aw_1 206 rfl rfl
theorem wd_1_207 : Cond.code ⟨"MovingMarket$Square", "stallAt", "(I)I"⟩ prog_4_method_4_code (3 : Nat) (some FieldType.int) ∈ AW := aw_1 207 rfl rfl
theorem wd_1_208 : Cond.methodLink "MovingMarket" (80 : Nat) ⟨"MovingMarket$Square", "addStall", "(II)I"⟩ ∈ AW := aw_1 208 rfl rfl
theorem wd_1_209 : Cond.instanceMethod ⟨"MovingMarket$Square", "addStall", "(II)I"⟩ ∈ AW := aw_1 209 rfl rfl
theorem wd_1_210 : Cond.selects "MovingMarket$Square" ⟨"MovingMarket$Square", "addStall", "(II)I"⟩ ⟨"MovingMarket$Square", "addStall", "(II)I"⟩ ∈ AW := aw_1 210 rfl rfl
theorem wd_1_211 : Cond.code ⟨"MovingMarket$Square", "addStall", "(II)I"⟩ prog_4_method_3_code (4 : Nat) (some FieldType.int) ∈ AW := aw_1 211 rfl rfl
theorem wd_1_212 : Cond.methodLink "MovingMarketLaw" (32 : Nat) ⟨"MovingMarket", "of", "(II)I"⟩ ∈ AW := aw_1 212 rfl rfl
theorem wd_1_213 : Cond.instanceMethod ⟨"MovingMarket", "of", "(II)I"⟩ ∈ AW := aw_1 213 rfl rfl
theorem wd_1_214 : Cond.selects "MovingMarket" ⟨"MovingMarket", "of", "(II)I"⟩ ⟨"MovingMarket", "of", "(II)I"⟩ ∈ AW := aw_1 214 rfl rfl
theorem wd_1_215 : Cond.code ⟨"MovingMarket", "of", "(II)I"⟩ prog_1_method_6_code (3 : Nat) (some FieldType.int) ∈ AW := aw_1 215 rfl rfl
theorem wd_1_216 : Cond.methodLink "MovingMarket" (84 : Nat) ⟨"MovingMarket", "isStall", "(I)Z"⟩ ∈ AW := aw_1 216 rfl rfl
theorem wd_1_218 : Cond.instanceMethod ⟨"MovingMarket", "isStall", "(I)Z"⟩ ∈ AW := aw_1 218 rfl rfl
theorem wd_1_219 : Cond.code ⟨"MovingMarket", "isStall", "(I)Z"⟩ prog_1_method_55_code (2 : Nat) (some FieldType.boolean) ∈ AW := aw_1 219 rfl rfl
theorem wd_1_220 : Cond.methodLink "MovingMarket" (102 : Nat) ⟨"MovingMarket$Square", "priceOf", "(I)I"⟩ ∈ AW := aw_1 220 rfl rfl
theorem wd_1_221 : Cond.instanceMethod ⟨"MovingMarket$Square", "priceOf", "(I)I"⟩ ∈ AW := aw_1 221 rfl rfl
theorem wd_1_222 : Cond.selects "MovingMarket$Square" ⟨"MovingMarket$Square", "priceOf", "(I)I"⟩ ⟨"MovingMarket$Square", "priceOf", "(I)I"⟩ ∈ AW := aw_1 222 rfl rfl
theorem wd_1_223 : Cond.code ⟨"MovingMarket$Square", "priceOf", "(I)I"⟩ prog_4_method_6_code (2 : Nat) (some FieldType.int) ∈ AW := aw_1 223 rfl rfl
theorem wd_1_226 : Cond.methodLink "MovingMarket" (105 : Nat) ⟨"MovingMarket$Square", "wouldGo", "(I)Z"⟩ ∈ AW := aw_1 226 rfl rfl
theorem wd_1_227 : Cond.instanceMethod ⟨"MovingMarket$Square", "wouldGo", "(I)Z"⟩ ∈ AW := aw_1 227 rfl rfl
theorem wd_1_228 : Cond.selects "MovingMarket$Square" ⟨"MovingMarket$Square", "wouldGo", "(I)Z"⟩ ⟨"MovingMarket$Square", "wouldGo", "(I)Z"⟩ ∈ AW := aw_1 228 rfl rfl
theorem wd_1_229 : Cond.code ⟨"MovingMarket$Square", "wouldGo", "(I)Z"⟩ prog_4_method_7_code (2 : Nat) (some FieldType.boolean) ∈ AW := aw_1 229 rfl rfl
theorem wd_1_230 : Cond.methodLink "MovingMarketLaw" (36 : Nat) ⟨"MovingMarket", "change", "(III)I"⟩ ∈ AW := aw_1 230 rfl rfl
theorem wd_1_231 : Cond.instanceMethod ⟨"MovingMarket", "change", "(III)I"⟩ ∈ AW := aw_1 231 rfl rfl
theorem wd_1_232 : Cond.selects "MovingMarket" ⟨"MovingMarket", "change", "(III)I"⟩ ⟨"MovingMarket", "change", "(III)I"⟩ ∈ AW := aw_1 232 rfl rfl
theorem wd_1_233 : Cond.code ⟨"MovingMarket", "change", "(III)I"⟩ prog_1_method_7_code (5 : Nat) (some FieldType.int) ∈ AW := aw_1 233 rfl rfl
theorem wd_1_234 : Cond.methodLink "MovingMarketLaw" (41 : Nat) ⟨"MovingMarket", "swap", "(II)I"⟩ ∈ AW := aw_1 234 rfl rfl
theorem wd_1_235 : Cond.instanceMethod ⟨"MovingMarket", "swap", "(II)I"⟩ ∈ AW := aw_1 235 rfl rfl
theorem wd_1_236 : Cond.selects "MovingMarket" ⟨"MovingMarket", "swap", "(II)I"⟩ ⟨"MovingMarket", "swap", "(II)I"⟩ ∈ AW := aw_1 236 rfl rfl
theorem wd_1_237 : Cond.code ⟨"MovingMarket", "swap", "(II)I"⟩ prog_1_method_8_code (3 : Nat) (some FieldType.int) ∈ AW := aw_1 237 rfl rfl
theorem wd_1_238 : Cond.methodLink "MovingMarket" (108 : Nat) ⟨"MovingMarket$Square", "exchange", "(II)V"⟩ ∈ AW := aw_1 238 rfl rfl
theorem wd_1_239 : Cond.instanceMethod ⟨"MovingMarket$Square", "exchange", "(II)V"⟩ ∈ AW := aw_1 239 rfl rfl
theorem wd_2_0 : Cond.selects "MovingMarket$Square" ⟨"MovingMarket$Square", "exchange", "(II)V"⟩ ⟨"MovingMarket$Square", "exchange", "(II)V"⟩ ∈ AW := aw_2 0 rfl rfl
theorem wd_2_1 : Cond.code ⟨"MovingMarket$Square", "exchange", "(II)V"⟩ prog_4_method_10_code (4 : Nat) (none : Option FieldType) ∈ AW := aw_2 1 rfl rfl
theorem wd_2_2 : Cond.methodLink "MovingMarketLaw" (45 : Nat) ⟨"MovingMarket", "offers", "(II)I"⟩ ∈ AW := aw_2 2 rfl rfl
theorem wd_2_3 : Cond.instanceMethod ⟨"MovingMarket", "offers", "(II)I"⟩ ∈ AW := aw_2 3 rfl rfl
theorem wd_2_4 : Cond.selects "MovingMarket" ⟨"MovingMarket", "offers", "(II)I"⟩ ⟨"MovingMarket", "offers", "(II)I"⟩ ∈ AW := aw_2 4 rfl rfl
theorem wd_2_5 : Cond.code ⟨"MovingMarket", "offers", "(II)I"⟩ prog_1_method_9_code (3 : Nat) (some FieldType.int) ∈ AW := aw_2 5 rfl rfl
theorem wd_2_6 : Cond.methodLink "MovingMarket" (112 : Nat) ⟨"MovingMarket$Square", "offerAt", "(II)I"⟩ ∈ AW := aw_2 6 rfl rfl
theorem wd_2_7 : Cond.instanceMethod ⟨"MovingMarket$Square", "offerAt", "(II)I"⟩ ∈ AW := aw_2 7 rfl rfl
theorem wd_2_8 : Cond.selects "MovingMarket$Square" ⟨"MovingMarket$Square", "offerAt", "(II)I"⟩ ⟨"MovingMarket$Square", "offerAt", "(II)I"⟩ ∈ AW := aw_2 8 rfl rfl
theorem wd_2_9 : Cond.code ⟨"MovingMarket$Square", "offerAt", "(II)I"⟩ prog_4_method_8_code (3 : Nat) (some FieldType.int) ∈ AW := aw_2 9 rfl rfl
theorem wd_2_10 : Cond.methodLink "MovingMarket$Square" (67 : Nat) ⟨"MovingMarket$Square", "twofoldVisits", "(I)I"⟩ ∈ AW := aw_2 10 rfl rfl
theorem wd_2_12 : Cond.instanceMethod ⟨"MovingMarket$Square", "twofoldVisits", "(I)I"⟩ ∈ AW := aw_2 12 rfl rfl
theorem wd_2_13 : Cond.code ⟨"MovingMarket$Square", "twofoldVisits", "(I)I"⟩ prog_4_method_9_code (2 : Nat) (some FieldType.int) ∈ AW := aw_2 13 rfl rfl
theorem wd_2_14 : Cond.methodLink "MovingMarketLaw" (49 : Nat) ⟨"MovingMarket", "placeOf", "(II)I"⟩ ∈ AW := aw_2 14 rfl rfl
theorem wd_2_15 : Cond.instanceMethod ⟨"MovingMarket", "placeOf", "(II)I"⟩ ∈ AW := aw_2 15 rfl rfl
theorem wd_2_16 : Cond.selects "MovingMarket" ⟨"MovingMarket", "placeOf", "(II)I"⟩ ⟨"MovingMarket", "placeOf", "(II)I"⟩ ∈ AW := aw_2 16 rfl rfl
theorem wd_2_17 : Cond.code ⟨"MovingMarket", "placeOf", "(II)I"⟩ prog_1_method_10_code (3 : Nat) (some FieldType.int) ∈ AW := aw_2 17 rfl rfl
theorem wd_2_18 : Cond.methodLink "MovingMarketLaw" (53 : Nat) ⟨"MovingMarket", "hours", "(I)I"⟩ ∈ AW := aw_2 18 rfl rfl
theorem wd_2_19 : Cond.instanceMethod ⟨"MovingMarket", "hours", "(I)I"⟩ ∈ AW := aw_2 19 rfl rfl
theorem wd_2_20 : Cond.selects "MovingMarket" ⟨"MovingMarket", "hours", "(I)I"⟩ ⟨"MovingMarket", "hours", "(I)I"⟩ ∈ AW := aw_2 20 rfl rfl
theorem wd_2_21 : Cond.code ⟨"MovingMarket", "hours", "(I)I"⟩ prog_1_method_11_code (3 : Nat) (some FieldType.int) ∈ AW := aw_2 21 rfl rfl
theorem wd_2_22 : Cond.methodLink "MovingMarket" (115 : Nat) ⟨"MovingMarket", "aheadFinding", "(ZIII)I"⟩ ∈ AW := aw_2 22 rfl rfl
theorem wd_2_24 : Cond.instanceMethod ⟨"MovingMarket", "aheadFinding", "(ZIII)I"⟩ ∈ AW := aw_2 24 rfl rfl
theorem wd_2_25 : Cond.code ⟨"MovingMarket", "aheadFinding", "(ZIII)I"⟩ prog_1_method_57_code (5 : Nat) (some FieldType.int) ∈ AW := aw_2 25 rfl rfl
theorem wd_2_26 : Cond.methodLink "MovingMarket" (119 : Nat) ⟨"MovingMarket$Square", "passHours", "(I)I"⟩ ∈ AW := aw_2 26 rfl rfl
theorem wd_2_27 : Cond.instanceMethod ⟨"MovingMarket$Square", "passHours", "(I)I"⟩ ∈ AW := aw_2 27 rfl rfl
theorem wd_2_28 : Cond.selects "MovingMarket$Square" ⟨"MovingMarket$Square", "passHours", "(I)I"⟩ ⟨"MovingMarket$Square", "passHours", "(I)I"⟩ ∈ AW := aw_2 28 rfl rfl
theorem wd_2_29 : Cond.code ⟨"MovingMarket$Square", "passHours", "(I)I"⟩ prog_4_method_12_code (4 : Nat) (some FieldType.int) ∈ AW := aw_2 29 rfl rfl
theorem wd_2_30 : Cond.methodLink "MovingMarket$Square" (74 : Nat) ⟨"MovingMarket$Square", "passHour", "()I"⟩ ∈ AW := aw_2 30 rfl rfl
theorem wd_2_31 : Cond.instanceMethod ⟨"MovingMarket$Square", "passHour", "()I"⟩ ∈ AW := aw_2 31 rfl rfl
theorem wd_2_32 : Cond.selects "MovingMarket$Square" ⟨"MovingMarket$Square", "passHour", "()I"⟩ ⟨"MovingMarket$Square", "passHour", "()I"⟩ ∈ AW := aw_2 32 rfl rfl
theorem wd_2_33 : Cond.code ⟨"MovingMarket$Square", "passHour", "()I"⟩ prog_4_method_13_code (2 : Nat) (some FieldType.int) ∈ AW := aw_2 33 rfl rfl
theorem wd_2_34 : Cond.methodLink "MovingMarket$Square" (78 : Nat) ⟨"MovingMarket$Square", "sellAll", "()I"⟩ ∈ AW := aw_2 34 rfl rfl
theorem wd_2_35 : Cond.instanceMethod ⟨"MovingMarket$Square", "sellAll", "()I"⟩ ∈ AW := aw_2 35 rfl rfl
theorem wd_2_36 : Cond.selects "MovingMarket$Square" ⟨"MovingMarket$Square", "sellAll", "()I"⟩ ⟨"MovingMarket$Square", "sellAll", "()I"⟩ ∈ AW := aw_2 36 rfl rfl
theorem wd_2_37 : Cond.code ⟨"MovingMarket$Square", "sellAll", "()I"⟩ prog_4_method_14_code (4 : Nat) (some FieldType.int) ∈ AW := aw_2 37 rfl rfl
theorem wd_2_38 : Cond.methodLink "MovingMarket$Square" (84 : Nat) ⟨"MovingMarket$Square", "offerAt", "(II)I"⟩ ∈ AW := aw_2 38 rfl rfl
theorem wd_2_39 : Cond.methodLink "MovingMarket$Square" (88 : Nat) ⟨"java/lang/Math", "min", "(II)I"⟩ ∈ AW := aw_2 39 rfl rfl
theorem wd_2_40 : Cond.static ⟨"java/lang/Math", "min", "(II)I"⟩ ∈ AW := aw_2 40 rfl rfl
theorem wd_2_41 : Cond.code ⟨"java/lang/Math", "min", "(II)I"⟩ prog_8_method_69_code (2 : Nat) (some FieldType.int) ∈ AW := aw_2 41 rfl rfl
theorem wd_2_42 : Cond.methodLink "MovingMarket$Square" (93 : Nat) ⟨"MovingMarket$Square", "priceOf", "(I)I"⟩ ∈ AW := aw_2 42 rfl rfl
theorem wd_2_43 : Cond.methodLink "MovingMarket$Square" (81 : Nat) ⟨"MovingMarket$Square", "strike", "()V"⟩ ∈ AW := aw_2 43 rfl rfl
theorem wd_2_45 : Cond.instanceMethod ⟨"MovingMarket$Square", "strike", "()V"⟩ ∈ AW := aw_2 45 rfl rfl
theorem wd_2_46 : Cond.code ⟨"MovingMarket$Square", "strike", "()V"⟩ prog_4_method_15_code (4 : Nat) (none : Option FieldType) ∈ AW := aw_2 46 rfl rfl
theorem wd_2_47 : Cond.methodLink "MovingMarket$Square" (96 : Nat) ⟨"MovingMarket$Square", "stayers", "()I"⟩ ∈ AW := aw_2 47 rfl rfl
theorem wd_2_48 : Cond.instanceMethod ⟨"MovingMarket$Square", "stayers", "()I"⟩ ∈ AW := aw_2 48 rfl rfl
theorem wd_2_49 : Cond.selects "MovingMarket$Square" ⟨"MovingMarket$Square", "stayers", "()I"⟩ ⟨"MovingMarket$Square", "stayers", "()I"⟩ ∈ AW := aw_2 49 rfl rfl
theorem wd_2_50 : Cond.code ⟨"MovingMarket$Square", "stayers", "()I"⟩ prog_4_method_16_code (3 : Nat) (some FieldType.int) ∈ AW := aw_2 50 rfl rfl
theorem wd_2_51 : Cond.methodLink "MovingMarket$Square" (105 : Nat) ⟨"MovingMarket$Square", "wouldGo", "(I)Z"⟩ ∈ AW := aw_2 51 rfl rfl
theorem wd_2_52 : Cond.methodLink "MovingMarket$Square" (99 : Nat) ⟨"MovingMarket$Square", "placesOf", "(I)I"⟩ ∈ AW := aw_2 52 rfl rfl
theorem wd_2_53 : Cond.instanceMethod ⟨"MovingMarket$Square", "placesOf", "(I)I"⟩ ∈ AW := aw_2 53 rfl rfl
theorem wd_2_54 : Cond.selects "MovingMarket$Square" ⟨"MovingMarket$Square", "placesOf", "(I)I"⟩ ⟨"MovingMarket$Square", "placesOf", "(I)I"⟩ ∈ AW := aw_2 54 rfl rfl
theorem wd_2_55 : Cond.code ⟨"MovingMarket$Square", "placesOf", "(I)I"⟩ prog_4_method_17_code (4 : Nat) (some FieldType.int) ∈ AW := aw_2 55 rfl rfl
theorem wd_2_56 : Cond.methodLink "MovingMarket$Square" (102 : Nat) ⟨"MovingMarket$Square", "stepsFrom", "(II)I"⟩ ∈ AW := aw_2 56 rfl rfl
theorem wd_2_57 : Cond.instanceMethod ⟨"MovingMarket$Square", "stepsFrom", "(II)I"⟩ ∈ AW := aw_2 57 rfl rfl
theorem wd_2_58 : Cond.selects "MovingMarket$Square" ⟨"MovingMarket$Square", "stepsFrom", "(II)I"⟩ ⟨"MovingMarket$Square", "stepsFrom", "(II)I"⟩ ∈ AW := aw_2 58 rfl rfl
theorem wd_2_59 : Cond.code ⟨"MovingMarket$Square", "stepsFrom", "(II)I"⟩ prog_4_method_18_code (4 : Nat) (some FieldType.int) ∈ AW := aw_2 59 rfl rfl
theorem wd_2_60 : Cond.methodLink "MovingMarketLaw" (57 : Nat) ⟨"MovingMarket", "stay", "()I"⟩ ∈ AW := aw_2 60 rfl rfl
theorem wd_2_61 : Cond.instanceMethod ⟨"MovingMarket", "stay", "()I"⟩ ∈ AW := aw_2 61 rfl rfl
theorem wd_2_62 : Cond.selects "MovingMarket" ⟨"MovingMarket", "stay", "()I"⟩ ⟨"MovingMarket", "stay", "()I"⟩ ∈ AW := aw_2 62 rfl rfl
theorem wd_2_63 : Cond.code ⟨"MovingMarket", "stay", "()I"⟩ prog_1_method_12_code (1 : Nat) (some FieldType.int) ∈ AW := aw_2 63 rfl rfl
theorem wd_2_64 : Cond.methodLink "MovingMarket" (122 : Nat) ⟨"MovingMarket$Square", "become", "(LMovingMarket$Square;)V"⟩ ∈ AW := aw_2 64 rfl rfl
theorem wd_2_65 : Cond.instanceMethod ⟨"MovingMarket$Square", "become", "(LMovingMarket$Square;)V"⟩ ∈ AW := aw_2 65 rfl rfl
theorem wd_2_66 : Cond.selects "MovingMarket$Square" ⟨"MovingMarket$Square", "become", "(LMovingMarket$Square;)V"⟩ ⟨"MovingMarket$Square", "become", "(LMovingMarket$Square;)V"⟩ ∈ AW := aw_2 66 rfl rfl
theorem wd_2_67 : Cond.code ⟨"MovingMarket$Square", "become", "(LMovingMarket$Square;)V"⟩ prog_4_method_2_code (2 : Nat) (none : Option FieldType) ∈ AW := aw_2 67 rfl rfl
theorem wd_2_68 : Cond.methodLink "MovingMarket$Square" (46 : Nat) ⟨"java/lang/System", "arraycopy", "(Ljava/lang/Object;ILjava/lang/Object;II)V"⟩ ∈ AW := aw_2 68 rfl rfl
theorem wd_2_69 : Cond.static ⟨"java/lang/System", "arraycopy", "(Ljava/lang/Object;ILjava/lang/Object;II)V"⟩ ∈ AW := aw_2 69 rfl rfl
theorem wd_2_70 : Cond.native ⟨"java/lang/System", "arraycopy", "(Ljava/lang/Object;ILjava/lang/Object;II)V"⟩ ∈ AW := aw_2 70 rfl rfl
theorem wd_2_71 : Cond.methodLink "MovingMarket" (126 : Nat) ⟨"MovingMarket$Square", "sellAll", "()I"⟩ ∈ AW := aw_2 71 rfl rfl
theorem wd_2_72 : Cond.methodLink "MovingMarket" (130 : Nat) ⟨"MovingMarket$Square", "stayers", "()I"⟩ ∈ AW := aw_2 72 rfl rfl
theorem wd_2_73 : Cond.methodLink "MovingMarketLaw" (62 : Nat) ⟨"MovingMarket", "ahead", "(II)I"⟩ ∈ AW := aw_2 73 rfl rfl
theorem wd_2_74 : Cond.instanceMethod ⟨"MovingMarket", "ahead", "(II)I"⟩ ∈ AW := aw_2 74 rfl rfl
theorem wd_2_75 : Cond.selects "MovingMarket" ⟨"MovingMarket", "ahead", "(II)I"⟩ ⟨"MovingMarket", "ahead", "(II)I"⟩ ∈ AW := aw_2 75 rfl rfl
theorem wd_2_76 : Cond.code ⟨"MovingMarket", "ahead", "(II)I"⟩ prog_1_method_13_code (5 : Nat) (some FieldType.int) ∈ AW := aw_2 76 rfl rfl
theorem wd_2_77 : Cond.methodLink "MovingMarket" (133 : Nat) ⟨"MovingMarket$Square", "soldOut", "()I"⟩ ∈ AW := aw_2 77 rfl rfl
theorem wd_2_78 : Cond.instanceMethod ⟨"MovingMarket$Square", "soldOut", "()I"⟩ ∈ AW := aw_2 78 rfl rfl
theorem wd_2_79 : Cond.selects "MovingMarket$Square" ⟨"MovingMarket$Square", "soldOut", "()I"⟩ ⟨"MovingMarket$Square", "soldOut", "()I"⟩ ∈ AW := aw_2 79 rfl rfl
theorem wd_2_80 : Cond.code ⟨"MovingMarket$Square", "soldOut", "()I"⟩ prog_4_method_22_code (3 : Nat) (some FieldType.int) ∈ AW := aw_2 80 rfl rfl
theorem wd_2_81 : Cond.methodLink "MovingMarket" (136 : Nat) ⟨"MovingMarket$Square", "freePlaces", "()I"⟩ ∈ AW := aw_2 81 rfl rfl
theorem wd_2_82 : Cond.instanceMethod ⟨"MovingMarket$Square", "freePlaces", "()I"⟩ ∈ AW := aw_2 82 rfl rfl
theorem wd_2_83 : Cond.selects "MovingMarket$Square" ⟨"MovingMarket$Square", "freePlaces", "()I"⟩ ⟨"MovingMarket$Square", "freePlaces", "()I"⟩ ∈ AW := aw_2 83 rfl rfl
theorem wd_2_84 : Cond.code ⟨"MovingMarket$Square", "freePlaces", "()I"⟩ prog_4_method_23_code (1 : Nat) (some FieldType.int) ∈ AW := aw_2 84 rfl rfl
theorem wd_2_85 : Cond.methodLink "MovingMarket" (139 : Nat) ⟨"MovingMarket$Square", "allCoin", "()I"⟩ ∈ AW := aw_2 85 rfl rfl
theorem wd_2_86 : Cond.instanceMethod ⟨"MovingMarket$Square", "allCoin", "()I"⟩ ∈ AW := aw_2 86 rfl rfl
theorem wd_2_87 : Cond.selects "MovingMarket$Square" ⟨"MovingMarket$Square", "allCoin", "()I"⟩ ⟨"MovingMarket$Square", "allCoin", "()I"⟩ ∈ AW := aw_2 87 rfl rfl
theorem wd_2_88 : Cond.code ⟨"MovingMarket$Square", "allCoin", "()I"⟩ prog_4_method_24_code (3 : Nat) (some FieldType.int) ∈ AW := aw_2 88 rfl rfl
theorem wd_2_89 : Cond.methodLink "MovingMarketLaw" (66 : Nat) ⟨"MovingMarket", "when", "(II)I"⟩ ∈ AW := aw_2 89 rfl rfl
theorem wd_2_90 : Cond.instanceMethod ⟨"MovingMarket", "when", "(II)I"⟩ ∈ AW := aw_2 90 rfl rfl
theorem wd_2_91 : Cond.selects "MovingMarket" ⟨"MovingMarket", "when", "(II)I"⟩ ⟨"MovingMarket", "when", "(II)I"⟩ ∈ AW := aw_2 91 rfl rfl
theorem wd_2_92 : Cond.code ⟨"MovingMarket", "when", "(II)I"⟩ prog_1_method_14_code (5 : Nat) (some FieldType.int) ∈ AW := aw_2 92 rfl rfl
theorem wd_2_93 : Cond.methodLink "MovingMarket" (142 : Nat) ⟨"MovingMarket$Square", "passHour", "()I"⟩ ∈ AW := aw_2 93 rfl rfl
theorem wd_2_94 : Cond.methodLink "MovingMarketLaw" (70 : Nat) ⟨"MovingMarket", "empty", "(I)I"⟩ ∈ AW := aw_2 94 rfl rfl
theorem wd_2_95 : Cond.instanceMethod ⟨"MovingMarket", "empty", "(I)I"⟩ ∈ AW := aw_2 95 rfl rfl
theorem wd_2_96 : Cond.selects "MovingMarket" ⟨"MovingMarket", "empty", "(I)I"⟩ ⟨"MovingMarket", "empty", "(I)I"⟩ ∈ AW := aw_2 96 rfl rfl
theorem wd_2_97 : Cond.code ⟨"MovingMarket", "empty", "(I)I"⟩ prog_1_method_15_code (4 : Nat) (some FieldType.int) ∈ AW := aw_2 97 rfl rfl
theorem wd_2_98 : Cond.methodLink "MovingMarketLaw" (74 : Nat) ⟨"MovingMarket", "again", "()I"⟩ ∈ AW := aw_2 98 rfl rfl
theorem wd_2_99 : Cond.instanceMethod ⟨"MovingMarket", "again", "()I"⟩ ∈ AW := aw_2 99 rfl rfl
theorem wd_2_100 : Cond.selects "MovingMarket" ⟨"MovingMarket", "again", "()I"⟩ ⟨"MovingMarket", "again", "()I"⟩ ∈ AW := aw_2 100 rfl rfl
theorem wd_2_101 : Cond.code ⟨"MovingMarket", "again", "()I"⟩ prog_1_method_16_code (3 : Nat) (some FieldType.int) ∈ AW := aw_2 101 rfl rfl
theorem wd_2_102 : Cond.methodLink "MovingMarket" (145 : Nat) ⟨"MovingMarket$Square", "standsLike", "(LMovingMarket$Square;)Z"⟩ ∈ AW := aw_2 102 rfl rfl
theorem wd_2_103 : Cond.instanceMethod ⟨"MovingMarket$Square", "standsLike", "(LMovingMarket$Square;)Z"⟩ ∈ AW := aw_2 103 rfl rfl
theorem wd_2_104 : Cond.selects "MovingMarket$Square" ⟨"MovingMarket$Square", "standsLike", "(LMovingMarket$Square;)Z"⟩ ⟨"MovingMarket$Square", "standsLike", "(LMovingMarket$Square;)Z"⟩ ∈ AW := aw_2 104 rfl rfl
theorem wd_2_105 : Cond.code ⟨"MovingMarket$Square", "standsLike", "(LMovingMarket$Square;)Z"⟩ prog_4_method_19_code (3 : Nat) (some FieldType.boolean) ∈ AW := aw_2 105 rfl rfl
theorem wd_2_106 : Cond.methodLink "MovingMarketLaw" (78 : Nat) ⟨"MovingMarket", "there", "(II)I"⟩ ∈ AW := aw_2 106 rfl rfl
theorem wd_2_107 : Cond.instanceMethod ⟨"MovingMarket", "there", "(II)I"⟩ ∈ AW := aw_2 107 rfl rfl
theorem wd_2_108 : Cond.selects "MovingMarket" ⟨"MovingMarket", "there", "(II)I"⟩ ⟨"MovingMarket", "there", "(II)I"⟩ ∈ AW := aw_2 108 rfl rfl
theorem wd_2_109 : Cond.code ⟨"MovingMarket", "there", "(II)I"⟩ prog_1_method_17_code (5 : Nat) (some FieldType.int) ∈ AW := aw_2 109 rfl rfl
theorem wd_2_110 : Cond.methodLink "MovingMarketLaw" (82 : Nat) ⟨"MovingMarket", "passes", "(I)I"⟩ ∈ AW := aw_2 110 rfl rfl
theorem wd_2_111 : Cond.instanceMethod ⟨"MovingMarket", "passes", "(I)I"⟩ ∈ AW := aw_2 111 rfl rfl
theorem wd_2_112 : Cond.selects "MovingMarket" ⟨"MovingMarket", "passes", "(I)I"⟩ ⟨"MovingMarket", "passes", "(I)I"⟩ ∈ AW := aw_2 112 rfl rfl
theorem wd_2_113 : Cond.code ⟨"MovingMarket", "passes", "(I)I"⟩ prog_1_method_18_code (4 : Nat) (some FieldType.int) ∈ AW := aw_2 113 rfl rfl
theorem wd_2_114 : Cond.methodLink "MovingMarket" (149 : Nat) ⟨"MovingMarket$Square", "placesOf", "(I)I"⟩ ∈ AW := aw_2 114 rfl rfl
theorem wd_2_115 : Cond.methodLink "MovingMarket" (152 : Nat) ⟨"MovingMarket$Square", "stepsFrom", "(II)I"⟩ ∈ AW := aw_2 115 rfl rfl
theorem wd_2_116 : Cond.methodLink "MovingMarketLaw" (86 : Nat) ⟨"MovingMarket", "most", "(I)I"⟩ ∈ AW := aw_2 116 rfl rfl
theorem wd_2_117 : Cond.instanceMethod ⟨"MovingMarket", "most", "(I)I"⟩ ∈ AW := aw_2 117 rfl rfl
theorem wd_2_118 : Cond.selects "MovingMarket" ⟨"MovingMarket", "most", "(I)I"⟩ ⟨"MovingMarket", "most", "(I)I"⟩ ∈ AW := aw_2 118 rfl rfl
theorem wd_2_119 : Cond.code ⟨"MovingMarket", "most", "(I)I"⟩ prog_1_method_19_code (3 : Nat) (some FieldType.int) ∈ AW := aw_2 119 rfl rfl
theorem wd_2_120 : Cond.methodLink "MovingMarket" (155 : Nat) ⟨"MovingMarket", "orderFinding", "(ZII)I"⟩ ∈ AW := aw_2 120 rfl rfl
theorem wd_2_122 : Cond.instanceMethod ⟨"MovingMarket", "orderFinding", "(ZII)I"⟩ ∈ AW := aw_2 122 rfl rfl
theorem wd_2_123 : Cond.code ⟨"MovingMarket", "orderFinding", "(ZII)I"⟩ prog_1_method_58_code (5 : Nat) (some FieldType.int) ∈ AW := aw_2 123 rfl rfl
theorem wd_2_124 : Cond.methodLink "MovingMarket" (159 : Nat) ⟨"MovingMarket", "searchMost", "(I)I"⟩ ∈ AW := aw_2 124 rfl rfl
theorem wd_2_126 : Cond.instanceMethod ⟨"MovingMarket", "searchMost", "(I)I"⟩ ∈ AW := aw_2 126 rfl rfl
theorem wd_2_127 : Cond.code ⟨"MovingMarket", "searchMost", "(I)I"⟩ prog_1_method_61_code (6 : Nat) (some FieldType.int) ∈ AW := aw_2 127 rfl rfl
theorem wd_2_128 : Cond.methodLink "MovingMarket" (165 : Nat) ⟨"MovingMarket$Order", "begin", "(I)I"⟩ ∈ AW := aw_2 128 rfl rfl
theorem wd_2_129 : Cond.instanceMethod ⟨"MovingMarket$Order", "begin", "(I)I"⟩ ∈ AW := aw_2 129 rfl rfl
theorem wd_2_130 : Cond.selects "MovingMarket$Order" ⟨"MovingMarket$Order", "begin", "(I)I"⟩ ⟨"MovingMarket$Order", "begin", "(I)I"⟩ ∈ AW := aw_2 130 rfl rfl
theorem wd_2_131 : Cond.code ⟨"MovingMarket$Order", "begin", "(I)I"⟩ prog_2_method_2_code (4 : Nat) (some FieldType.int) ∈ AW := aw_2 131 rfl rfl
theorem wd_2_132 : Cond.methodLink "MovingMarket" (168 : Nat) ⟨"MovingMarket", "tryOrder", "()V"⟩ ∈ AW := aw_2 132 rfl rfl
theorem wd_2_134 : Cond.instanceMethod ⟨"MovingMarket", "tryOrder", "()V"⟩ ∈ AW := aw_2 134 rfl rfl
theorem wd_2_135 : Cond.code ⟨"MovingMarket", "tryOrder", "()V"⟩ prog_1_method_60_code (2 : Nat) (none : Option FieldType) ∈ AW := aw_2 135 rfl rfl
theorem wd_2_136 : Cond.methodLink "MovingMarket" (274 : Nat) ⟨"MovingMarket$Order", "become", "(LMovingMarket$Order;)V"⟩ ∈ AW := aw_2 136 rfl rfl
theorem wd_2_137 : Cond.instanceMethod ⟨"MovingMarket$Order", "become", "(LMovingMarket$Order;)V"⟩ ∈ AW := aw_2 137 rfl rfl
theorem wd_2_138 : Cond.selects "MovingMarket$Order" ⟨"MovingMarket$Order", "become", "(LMovingMarket$Order;)V"⟩ ⟨"MovingMarket$Order", "become", "(LMovingMarket$Order;)V"⟩ ∈ AW := aw_2 138 rfl rfl
theorem wd_2_139 : Cond.code ⟨"MovingMarket$Order", "become", "(LMovingMarket$Order;)V"⟩ prog_2_method_3_code (2 : Nat) (none : Option FieldType) ∈ AW := aw_2 139 rfl rfl
theorem wd_2_140 : Cond.methodLink "MovingMarket$Order" (19 : Nat) ⟨"java/lang/System", "arraycopy", "(Ljava/lang/Object;ILjava/lang/Object;II)V"⟩ ∈ AW := aw_2 140 rfl rfl
theorem wd_2_141 : Cond.methodLink "MovingMarket" (171 : Nat) ⟨"MovingMarket$Order", "advance", "()V"⟩ ∈ AW := aw_2 141 rfl rfl
theorem wd_2_142 : Cond.instanceMethod ⟨"MovingMarket$Order", "advance", "()V"⟩ ∈ AW := aw_2 142 rfl rfl
theorem wd_2_143 : Cond.selects "MovingMarket$Order" ⟨"MovingMarket$Order", "advance", "()V"⟩ ⟨"MovingMarket$Order", "advance", "()V"⟩ ∈ AW := aw_2 143 rfl rfl
theorem wd_2_144 : Cond.code ⟨"MovingMarket$Order", "advance", "()V"⟩ prog_2_method_4_code (5 : Nat) (none : Option FieldType) ∈ AW := aw_2 144 rfl rfl
theorem wd_2_145 : Cond.methodLink "MovingMarket$Order" (25 : Nat) ⟨"MovingMarket$Order", "exchangeTaken", "(II)V"⟩ ∈ AW := aw_2 145 rfl rfl
theorem wd_2_147 : Cond.instanceMethod ⟨"MovingMarket$Order", "exchangeTaken", "(II)V"⟩ ∈ AW := aw_2 147 rfl rfl
theorem wd_2_148 : Cond.code ⟨"MovingMarket$Order", "exchangeTaken", "(II)V"⟩ prog_2_method_5_code (4 : Nat) (none : Option FieldType) ∈ AW := aw_2 148 rfl rfl
theorem wd_2_149 : Cond.methodLink "MovingMarketLaw" (90 : Nat) ⟨"MovingMarket", "order", "(II)I"⟩ ∈ AW := aw_2 149 rfl rfl
theorem wd_2_150 : Cond.instanceMethod ⟨"MovingMarket", "order", "(II)I"⟩ ∈ AW := aw_2 150 rfl rfl
theorem wd_2_151 : Cond.selects "MovingMarket" ⟨"MovingMarket", "order", "(II)I"⟩ ⟨"MovingMarket", "order", "(II)I"⟩ ∈ AW := aw_2 151 rfl rfl
theorem wd_2_152 : Cond.code ⟨"MovingMarket", "order", "(II)I"⟩ prog_1_method_20_code (4 : Nat) (some FieldType.int) ∈ AW := aw_2 152 rfl rfl
theorem wd_2_153 : Cond.methodLink "MovingMarketLaw" (94 : Nat) ⟨"MovingMarket", "dawn", "(III)I"⟩ ∈ AW := aw_2 153 rfl rfl
theorem wd_2_154 : Cond.instanceMethod ⟨"MovingMarket", "dawn", "(III)I"⟩ ∈ AW := aw_2 154 rfl rfl
theorem wd_2_155 : Cond.selects "MovingMarket" ⟨"MovingMarket", "dawn", "(III)I"⟩ ⟨"MovingMarket", "dawn", "(III)I"⟩ ∈ AW := aw_2 155 rfl rfl
theorem wd_2_156 : Cond.code ⟨"MovingMarket", "dawn", "(III)I"⟩ prog_1_method_21_code (7 : Nat) (some FieldType.int) ∈ AW := aw_2 156 rfl rfl
theorem wd_2_157 : Cond.methodLink "MovingMarketLaw" (98 : Nat) ⟨"MovingMarket", "throwAway", "(II)I"⟩ ∈ AW := aw_2 157 rfl rfl
theorem wd_2_158 : Cond.instanceMethod ⟨"MovingMarket", "throwAway", "(II)I"⟩ ∈ AW := aw_2 158 rfl rfl
theorem wd_2_159 : Cond.selects "MovingMarket" ⟨"MovingMarket", "throwAway", "(II)I"⟩ ⟨"MovingMarket", "throwAway", "(II)I"⟩ ∈ AW := aw_2 159 rfl rfl
theorem wd_2_160 : Cond.code ⟨"MovingMarket", "throwAway", "(II)I"⟩ prog_1_method_22_code (7 : Nat) (some FieldType.int) ∈ AW := aw_2 160 rfl rfl
theorem wd_2_161 : Cond.methodLink "MovingMarketLaw" (102 : Nat) ⟨"MovingMarket", "wishes", "(II)I"⟩ ∈ AW := aw_2 161 rfl rfl
theorem wd_2_162 : Cond.instanceMethod ⟨"MovingMarket", "wishes", "(II)I"⟩ ∈ AW := aw_2 162 rfl rfl
theorem wd_2_163 : Cond.selects "MovingMarket" ⟨"MovingMarket", "wishes", "(II)I"⟩ ⟨"MovingMarket", "wishes", "(II)I"⟩ ∈ AW := aw_2 163 rfl rfl
theorem wd_2_164 : Cond.code ⟨"MovingMarket", "wishes", "(II)I"⟩ prog_1_method_23_code (7 : Nat) (some FieldType.int) ∈ AW := aw_2 164 rfl rfl
theorem wd_2_165 : Cond.methodLink "MovingMarket" (174 : Nat) ⟨"MovingMarket", "swapAhead", "(III)V"⟩ ∈ AW := aw_2 165 rfl rfl
theorem wd_2_167 : Cond.instanceMethod ⟨"MovingMarket", "swapAhead", "(III)V"⟩ ∈ AW := aw_2 167 rfl rfl
theorem wd_2_168 : Cond.code ⟨"MovingMarket", "swapAhead", "(III)V"⟩ prog_1_method_62_code (4 : Nat) (none : Option FieldType) ∈ AW := aw_2 168 rfl rfl
theorem wd_2_169 : Cond.methodLink "MovingMarketLaw" (106 : Nat) ⟨"MovingMarket", "deal", "(I)I"⟩ ∈ AW := aw_2 169 rfl rfl
theorem wd_2_170 : Cond.instanceMethod ⟨"MovingMarket", "deal", "(I)I"⟩ ∈ AW := aw_2 170 rfl rfl
theorem wd_2_171 : Cond.selects "MovingMarket" ⟨"MovingMarket", "deal", "(I)I"⟩ ⟨"MovingMarket", "deal", "(I)I"⟩ ∈ AW := aw_2 171 rfl rfl
theorem wd_2_172 : Cond.code ⟨"MovingMarket", "deal", "(I)I"⟩ prog_1_method_24_code (5 : Nat) (some FieldType.int) ∈ AW := aw_2 172 rfl rfl
theorem wd_2_173 : Cond.methodLink "MovingMarket" (178 : Nat) ⟨"java/lang/System", "arraycopy", "(Ljava/lang/Object;ILjava/lang/Object;II)V"⟩ ∈ AW := aw_2 173 rfl rfl
theorem wd_2_174 : Cond.methodLink "MovingMarketLaw" (110 : Nat) ⟨"MovingMarket", "beside", "(I)I"⟩ ∈ AW := aw_2 174 rfl rfl
theorem wd_2_175 : Cond.instanceMethod ⟨"MovingMarket", "beside", "(I)I"⟩ ∈ AW := aw_2 175 rfl rfl
theorem wd_2_176 : Cond.selects "MovingMarket" ⟨"MovingMarket", "beside", "(I)I"⟩ ⟨"MovingMarket", "beside", "(I)I"⟩ ∈ AW := aw_2 176 rfl rfl
theorem wd_2_177 : Cond.code ⟨"MovingMarket", "beside", "(I)I"⟩ prog_1_method_25_code (2 : Nat) (some FieldType.int) ∈ AW := aw_2 177 rfl rfl
theorem wd_2_178 : Cond.methodLink "MovingMarket" (184 : Nat) ⟨"MovingMarket$Square", "besideSet", "(I)I"⟩ ∈ AW := aw_2 178 rfl rfl
theorem wd_2_179 : Cond.instanceMethod ⟨"MovingMarket$Square", "besideSet", "(I)I"⟩ ∈ AW := aw_2 179 rfl rfl
theorem wd_2_180 : Cond.selects "MovingMarket$Square" ⟨"MovingMarket$Square", "besideSet", "(I)I"⟩ ⟨"MovingMarket$Square", "besideSet", "(I)I"⟩ ∈ AW := aw_2 180 rfl rfl
theorem wd_2_181 : Cond.code ⟨"MovingMarket$Square", "besideSet", "(I)I"⟩ prog_4_method_21_code (4 : Nat) (some FieldType.int) ∈ AW := aw_2 181 rfl rfl
theorem wd_2_182 : Cond.methodLink "MovingMarket$Square" (112 : Nat) ⟨"MovingMarket$Square", "areBeside", "(II)Z"⟩ ∈ AW := aw_2 182 rfl rfl
theorem wd_2_183 : Cond.instanceMethod ⟨"MovingMarket$Square", "areBeside", "(II)Z"⟩ ∈ AW := aw_2 183 rfl rfl
theorem wd_2_184 : Cond.selects "MovingMarket$Square" ⟨"MovingMarket$Square", "areBeside", "(II)Z"⟩ ⟨"MovingMarket$Square", "areBeside", "(II)Z"⟩ ∈ AW := aw_2 184 rfl rfl
theorem wd_2_185 : Cond.code ⟨"MovingMarket$Square", "areBeside", "(II)Z"⟩ prog_4_method_20_code (4 : Nat) (some FieldType.boolean) ∈ AW := aw_2 185 rfl rfl
theorem wd_2_186 : Cond.methodLink "MovingMarket$Square" (109 : Nat) ⟨"java/lang/Math", "floorMod", "(II)I"⟩ ∈ AW := aw_2 186 rfl rfl
theorem wd_2_187 : Cond.static ⟨"java/lang/Math", "floorMod", "(II)I"⟩ ∈ AW := aw_2 187 rfl rfl
theorem wd_2_188 : Cond.code ⟨"java/lang/Math", "floorMod", "(II)I"⟩ prog_8_method_50_code (3 : Nat) (some FieldType.int) ∈ AW := aw_2 188 rfl rfl
theorem wd_2_189 : Cond.methodLink "MovingMarketLaw" (114 : Nat) ⟨"MovingMarket", "ever", "(II)I"⟩ ∈ AW := aw_2 189 rfl rfl
theorem wd_2_190 : Cond.instanceMethod ⟨"MovingMarket", "ever", "(II)I"⟩ ∈ AW := aw_2 190 rfl rfl
theorem wd_2_191 : Cond.selects "MovingMarket" ⟨"MovingMarket", "ever", "(II)I"⟩ ⟨"MovingMarket", "ever", "(II)I"⟩ ∈ AW := aw_2 191 rfl rfl
theorem wd_2_192 : Cond.code ⟨"MovingMarket", "ever", "(II)I"⟩ prog_1_method_26_code (6 : Nat) (some FieldType.int) ∈ AW := aw_2 192 rfl rfl
theorem wd_2_193 : Cond.methodLink "MovingMarketLaw" (118 : Nat) ⟨"MovingMarket", "meet", "(II)I"⟩ ∈ AW := aw_2 193 rfl rfl
theorem wd_2_194 : Cond.instanceMethod ⟨"MovingMarket", "meet", "(II)I"⟩ ∈ AW := aw_2 194 rfl rfl
theorem wd_2_195 : Cond.selects "MovingMarket" ⟨"MovingMarket", "meet", "(II)I"⟩ ⟨"MovingMarket", "meet", "(II)I"⟩ ∈ AW := aw_2 195 rfl rfl
theorem wd_2_196 : Cond.code ⟨"MovingMarket", "meet", "(II)I"⟩ prog_1_method_27_code (5 : Nat) (some FieldType.int) ∈ AW := aw_2 196 rfl rfl
theorem wd_2_197 : Cond.methodLink "MovingMarket" (187 : Nat) ⟨"MovingMarket", "isPair", "(II)Z"⟩ ∈ AW := aw_2 197 rfl rfl
theorem wd_2_199 : Cond.instanceMethod ⟨"MovingMarket", "isPair", "(II)Z"⟩ ∈ AW := aw_2 199 rfl rfl
theorem wd_2_200 : Cond.code ⟨"MovingMarket", "isPair", "(II)Z"⟩ prog_1_method_56_code (3 : Nat) (some FieldType.boolean) ∈ AW := aw_2 200 rfl rfl
theorem wd_2_201 : Cond.methodLink "MovingMarket" (191 : Nat) ⟨"MovingMarket", "firstBeside", "(III)I"⟩ ∈ AW := aw_2 201 rfl rfl
theorem wd_2_203 : Cond.instanceMethod ⟨"MovingMarket", "firstBeside", "(III)I"⟩ ∈ AW := aw_2 203 rfl rfl
theorem wd_2_204 : Cond.code ⟨"MovingMarket", "firstBeside", "(III)I"⟩ prog_1_method_64_code (5 : Nat) (some FieldType.int) ∈ AW := aw_2 204 rfl rfl
theorem wd_2_205 : Cond.methodLink "MovingMarket" (280 : Nat) ⟨"MovingMarket$Square", "areBeside", "(II)Z"⟩ ∈ AW := aw_2 205 rfl rfl
theorem wd_2_206 : Cond.methodLink "MovingMarketLaw" (122 : Nat) ⟨"MovingMarket", "never", "(III)I"⟩ ∈ AW := aw_2 206 rfl rfl
theorem wd_2_207 : Cond.instanceMethod ⟨"MovingMarket", "never", "(III)I"⟩ ∈ AW := aw_2 207 rfl rfl
theorem wd_2_208 : Cond.selects "MovingMarket" ⟨"MovingMarket", "never", "(III)I"⟩ ⟨"MovingMarket", "never", "(III)I"⟩ ∈ AW := aw_2 208 rfl rfl
theorem wd_2_209 : Cond.code ⟨"MovingMarket", "never", "(III)I"⟩ prog_1_method_28_code (8 : Nat) (some FieldType.int) ∈ AW := aw_2 209 rfl rfl
theorem wd_2_210 : Cond.methodLink "MovingMarketLaw" (126 : Nat) ⟨"MovingMarket", "worth", "(III)I"⟩ ∈ AW := aw_2 210 rfl rfl
theorem wd_2_211 : Cond.instanceMethod ⟨"MovingMarket", "worth", "(III)I"⟩ ∈ AW := aw_2 211 rfl rfl
theorem wd_2_212 : Cond.selects "MovingMarket" ⟨"MovingMarket", "worth", "(III)I"⟩ ⟨"MovingMarket", "worth", "(III)I"⟩ ∈ AW := aw_2 212 rfl rfl
theorem wd_2_213 : Cond.code ⟨"MovingMarket", "worth", "(III)I"⟩ prog_1_method_29_code (6 : Nat) (some FieldType.int) ∈ AW := aw_2 213 rfl rfl
theorem wd_2_214 : Cond.methodLink "MovingMarket" (195 : Nat) ⟨"MovingMarket", "coinFrom", "(III)I"⟩ ∈ AW := aw_2 214 rfl rfl
theorem wd_2_216 : Cond.instanceMethod ⟨"MovingMarket", "coinFrom", "(III)I"⟩ ∈ AW := aw_2 216 rfl rfl
theorem wd_2_217 : Cond.code ⟨"MovingMarket", "coinFrom", "(III)I"⟩ prog_1_method_63_code (4 : Nat) (some FieldType.int) ∈ AW := aw_2 217 rfl rfl
theorem wd_2_218 : Cond.methodLink "MovingMarket" (277 : Nat) ⟨"MovingMarket$Square", "bring", "(II)V"⟩ ∈ AW := aw_2 218 rfl rfl
theorem wd_2_219 : Cond.instanceMethod ⟨"MovingMarket$Square", "bring", "(II)V"⟩ ∈ AW := aw_2 219 rfl rfl
theorem wd_2_220 : Cond.selects "MovingMarket$Square" ⟨"MovingMarket$Square", "bring", "(II)V"⟩ ⟨"MovingMarket$Square", "bring", "(II)V"⟩ ∈ AW := aw_2 220 rfl rfl
theorem wd_2_221 : Cond.code ⟨"MovingMarket$Square", "bring", "(II)V"⟩ prog_4_method_11_code (4 : Nat) (none : Option FieldType) ∈ AW := aw_2 221 rfl rfl
theorem wd_2_222 : Cond.methodLink "MovingMarket$Square" (71 : Nat) ⟨"MovingMarket$Square", "stallAt", "(I)I"⟩ ∈ AW := aw_2 222 rfl rfl
theorem wd_2_223 : Cond.methodLink "MovingMarketLaw" (130 : Nat) ⟨"MovingMarket", "best", "(II)I"⟩ ∈ AW := aw_2 223 rfl rfl
theorem wd_2_224 : Cond.instanceMethod ⟨"MovingMarket", "best", "(II)I"⟩ ∈ AW := aw_2 224 rfl rfl
theorem wd_2_225 : Cond.selects "MovingMarket" ⟨"MovingMarket", "best", "(II)I"⟩ ⟨"MovingMarket", "best", "(II)I"⟩ ∈ AW := aw_2 225 rfl rfl
theorem wd_2_226 : Cond.code ⟨"MovingMarket", "best", "(II)I"⟩ prog_1_method_30_code (8 : Nat) (some FieldType.int) ∈ AW := aw_2 226 rfl rfl
theorem wd_2_227 : Cond.methodLink "MovingMarketLaw" (134 : Nat) ⟨"MovingMarket", "thief", "(II)I"⟩ ∈ AW := aw_2 227 rfl rfl
theorem wd_2_228 : Cond.instanceMethod ⟨"MovingMarket", "thief", "(II)I"⟩ ∈ AW := aw_2 228 rfl rfl
theorem wd_2_229 : Cond.selects "MovingMarket" ⟨"MovingMarket", "thief", "(II)I"⟩ ⟨"MovingMarket", "thief", "(II)I"⟩ ∈ AW := aw_2 229 rfl rfl
theorem wd_2_230 : Cond.code ⟨"MovingMarket", "thief", "(II)I"⟩ prog_1_method_31_code (5 : Nat) (some FieldType.int) ∈ AW := aw_2 230 rfl rfl
theorem wd_2_231 : Cond.methodLink "MovingMarketLaw" (138 : Nat) ⟨"MovingMarket", "lots", "(I)I"⟩ ∈ AW := aw_2 231 rfl rfl
theorem wd_2_232 : Cond.instanceMethod ⟨"MovingMarket", "lots", "(I)I"⟩ ∈ AW := aw_2 232 rfl rfl
theorem wd_2_233 : Cond.selects "MovingMarket" ⟨"MovingMarket", "lots", "(I)I"⟩ ⟨"MovingMarket", "lots", "(I)I"⟩ ∈ AW := aw_2 233 rfl rfl
theorem wd_2_234 : Cond.code ⟨"MovingMarket", "lots", "(I)I"⟩ prog_1_method_32_code (5 : Nat) (some FieldType.int) ∈ AW := aw_2 234 rfl rfl
theorem wd_2_235 : Cond.methodLink "MovingMarket" (198 : Nat) ⟨"MovingMarket$Square", "draw", "()I"⟩ ∈ AW := aw_2 235 rfl rfl
theorem wd_2_236 : Cond.instanceMethod ⟨"MovingMarket$Square", "draw", "()I"⟩ ∈ AW := aw_2 236 rfl rfl
theorem wd_2_237 : Cond.selects "MovingMarket$Square" ⟨"MovingMarket$Square", "draw", "()I"⟩ ⟨"MovingMarket$Square", "draw", "()I"⟩ ∈ AW := aw_2 237 rfl rfl
theorem wd_2_238 : Cond.code ⟨"MovingMarket$Square", "draw", "()I"⟩ prog_4_method_28_code (1 : Nat) (some FieldType.int) ∈ AW := aw_2 238 rfl rfl
theorem wd_2_239 : Cond.constant "MovingMarket$Square" (116 : Nat) (1103515245 : Int32) ∈ AW := aw_2 239 rfl rfl
theorem wd_3_0 : Cond.methodLink "MovingMarketLaw" (142 : Nat) ⟨"MovingMarket", "seed", "(I)I"⟩ ∈ AW := aw_3 0 rfl rfl
theorem wd_3_1 : Cond.instanceMethod ⟨"MovingMarket", "seed", "(I)I"⟩ ∈ AW := aw_3 1 rfl rfl
theorem wd_3_2 : Cond.selects "MovingMarket" ⟨"MovingMarket", "seed", "(I)I"⟩ ⟨"MovingMarket", "seed", "(I)I"⟩ ∈ AW := aw_3 2 rfl rfl
theorem wd_3_3 : Cond.code ⟨"MovingMarket", "seed", "(I)I"⟩ prog_1_method_33_code (3 : Nat) (some FieldType.int) ∈ AW := aw_3 3 rfl rfl
theorem wd_3_4 : Cond.methodLink "MovingMarketLaw" (146 : Nat) ⟨"MovingMarket", "feed", "(II)I"⟩ ∈ AW := aw_3 4 rfl rfl
theorem wd_3_5 : Cond.instanceMethod ⟨"MovingMarket", "feed", "(II)I"⟩ ∈ AW := aw_3 5 rfl rfl
theorem wd_3_6 : Cond.selects "MovingMarket" ⟨"MovingMarket", "feed", "(II)I"⟩ ⟨"MovingMarket", "feed", "(II)I"⟩ ∈ AW := aw_3 6 rfl rfl
theorem wd_3_7 : Cond.code ⟨"MovingMarket", "feed", "(II)I"⟩ prog_1_method_34_code (4 : Nat) (some FieldType.int) ∈ AW := aw_3 7 rfl rfl
theorem wd_3_8 : Cond.methodLink "MovingMarket" (207 : Nat) ⟨"MovingMarket$Tape", "put", "(I)V"⟩ ∈ AW := aw_3 8 rfl rfl
theorem wd_3_9 : Cond.instanceMethod ⟨"MovingMarket$Tape", "put", "(I)V"⟩ ∈ AW := aw_3 9 rfl rfl
theorem wd_3_10 : Cond.selects "MovingMarket$Tape" ⟨"MovingMarket$Tape", "put", "(I)V"⟩ ⟨"MovingMarket$Tape", "put", "(I)V"⟩ ∈ AW := aw_3 10 rfl rfl
theorem wd_3_11 : Cond.code ⟨"MovingMarket$Tape", "put", "(I)V"⟩ prog_5_method_2_code (2 : Nat) (none : Option FieldType) ∈ AW := aw_3 11 rfl rfl
theorem wd_3_12 : Cond.methodLink "MovingMarketLaw" (150 : Nat) ⟨"MovingMarket", "wipe", "()I"⟩ ∈ AW := aw_3 12 rfl rfl
theorem wd_3_13 : Cond.instanceMethod ⟨"MovingMarket", "wipe", "()I"⟩ ∈ AW := aw_3 13 rfl rfl
theorem wd_3_14 : Cond.selects "MovingMarket" ⟨"MovingMarket", "wipe", "()I"⟩ ⟨"MovingMarket", "wipe", "()I"⟩ ∈ AW := aw_3 14 rfl rfl
theorem wd_3_15 : Cond.code ⟨"MovingMarket", "wipe", "()I"⟩ prog_1_method_35_code (2 : Nat) (some FieldType.int) ∈ AW := aw_3 15 rfl rfl
theorem wd_3_16 : Cond.methodLink "MovingMarketLaw" (154 : Nat) ⟨"MovingMarket", "text", "()I"⟩ ∈ AW := aw_3 16 rfl rfl
theorem wd_3_17 : Cond.instanceMethod ⟨"MovingMarket", "text", "()I"⟩ ∈ AW := aw_3 17 rfl rfl
theorem wd_3_18 : Cond.selects "MovingMarket" ⟨"MovingMarket", "text", "()I"⟩ ⟨"MovingMarket", "text", "()I"⟩ ∈ AW := aw_3 18 rfl rfl
theorem wd_3_19 : Cond.code ⟨"MovingMarket", "text", "()I"⟩ prog_1_method_36_code (2 : Nat) (some FieldType.int) ∈ AW := aw_3 19 rfl rfl
theorem wd_3_20 : Cond.methodLink "MovingMarket" (211 : Nat) ⟨"MovingMarket$Tape", "readText", "(LMovingMarket$Square;)I"⟩ ∈ AW := aw_3 20 rfl rfl
theorem wd_3_21 : Cond.instanceMethod ⟨"MovingMarket$Tape", "readText", "(LMovingMarket$Square;)I"⟩ ∈ AW := aw_3 21 rfl rfl
theorem wd_3_22 : Cond.selects "MovingMarket$Tape" ⟨"MovingMarket$Tape", "readText", "(LMovingMarket$Square;)I"⟩ ⟨"MovingMarket$Tape", "readText", "(LMovingMarket$Square;)I"⟩ ∈ AW := aw_3 22 rfl rfl
theorem wd_3_23 : Cond.code ⟨"MovingMarket$Tape", "readText", "(LMovingMarket$Square;)I"⟩ prog_5_method_3_code (3 : Nat) (some FieldType.int) ∈ AW := aw_3 23 rfl rfl
theorem wd_3_24 : Cond.methodLink "MovingMarket$Tape" (22 : Nat) ⟨"MovingMarket$Tape", "readOn", "()V"⟩ ∈ AW := aw_3 24 rfl rfl
theorem wd_3_26 : Cond.instanceMethod ⟨"MovingMarket$Tape", "readOn", "()V"⟩ ∈ AW := aw_3 26 rfl rfl
theorem wd_3_27 : Cond.code ⟨"MovingMarket$Tape", "readOn", "()V"⟩ prog_5_method_4_code (1 : Nat) (none : Option FieldType) ∈ AW := aw_3 27 rfl rfl
theorem wd_3_28 : Cond.methodLink "MovingMarket$Tape" (35 : Nat) ⟨"MovingMarket$Tape", "isBetween", "(ICC)Z"⟩ ∈ AW := aw_3 28 rfl rfl
theorem wd_3_30 : Cond.instanceMethod ⟨"MovingMarket$Tape", "isBetween", "(ICC)Z"⟩ ∈ AW := aw_3 30 rfl rfl
theorem wd_3_31 : Cond.code ⟨"MovingMarket$Tape", "isBetween", "(ICC)Z"⟩ prog_5_method_6_code (4 : Nat) (some FieldType.boolean) ∈ AW := aw_3 31 rfl rfl
theorem wd_3_32 : Cond.methodLink "MovingMarket$Tape" (39 : Nat) ⟨"MovingMarket$Tape", "readRun", "(CC)V"⟩ ∈ AW := aw_3 32 rfl rfl
theorem wd_3_34 : Cond.instanceMethod ⟨"MovingMarket$Tape", "readRun", "(CC)V"⟩ ∈ AW := aw_3 34 rfl rfl
theorem wd_3_35 : Cond.code ⟨"MovingMarket$Tape", "readRun", "(CC)V"⟩ prog_5_method_5_code (3 : Nat) (none : Option FieldType) ∈ AW := aw_3 35 rfl rfl
theorem wd_3_36 : Cond.methodLink "MovingMarket$Tape" (43 : Nat) ⟨"MovingMarket$Tape", "valueOfRun", "()I"⟩ ∈ AW := aw_3 36 rfl rfl
theorem wd_3_38 : Cond.instanceMethod ⟨"MovingMarket$Tape", "valueOfRun", "()I"⟩ ∈ AW := aw_3 38 rfl rfl
theorem wd_3_39 : Cond.code ⟨"MovingMarket$Tape", "valueOfRun", "()I"⟩ prog_5_method_7_code (3 : Nat) (some FieldType.int) ∈ AW := aw_3 39 rfl rfl
theorem wd_3_40 : Cond.methodLink "MovingMarket$Tape" (25 : Nat) ⟨"MovingMarket$Tape", "readItem", "(LMovingMarket$Square;)Z"⟩ ∈ AW := aw_3 40 rfl rfl
theorem wd_3_42 : Cond.instanceMethod ⟨"MovingMarket$Tape", "readItem", "(LMovingMarket$Square;)Z"⟩ ∈ AW := aw_3 42 rfl rfl
theorem wd_3_43 : Cond.code ⟨"MovingMarket$Tape", "readItem", "(LMovingMarket$Square;)Z"⟩ prog_5_method_8_code (3 : Nat) (some FieldType.boolean) ∈ AW := aw_3 43 rfl rfl
theorem wd_3_44 : Cond.methodLink "MovingMarket$Tape" (50 : Nat) ⟨"MovingMarket$Tape", "kindOfWord", "()I"⟩ ∈ AW := aw_3 44 rfl rfl
theorem wd_3_46 : Cond.instanceMethod ⟨"MovingMarket$Tape", "kindOfWord", "()I"⟩ ∈ AW := aw_3 46 rfl rfl
theorem wd_3_47 : Cond.code ⟨"MovingMarket$Tape", "kindOfWord", "()I"⟩ prog_5_method_14_code (2 : Nat) (some FieldType.int) ∈ AW := aw_3 47 rfl rfl
theorem wd_3_48 : Cond.methodLink "MovingMarket$Tape" (115 : Nat) ⟨"MovingMarket$Tape", "wordOfKind", "(I)Ljava/lang/String;"⟩ ∈ AW := aw_3 48 rfl rfl
theorem wd_3_49 : Cond.static ⟨"MovingMarket$Tape", "wordOfKind", "(I)Ljava/lang/String;"⟩ ∈ AW := aw_3 49 rfl rfl
theorem wd_3_50 : Cond.code ⟨"MovingMarket$Tape", "wordOfKind", "(I)Ljava/lang/String;"⟩ prog_5_method_16_code (1 : Nat) (some (FieldType.object "java/lang/String")) ∈ AW := aw_3 50 rfl rfl
theorem wd_3_58 : Cond.methodLink "MovingMarket$Tape" (59 : Nat) ⟨"MovingMarket$Tape", "isWord", "(Ljava/lang/String;)Z"⟩ ∈ AW := aw_3 58 rfl rfl
theorem wd_3_60 : Cond.instanceMethod ⟨"MovingMarket$Tape", "isWord", "(Ljava/lang/String;)Z"⟩ ∈ AW := aw_3 60 rfl rfl
theorem wd_3_61 : Cond.code ⟨"MovingMarket$Tape", "isWord", "(Ljava/lang/String;)Z"⟩ prog_5_method_15_code (3 : Nat) (some FieldType.boolean) ∈ AW := aw_3 61 rfl rfl
theorem wd_3_62 : Cond.methodLink "MovingMarket$Tape" (119 : Nat) ⟨"java/lang/String", "length", "()I"⟩ ∈ AW := aw_3 62 rfl rfl
theorem wd_3_63 : Cond.instanceMethod ⟨"java/lang/String", "length", "()I"⟩ ∈ AW := aw_3 63 rfl rfl
theorem wd_3_64 : Cond.selects "java/lang/String" ⟨"java/lang/String", "length", "()I"⟩ ⟨"java/lang/String", "length", "()I"⟩ ∈ AW := aw_3 64 rfl rfl
theorem wd_3_65 : Cond.code ⟨"java/lang/String", "length", "()I"⟩ prog_9_method_54_code (1 : Nat) (some FieldType.int) ∈ AW := aw_3 65 rfl rfl
theorem wd_3_66 : Cond.methodLink "java/lang/String" (335 : Nat) ⟨"java/lang/String", "coder", "()B"⟩ ∈ AW := aw_3 66 rfl rfl
theorem wd_3_67 : Cond.instanceMethod ⟨"java/lang/String", "coder", "()B"⟩ ∈ AW := aw_3 67 rfl rfl
theorem wd_3_68 : Cond.selects "java/lang/String" ⟨"java/lang/String", "coder", "()B"⟩ ⟨"java/lang/String", "coder", "()B"⟩ ∈ AW := aw_3 68 rfl rfl
theorem wd_3_69 : Cond.code ⟨"java/lang/String", "coder", "()B"⟩ prog_9_method_152_code (1 : Nat) (some FieldType.byte) ∈ AW := aw_3 69 rfl rfl
theorem wd_3_70 : Cond.fieldLink "java/lang/String" (38 : Nat) "java/lang/String" "COMPACT_STRINGS" "Z" ∈ AW := aw_3 70 rfl rfl
theorem wd_3_72 : Cond.methodLink "MovingMarket$Tape" (123 : Nat) ⟨"java/lang/String", "charAt", "(I)C"⟩ ∈ AW := aw_3 72 rfl rfl
theorem wd_3_73 : Cond.instanceMethod ⟨"java/lang/String", "charAt", "(I)C"⟩ ∈ AW := aw_3 73 rfl rfl
theorem wd_3_74 : Cond.selects "java/lang/String" ⟨"java/lang/String", "charAt", "(I)C"⟩ ⟨"java/lang/String", "charAt", "(I)C"⟩ ∈ AW := aw_3 74 rfl rfl
theorem wd_3_75 : Cond.code ⟨"java/lang/String", "charAt", "(I)C"⟩ prog_9_method_56_code (2 : Nat) (some FieldType.char) ∈ AW := aw_3 75 rfl rfl
theorem wd_3_76 : Cond.methodLink "java/lang/String" (492 : Nat) ⟨"java/lang/String", "isLatin1", "()Z"⟩ ∈ AW := aw_3 76 rfl rfl
theorem wd_3_77 : Cond.instanceMethod ⟨"java/lang/String", "isLatin1", "()Z"⟩ ∈ AW := aw_3 77 rfl rfl
theorem wd_3_78 : Cond.selects "java/lang/String" ⟨"java/lang/String", "isLatin1", "()Z"⟩ ⟨"java/lang/String", "isLatin1", "()Z"⟩ ∈ AW := aw_3 78 rfl rfl
theorem wd_3_79 : Cond.code ⟨"java/lang/String", "isLatin1", "()Z"⟩ prog_9_method_154_code (1 : Nat) (some FieldType.boolean) ∈ AW := aw_3 79 rfl rfl
theorem wd_3_80 : Cond.methodLink "java/lang/String" (495 : Nat) ⟨"java/lang/StringLatin1", "charAt", "([BI)C"⟩ ∈ AW := aw_3 80 rfl rfl
theorem wd_3_81 : Cond.static ⟨"java/lang/StringLatin1", "charAt", "([BI)C"⟩ ∈ AW := aw_3 81 rfl rfl
theorem wd_3_82 : Cond.code ⟨"java/lang/StringLatin1", "charAt", "([BI)C"⟩ prog_10_method_2_code (2 : Nat) (some FieldType.char) ∈ AW := aw_3 82 rfl rfl
theorem wd_3_83 : Cond.methodLink "java/lang/StringLatin1" (9 : Nat) ⟨"java/lang/String", "checkIndex", "(II)V"⟩ ∈ AW := aw_3 83 rfl rfl
theorem wd_3_84 : Cond.static ⟨"java/lang/String", "checkIndex", "(II)V"⟩ ∈ AW := aw_3 84 rfl rfl
theorem wd_3_85 : Cond.code ⟨"java/lang/String", "checkIndex", "(II)V"⟩ prog_9_method_155_code (2 : Nat) (none : Option FieldType) ∈ AW := aw_3 85 rfl rfl
theorem wd_3_86 : Cond.fieldLink "java/lang/String" (1053 : Nat) "jdk/internal/util/Preconditions" "SIOOBE_FORMATTER" "Ljava/util/function/BiFunction;" ∈ AW := aw_3 86 rfl rfl
theorem wd_3_88 : Cond.methodLink "java/lang/String" (1059 : Nat) ⟨"jdk/internal/util/Preconditions", "checkIndex", "(IILjava/util/function/BiFunction;)I"⟩ ∈ AW := aw_3 88 rfl rfl
theorem wd_3_89 : Cond.static ⟨"jdk/internal/util/Preconditions", "checkIndex", "(IILjava/util/function/BiFunction;)I"⟩ ∈ AW := aw_3 89 rfl rfl
theorem wd_3_90 : Cond.code ⟨"jdk/internal/util/Preconditions", "checkIndex", "(IILjava/util/function/BiFunction;)I"⟩ prog_14_method_11_code (3 : Nat) (some FieldType.int) ∈ AW := aw_3 90 rfl rfl
theorem wd_3_91 : Cond.methodLink "java/lang/String" (498 : Nat) ⟨"java/lang/StringUTF16", "charAt", "([BI)C"⟩ ∈ AW := aw_3 91 rfl rfl
theorem wd_3_92 : Cond.static ⟨"java/lang/StringUTF16", "charAt", "([BI)C"⟩ ∈ AW := aw_3 92 rfl rfl
theorem wd_3_93 : Cond.code ⟨"java/lang/StringUTF16", "charAt", "([BI)C"⟩ prog_11_method_83_code (2 : Nat) (some FieldType.char) ∈ AW := aw_3 93 rfl rfl
theorem wd_3_94 : Cond.methodLink "java/lang/StringUTF16" (67 : Nat) ⟨"java/lang/StringUTF16", "checkIndex", "(I[B)V"⟩ ∈ AW := aw_3 94 rfl rfl
theorem wd_3_95 : Cond.static ⟨"java/lang/StringUTF16", "checkIndex", "(I[B)V"⟩ ∈ AW := aw_3 95 rfl rfl
theorem wd_3_96 : Cond.code ⟨"java/lang/StringUTF16", "checkIndex", "(I[B)V"⟩ prog_11_method_91_code (2 : Nat) (none : Option FieldType) ∈ AW := aw_3 96 rfl rfl
theorem wd_3_97 : Cond.methodLink "java/lang/StringUTF16" (48 : Nat) ⟨"java/lang/StringUTF16", "length", "([B)I"⟩ ∈ AW := aw_3 97 rfl rfl
theorem wd_3_98 : Cond.static ⟨"java/lang/StringUTF16", "length", "([B)I"⟩ ∈ AW := aw_3 98 rfl rfl
theorem wd_3_99 : Cond.code ⟨"java/lang/StringUTF16", "length", "([B)I"⟩ prog_11_method_6_code (1 : Nat) (some FieldType.int) ∈ AW := aw_3 99 rfl rfl
theorem wd_3_100 : Cond.methodLink "java/lang/StringUTF16" (414 : Nat) ⟨"java/lang/String", "checkIndex", "(II)V"⟩ ∈ AW := aw_3 100 rfl rfl
theorem wd_3_101 : Cond.methodLink "java/lang/StringUTF16" (71 : Nat) ⟨"java/lang/StringUTF16", "getChar", "([BI)C"⟩ ∈ AW := aw_3 101 rfl rfl
theorem wd_3_102 : Cond.static ⟨"java/lang/StringUTF16", "getChar", "([BI)C"⟩ ∈ AW := aw_3 102 rfl rfl
theorem wd_3_103 : Cond.code ⟨"java/lang/StringUTF16", "getChar", "([BI)C"⟩ prog_11_method_5_code (2 : Nat) (some FieldType.char) ∈ AW := aw_3 103 rfl rfl
theorem wd_3_104 : Cond.fieldLink "java/lang/StringUTF16" (44 : Nat) "java/lang/StringUTF16" "$assertionsDisabled" "Z" ∈ AW := aw_3 104 rfl rfl
theorem wd_3_106 : Cond.fieldLink "java/lang/StringUTF16" (59 : Nat) "java/lang/StringUTF16" "HI_BYTE_SHIFT" "I" ∈ AW := aw_3 106 rfl rfl
theorem wd_3_108 : Cond.fieldLink "java/lang/StringUTF16" (63 : Nat) "java/lang/StringUTF16" "LO_BYTE_SHIFT" "I" ∈ AW := aw_3 108 rfl rfl
theorem wd_3_110 : Cond.methodLink "MovingMarket$Tape" (53 : Nat) ⟨"MovingMarket$Tape", "readStall", "(LMovingMarket$Square;I)Z"⟩ ∈ AW := aw_3 110 rfl rfl
theorem wd_3_112 : Cond.instanceMethod ⟨"MovingMarket$Tape", "readStall", "(LMovingMarket$Square;I)Z"⟩ ∈ AW := aw_3 112 rfl rfl
theorem wd_3_113 : Cond.code ⟨"MovingMarket$Tape", "readStall", "(LMovingMarket$Square;I)Z"⟩ prog_5_method_9_code (4 : Nat) (some FieldType.boolean) ∈ AW := aw_3 113 rfl rfl
theorem wd_3_115 : Cond.methodLink "MovingMarket$Tape" (85 : Nat) ⟨"MovingMarket$Tape", "isNumber", "(II)Z"⟩ ∈ AW := aw_3 115 rfl rfl
theorem wd_3_117 : Cond.instanceMethod ⟨"MovingMarket$Tape", "isNumber", "(II)Z"⟩ ∈ AW := aw_3 117 rfl rfl
theorem wd_3_118 : Cond.code ⟨"MovingMarket$Tape", "isNumber", "(II)Z"⟩ prog_5_method_13_code (3 : Nat) (some FieldType.boolean) ∈ AW := aw_3 118 rfl rfl
theorem wd_3_119 : Cond.methodLink "MovingMarket$Tape" (89 : Nat) ⟨"MovingMarket$Square", "stallAt", "(I)I"⟩ ∈ AW := aw_3 119 rfl rfl
theorem wd_3_120 : Cond.methodLink "MovingMarket$Tape" (93 : Nat) ⟨"MovingMarket$Square", "addStall", "(II)I"⟩ ∈ AW := aw_3 120 rfl rfl
theorem wd_3_123 : Cond.methodLink "MovingMarket$Tape" (63 : Nat) ⟨"MovingMarket$Tape", "readVisits", "(LMovingMarket$Square;)Z"⟩ ∈ AW := aw_3 123 rfl rfl
theorem wd_3_125 : Cond.instanceMethod ⟨"MovingMarket$Tape", "readVisits", "(LMovingMarket$Square;)Z"⟩ ∈ AW := aw_3 125 rfl rfl
theorem wd_3_126 : Cond.code ⟨"MovingMarket$Tape", "readVisits", "(LMovingMarket$Square;)Z"⟩ prog_5_method_10_code (5 : Nat) (some FieldType.boolean) ∈ AW := aw_3 126 rfl rfl
theorem wd_3_130 : Cond.methodLink "MovingMarket$Tape" (68 : Nat) ⟨"MovingMarket$Tape", "readShade", "(LMovingMarket$Square;I)Z"⟩ ∈ AW := aw_3 130 rfl rfl
theorem wd_3_132 : Cond.instanceMethod ⟨"MovingMarket$Tape", "readShade", "(LMovingMarket$Square;I)Z"⟩ ∈ AW := aw_3 132 rfl rfl
theorem wd_3_133 : Cond.code ⟨"MovingMarket$Tape", "readShade", "(LMovingMarket$Square;I)Z"⟩ prog_5_method_11_code (3 : Nat) (some FieldType.boolean) ∈ AW := aw_3 133 rfl rfl
theorem wd_3_136 : Cond.methodLink "MovingMarket$Tape" (75 : Nat) ⟨"MovingMarket$Tape", "readSpring", "(LMovingMarket$Square;)Z"⟩ ∈ AW := aw_3 136 rfl rfl
theorem wd_3_138 : Cond.instanceMethod ⟨"MovingMarket$Tape", "readSpring", "(LMovingMarket$Square;)Z"⟩ ∈ AW := aw_3 138 rfl rfl
theorem wd_3_139 : Cond.code ⟨"MovingMarket$Tape", "readSpring", "(LMovingMarket$Square;)Z"⟩ prog_5_method_12_code (2 : Nat) (some FieldType.boolean) ∈ AW := aw_3 139 rfl rfl
theorem wd_3_140 : Cond.arrayClass FieldType.byte ∈ AW := aw_3 140 rfl rfl
theorem wd_3_141 : Cond.methodLink "MovingMarketLaw" (158 : Nat) ⟨"MovingMarket", "hold", "(II)I"⟩ ∈ AW := aw_3 141 rfl rfl
theorem wd_3_142 : Cond.instanceMethod ⟨"MovingMarket", "hold", "(II)I"⟩ ∈ AW := aw_3 142 rfl rfl
theorem wd_3_143 : Cond.selects "MovingMarket" ⟨"MovingMarket", "hold", "(II)I"⟩ ⟨"MovingMarket", "hold", "(II)I"⟩ ∈ AW := aw_3 143 rfl rfl
theorem wd_3_144 : Cond.code ⟨"MovingMarket", "hold", "(II)I"⟩ prog_1_method_37_code (3 : Nat) (some FieldType.int) ∈ AW := aw_3 144 rfl rfl
theorem wd_3_145 : Cond.methodLink "MovingMarket" (215 : Nat) ⟨"MovingMarket", "isSpot", "(I)Z"⟩ ∈ AW := aw_3 145 rfl rfl
theorem wd_3_146 : Cond.static ⟨"MovingMarket", "isSpot", "(I)Z"⟩ ∈ AW := aw_3 146 rfl rfl
theorem wd_3_147 : Cond.code ⟨"MovingMarket", "isSpot", "(I)Z"⟩ prog_1_method_53_code (1 : Nat) (some FieldType.boolean) ∈ AW := aw_3 147 rfl rfl
theorem wd_3_148 : Cond.methodLink "MovingMarketLaw" (162 : Nat) ⟨"MovingMarket", "as", "(II)I"⟩ ∈ AW := aw_3 148 rfl rfl
theorem wd_3_149 : Cond.instanceMethod ⟨"MovingMarket", "as", "(II)I"⟩ ∈ AW := aw_3 149 rfl rfl
theorem wd_3_150 : Cond.selects "MovingMarket" ⟨"MovingMarket", "as", "(II)I"⟩ ⟨"MovingMarket", "as", "(II)I"⟩ ∈ AW := aw_3 150 rfl rfl
theorem wd_3_151 : Cond.code ⟨"MovingMarket", "as", "(II)I"⟩ prog_1_method_38_code (4 : Nat) (some FieldType.int) ∈ AW := aw_3 151 rfl rfl
theorem wd_3_152 : Cond.methodLink "MovingMarket" (221 : Nat) ⟨"MovingMarket$Square", "isOfKind", "(II)Z"⟩ ∈ AW := aw_3 152 rfl rfl
theorem wd_3_153 : Cond.instanceMethod ⟨"MovingMarket$Square", "isOfKind", "(II)Z"⟩ ∈ AW := aw_3 153 rfl rfl
theorem wd_3_154 : Cond.selects "MovingMarket$Square" ⟨"MovingMarket$Square", "isOfKind", "(II)Z"⟩ ⟨"MovingMarket$Square", "isOfKind", "(II)Z"⟩ ∈ AW := aw_3 154 rfl rfl
theorem wd_3_155 : Cond.code ⟨"MovingMarket$Square", "isOfKind", "(II)Z"⟩ prog_4_method_5_code (5 : Nat) (some FieldType.boolean) ∈ AW := aw_3 155 rfl rfl
theorem wd_3_158 : Cond.methodLink "MovingMarketLaw" (166 : Nat) ⟨"MovingMarket", "sheet", "(III)I"⟩ ∈ AW := aw_3 158 rfl rfl
theorem wd_3_159 : Cond.instanceMethod ⟨"MovingMarket", "sheet", "(III)I"⟩ ∈ AW := aw_3 159 rfl rfl
theorem wd_3_160 : Cond.selects "MovingMarket" ⟨"MovingMarket", "sheet", "(III)I"⟩ ⟨"MovingMarket", "sheet", "(III)I"⟩ ∈ AW := aw_3 160 rfl rfl
theorem wd_3_161 : Cond.code ⟨"MovingMarket", "sheet", "(III)I"⟩ prog_1_method_39_code (4 : Nat) (some FieldType.int) ∈ AW := aw_3 161 rfl rfl
theorem wd_3_162 : Cond.methodLink "MovingMarket" (224 : Nat) ⟨"MovingMarket", "isSheet", "(I)Z"⟩ ∈ AW := aw_3 162 rfl rfl
theorem wd_3_163 : Cond.static ⟨"MovingMarket", "isSheet", "(I)Z"⟩ ∈ AW := aw_3 163 rfl rfl
theorem wd_3_164 : Cond.code ⟨"MovingMarket", "isSheet", "(I)Z"⟩ prog_1_method_54_code (1 : Nat) (some FieldType.boolean) ∈ AW := aw_3 164 rfl rfl
theorem wd_3_165 : Cond.methodLink "MovingMarket" (227 : Nat) ⟨"MovingMarket$Sheet", "begin", "(II)V"⟩ ∈ AW := aw_3 165 rfl rfl
theorem wd_3_166 : Cond.instanceMethod ⟨"MovingMarket$Sheet", "begin", "(II)V"⟩ ∈ AW := aw_3 166 rfl rfl
theorem wd_3_167 : Cond.selects "MovingMarket$Sheet" ⟨"MovingMarket$Sheet", "begin", "(II)V"⟩ ⟨"MovingMarket$Sheet", "begin", "(II)V"⟩ ∈ AW := aw_3 167 rfl rfl
theorem wd_3_168 : Cond.code ⟨"MovingMarket$Sheet", "begin", "(II)V"⟩ prog_3_method_2_code (3 : Nat) (none : Option FieldType) ∈ AW := aw_3 168 rfl rfl
theorem wd_3_169 : Cond.methodLink "MovingMarket$Sheet" (22 : Nat) ⟨"java/util/Arrays", "fill", "([II)V"⟩ ∈ AW := aw_3 169 rfl rfl
theorem wd_3_170 : Cond.methodLink "MovingMarketLaw" (170 : Nat) ⟨"MovingMarket", "write", "(III)I"⟩ ∈ AW := aw_3 170 rfl rfl
theorem wd_3_171 : Cond.instanceMethod ⟨"MovingMarket", "write", "(III)I"⟩ ∈ AW := aw_3 171 rfl rfl
theorem wd_3_172 : Cond.selects "MovingMarket" ⟨"MovingMarket", "write", "(III)I"⟩ ⟨"MovingMarket", "write", "(III)I"⟩ ∈ AW := aw_3 172 rfl rfl
theorem wd_3_173 : Cond.code ⟨"MovingMarket", "write", "(III)I"⟩ prog_1_method_40_code (5 : Nat) (some FieldType.int) ∈ AW := aw_3 173 rfl rfl
theorem wd_3_174 : Cond.methodLink "MovingMarket" (230 : Nat) ⟨"MovingMarket", "sheetFinding", "(I)I"⟩ ∈ AW := aw_3 174 rfl rfl
theorem wd_3_176 : Cond.instanceMethod ⟨"MovingMarket", "sheetFinding", "(I)I"⟩ ∈ AW := aw_3 176 rfl rfl
theorem wd_3_177 : Cond.code ⟨"MovingMarket", "sheetFinding", "(I)I"⟩ prog_1_method_59_code (2 : Nat) (some FieldType.int) ∈ AW := aw_3 177 rfl rfl
theorem wd_3_178 : Cond.methodLink "MovingMarket" (233 : Nat) ⟨"MovingMarket$Sheet", "put", "(II)V"⟩ ∈ AW := aw_3 178 rfl rfl
theorem wd_3_179 : Cond.instanceMethod ⟨"MovingMarket$Sheet", "put", "(II)V"⟩ ∈ AW := aw_3 179 rfl rfl
theorem wd_3_180 : Cond.selects "MovingMarket$Sheet" ⟨"MovingMarket$Sheet", "put", "(II)V"⟩ ⟨"MovingMarket$Sheet", "put", "(II)V"⟩ ∈ AW := aw_3 180 rfl rfl
theorem wd_3_181 : Cond.code ⟨"MovingMarket$Sheet", "put", "(II)V"⟩ prog_3_method_3_code (3 : Nat) (none : Option FieldType) ∈ AW := aw_3 181 rfl rfl
theorem wd_3_182 : Cond.methodLink "MovingMarketLaw" (174 : Nat) ⟨"MovingMarket", "copy", "(IIIII)I"⟩ ∈ AW := aw_3 182 rfl rfl
theorem wd_3_183 : Cond.instanceMethod ⟨"MovingMarket", "copy", "(IIIII)I"⟩ ∈ AW := aw_3 183 rfl rfl
theorem wd_3_184 : Cond.selects "MovingMarket" ⟨"MovingMarket", "copy", "(IIIII)I"⟩ ⟨"MovingMarket", "copy", "(IIIII)I"⟩ ∈ AW := aw_3 184 rfl rfl
theorem wd_3_185 : Cond.code ⟨"MovingMarket", "copy", "(IIIII)I"⟩ prog_1_method_41_code (8 : Nat) (some FieldType.int) ∈ AW := aw_3 185 rfl rfl
theorem wd_3_186 : Cond.methodLink "MovingMarket" (238 : Nat) ⟨"MovingMarket$Sheet", "hasPart", "(II)Z"⟩ ∈ AW := aw_3 186 rfl rfl
theorem wd_3_187 : Cond.instanceMethod ⟨"MovingMarket$Sheet", "hasPart", "(II)Z"⟩ ∈ AW := aw_3 187 rfl rfl
theorem wd_3_188 : Cond.selects "MovingMarket$Sheet" ⟨"MovingMarket$Sheet", "hasPart", "(II)Z"⟩ ⟨"MovingMarket$Sheet", "hasPart", "(II)Z"⟩ ∈ AW := aw_3 188 rfl rfl
theorem wd_3_189 : Cond.code ⟨"MovingMarket$Sheet", "hasPart", "(II)Z"⟩ prog_3_method_4_code (3 : Nat) (some FieldType.boolean) ∈ AW := aw_3 189 rfl rfl
theorem wd_3_190 : Cond.methodLink "MovingMarketLaw" (179 : Nat) ⟨"MovingMarket", "load", "(I)I"⟩ ∈ AW := aw_3 190 rfl rfl
theorem wd_3_191 : Cond.instanceMethod ⟨"MovingMarket", "load", "(I)I"⟩ ∈ AW := aw_3 191 rfl rfl
theorem wd_3_192 : Cond.selects "MovingMarket" ⟨"MovingMarket", "load", "(I)I"⟩ ⟨"MovingMarket", "load", "(I)I"⟩ ∈ AW := aw_3 192 rfl rfl
theorem wd_3_193 : Cond.code ⟨"MovingMarket", "load", "(I)I"⟩ prog_1_method_42_code (5 : Nat) (some FieldType.int) ∈ AW := aw_3 193 rfl rfl
theorem wd_3_194 : Cond.methodLink "MovingMarket" (244 : Nat) ⟨"java/lang/Math", "min", "(II)I"⟩ ∈ AW := aw_3 194 rfl rfl
theorem wd_3_195 : Cond.methodLink "MovingMarketLaw" (183 : Nat) ⟨"MovingMarket", "fit", "(I)I"⟩ ∈ AW := aw_3 195 rfl rfl
theorem wd_3_196 : Cond.instanceMethod ⟨"MovingMarket", "fit", "(I)I"⟩ ∈ AW := aw_3 196 rfl rfl
theorem wd_3_197 : Cond.selects "MovingMarket" ⟨"MovingMarket", "fit", "(I)I"⟩ ⟨"MovingMarket", "fit", "(I)I"⟩ ∈ AW := aw_3 197 rfl rfl
theorem wd_3_198 : Cond.code ⟨"MovingMarket", "fit", "(I)I"⟩ prog_1_method_43_code (7 : Nat) (some FieldType.int) ∈ AW := aw_3 198 rfl rfl
theorem wd_3_199 : Cond.methodLink "MovingMarket" (249 : Nat) ⟨"MovingMarket", "lastWordHour", "(LMovingMarket$Sheet;)I"⟩ ∈ AW := aw_3 199 rfl rfl
theorem wd_3_201 : Cond.instanceMethod ⟨"MovingMarket", "lastWordHour", "(LMovingMarket$Sheet;)I"⟩ ∈ AW := aw_3 201 rfl rfl
theorem wd_3_202 : Cond.code ⟨"MovingMarket", "lastWordHour", "(LMovingMarket$Sheet;)I"⟩ prog_1_method_65_code (5 : Nat) (some FieldType.int) ∈ AW := aw_3 202 rfl rfl
theorem wd_3_203 : Cond.methodLink "MovingMarket" (283 : Nat) ⟨"java/lang/Math", "max", "(II)I"⟩ ∈ AW := aw_3 203 rfl rfl
theorem wd_3_204 : Cond.static ⟨"java/lang/Math", "max", "(II)I"⟩ ∈ AW := aw_3 204 rfl rfl
theorem wd_3_205 : Cond.code ⟨"java/lang/Math", "max", "(II)I"⟩ prog_8_method_65_code (2 : Nat) (some FieldType.int) ∈ AW := aw_3 205 rfl rfl
theorem wd_3_206 : Cond.methodLink "MovingMarket" (253 : Nat) ⟨"MovingMarket", "wordsAreSo", "(LMovingMarket$Sheet;I)Z"⟩ ∈ AW := aw_3 206 rfl rfl
theorem wd_3_208 : Cond.instanceMethod ⟨"MovingMarket", "wordsAreSo", "(LMovingMarket$Sheet;I)Z"⟩ ∈ AW := aw_3 208 rfl rfl
theorem wd_3_209 : Cond.code ⟨"MovingMarket", "wordsAreSo", "(LMovingMarket$Sheet;I)Z"⟩ prog_1_method_66_code (6 : Nat) (some FieldType.boolean) ∈ AW := aw_3 209 rfl rfl
theorem wd_3_210 : Cond.methodLink "MovingMarketLaw" (187 : Nat) ⟨"MovingMarket", "judge", "(II)I"⟩ ∈ AW := aw_3 210 rfl rfl
theorem wd_3_211 : Cond.instanceMethod ⟨"MovingMarket", "judge", "(II)I"⟩ ∈ AW := aw_3 211 rfl rfl
theorem wd_3_212 : Cond.selects "MovingMarket" ⟨"MovingMarket", "judge", "(II)I"⟩ ⟨"MovingMarket", "judge", "(II)I"⟩ ∈ AW := aw_3 212 rfl rfl
theorem wd_3_213 : Cond.code ⟨"MovingMarket", "judge", "(II)I"⟩ prog_1_method_44_code (6 : Nat) (some FieldType.int) ∈ AW := aw_3 213 rfl rfl
theorem wd_3_214 : Cond.methodLink "MovingMarketLaw" (191 : Nat) ⟨"MovingMarket", "image", "()I"⟩ ∈ AW := aw_3 214 rfl rfl
theorem wd_3_215 : Cond.instanceMethod ⟨"MovingMarket", "image", "()I"⟩ ∈ AW := aw_3 215 rfl rfl
theorem wd_3_216 : Cond.selects "MovingMarket" ⟨"MovingMarket", "image", "()I"⟩ ⟨"MovingMarket", "image", "()I"⟩ ∈ AW := aw_3 216 rfl rfl
theorem wd_3_217 : Cond.code ⟨"MovingMarket", "image", "()I"⟩ prog_1_method_45_code (1 : Nat) (some FieldType.int) ∈ AW := aw_3 217 rfl rfl
theorem wd_3_218 : Cond.methodLink "MovingMarketLaw" (195 : Nat) ⟨"MovingMarket", "undo", "()I"⟩ ∈ AW := aw_3 218 rfl rfl
theorem wd_3_219 : Cond.instanceMethod ⟨"MovingMarket", "undo", "()I"⟩ ∈ AW := aw_3 219 rfl rfl
theorem wd_3_220 : Cond.selects "MovingMarket" ⟨"MovingMarket", "undo", "()I"⟩ ⟨"MovingMarket", "undo", "()I"⟩ ∈ AW := aw_3 220 rfl rfl
theorem wd_3_221 : Cond.code ⟨"MovingMarket", "undo", "()I"⟩ prog_1_method_46_code (1 : Nat) (some FieldType.int) ∈ AW := aw_3 221 rfl rfl
theorem wd_3_222 : Cond.methodLink "MovingMarketLaw" (199 : Nat) ⟨"MovingMarket", "tear", "()I"⟩ ∈ AW := aw_3 222 rfl rfl
theorem wd_3_223 : Cond.instanceMethod ⟨"MovingMarket", "tear", "()I"⟩ ∈ AW := aw_3 223 rfl rfl
theorem wd_3_224 : Cond.selects "MovingMarket" ⟨"MovingMarket", "tear", "()I"⟩ ⟨"MovingMarket", "tear", "()I"⟩ ∈ AW := aw_3 224 rfl rfl
theorem wd_3_225 : Cond.code ⟨"MovingMarket", "tear", "()I"⟩ prog_1_method_47_code (2 : Nat) (some FieldType.int) ∈ AW := aw_3 225 rfl rfl
theorem wd_3_226 : Cond.methodLink "MovingMarketLaw" (203 : Nat) ⟨"MovingMarket", "count", "(I)I"⟩ ∈ AW := aw_3 226 rfl rfl
theorem wd_3_227 : Cond.instanceMethod ⟨"MovingMarket", "count", "(I)I"⟩ ∈ AW := aw_3 227 rfl rfl
theorem wd_3_228 : Cond.selects "MovingMarket" ⟨"MovingMarket", "count", "(I)I"⟩ ⟨"MovingMarket", "count", "(I)I"⟩ ∈ AW := aw_3 228 rfl rfl
theorem wd_3_229 : Cond.code ⟨"MovingMarket", "count", "(I)I"⟩ prog_1_method_48_code (2 : Nat) (some FieldType.int) ∈ AW := aw_3 229 rfl rfl
theorem wd_3_230 : Cond.methodLink "MovingMarket" (264 : Nat) ⟨"MovingMarket$Square", "allGoods", "()I"⟩ ∈ AW := aw_3 230 rfl rfl
theorem wd_3_231 : Cond.instanceMethod ⟨"MovingMarket$Square", "allGoods", "()I"⟩ ∈ AW := aw_3 231 rfl rfl
theorem wd_3_232 : Cond.selects "MovingMarket$Square" ⟨"MovingMarket$Square", "allGoods", "()I"⟩ ⟨"MovingMarket$Square", "allGoods", "()I"⟩ ∈ AW := aw_3 232 rfl rfl
theorem wd_3_233 : Cond.code ⟨"MovingMarket$Square", "allGoods", "()I"⟩ prog_4_method_25_code (3 : Nat) (some FieldType.int) ∈ AW := aw_3 233 rfl rfl
theorem wd_3_234 : Cond.methodLink "MovingMarket" (267 : Nat) ⟨"MovingMarket$Square", "allVisits", "()I"⟩ ∈ AW := aw_3 234 rfl rfl
theorem wd_3_235 : Cond.instanceMethod ⟨"MovingMarket$Square", "allVisits", "()I"⟩ ∈ AW := aw_3 235 rfl rfl
theorem wd_3_236 : Cond.selects "MovingMarket$Square" ⟨"MovingMarket$Square", "allVisits", "()I"⟩ ⟨"MovingMarket$Square", "allVisits", "()I"⟩ ∈ AW := aw_3 236 rfl rfl
theorem wd_3_237 : Cond.code ⟨"MovingMarket$Square", "allVisits", "()I"⟩ prog_4_method_26_code (3 : Nat) (some FieldType.int) ∈ AW := aw_3 237 rfl rfl
theorem wd_3_238 : Cond.methodLink "MovingMarket" (270 : Nat) ⟨"MovingMarket$Square", "spotsInUse", "()I"⟩ ∈ AW := aw_3 238 rfl rfl
theorem wd_3_239 : Cond.instanceMethod ⟨"MovingMarket$Square", "spotsInUse", "()I"⟩ ∈ AW := aw_3 239 rfl rfl
theorem wd_4_0 : Cond.selects "MovingMarket$Square" ⟨"MovingMarket$Square", "spotsInUse", "()I"⟩ ⟨"MovingMarket$Square", "spotsInUse", "()I"⟩ ∈ AW := aw_4 0 rfl rfl
theorem wd_4_1 : Cond.code ⟨"MovingMarket$Square", "spotsInUse", "()I"⟩ prog_4_method_27_code (3 : Nat) (some FieldType.int) ∈ AW := aw_4 1 rfl rfl
theorem wd_4_2 : Cond.methodLink "MovingMarketLaw" (207 : Nat) ⟨"MovingMarket", "status", "(I)I"⟩ ∈ AW := aw_4 2 rfl rfl
theorem wd_4_3 : Cond.instanceMethod ⟨"MovingMarket", "status", "(I)I"⟩ ∈ AW := aw_4 3 rfl rfl
theorem wd_4_4 : Cond.selects "MovingMarket" ⟨"MovingMarket", "status", "(I)I"⟩ ⟨"MovingMarket", "status", "(I)I"⟩ ∈ AW := aw_4 4 rfl rfl
theorem wd_4_5 : Cond.code ⟨"MovingMarket", "status", "(I)I"⟩ prog_1_method_49_code (4 : Nat) (some FieldType.int) ∈ AW := aw_4 5 rfl rfl
theorem wd_4_6 : Cond.classLink "MovingMarketLaw" (10 : Nat) "MovingMarketModel" ∈ AW := aw_4 6 rfl rfl
theorem wd_4_7 : Cond.instantiable "MovingMarketModel" (17 : Nat) ∈ AW := aw_4 7 rfl rfl
theorem wd_4_8 : Cond.methodLink "MovingMarketLaw" (12 : Nat) ⟨"MovingMarketModel", "<init>", "()V"⟩ ∈ AW := aw_4 8 rfl rfl
theorem wd_4_9 : Cond.instanceMethod ⟨"MovingMarketModel", "<init>", "()V"⟩ ∈ AW := aw_4 9 rfl rfl
theorem wd_4_10 : Cond.code ⟨"MovingMarketModel", "<init>", "()V"⟩ prog_7_method_1_code (2 : Nat) (none : Option FieldType) ∈ AW := aw_4 10 rfl rfl
theorem wd_4_11 : Cond.methodLink "MovingMarketModel" (1 : Nat) ⟨"java/lang/Object", "<init>", "()V"⟩ ∈ AW := aw_4 11 rfl rfl
theorem wd_4_12 : Cond.fieldLink "MovingMarketModel" (7 : Nat) "MovingMarketModel" "s" "[I" ∈ AW := aw_4 12 rfl rfl
theorem wd_4_13 : Cond.fieldLink "MovingMarketModel" (13 : Nat) "MovingMarketModel" "keptS" "[I" ∈ AW := aw_4 13 rfl rfl
theorem wd_4_14 : Cond.fieldLink "MovingMarketModel" (16 : Nat) "MovingMarketModel" "other" "[I" ∈ AW := aw_4 14 rfl rfl
theorem wd_4_15 : Cond.fieldLink "MovingMarketModel" (19 : Nat) "MovingMarketModel" "statuses" "[I" ∈ AW := aw_4 15 rfl rfl
theorem wd_4_16 : Cond.fieldLink "MovingMarketModel" (310 : Nat) "MovingMarketModel" "isKept" "Z" ∈ AW := aw_4 16 rfl rfl
theorem wd_4_17 : Cond.fieldLink "MovingMarketModel" (22 : Nat) "MovingMarketModel" "takes" "[I" ∈ AW := aw_4 17 rfl rfl
theorem wd_4_18 : Cond.fieldLink "MovingMarketModel" (153 : Nat) "MovingMarketModel" "bestTake" "I" ∈ AW := aw_4 18 rfl rfl
theorem wd_4_19 : Cond.fieldLink "MovingMarketModel" (25 : Nat) "MovingMarketModel" "tape" "[I" ∈ AW := aw_4 19 rfl rfl
theorem wd_4_20 : Cond.fieldLink "MovingMarketModel" (194 : Nat) "MovingMarketModel" "taped" "I" ∈ AW := aw_4 20 rfl rfl
theorem wd_4_21 : Cond.fieldLink "MovingMarketModel" (206 : Nat) "MovingMarketModel" "from" "I" ∈ AW := aw_4 21 rfl rfl
theorem wd_4_22 : Cond.fieldLink "MovingMarketModel" (203 : Nat) "MovingMarketModel" "to" "I" ∈ AW := aw_4 22 rfl rfl
theorem wd_4_23 : Cond.fieldLink "MovingMarketModel" (229 : Nat) "MovingMarketModel" "value" "I" ∈ AW := aw_4 23 rfl rfl
theorem wd_4_24 : Cond.fieldLink "MovingMarketModel" (218 : Nat) "MovingMarketModel" "isWrong" "Z" ∈ AW := aw_4 24 rfl rfl
theorem wd_4_25 : Cond.fieldLink "MovingMarketModel" (28 : Nat) "MovingMarketModel" "bitsOf" "[I" ∈ AW := aw_4 25 rfl rfl
theorem wd_4_26 : Cond.fieldLink "MovingMarketModel" (31 : Nat) "MovingMarketModel" "sizeOf" "[I" ∈ AW := aw_4 26 rfl rfl
theorem wd_4_27 : Cond.fieldLink "MovingMarketModel" (34 : Nat) "MovingMarketModel" "number" "[I" ∈ AW := aw_4 27 rfl rfl
theorem wd_4_28 : Cond.fieldLink "MovingMarketModel" (37 : Nat) "MovingMarketModel" "moved" "[I" ∈ AW := aw_4 28 rfl rfl
theorem wd_4_29 : Cond.laysFinal "MovingMarketModel" "MovingMarketModel" "s" "[I" ∈ AW := aw_4 29 rfl rfl
theorem wd_4_31 : Cond.laysFinal "MovingMarketModel" "MovingMarketModel" "keptS" "[I" ∈ AW := aw_4 31 rfl rfl
theorem wd_4_33 : Cond.laysFinal "MovingMarketModel" "MovingMarketModel" "other" "[I" ∈ AW := aw_4 33 rfl rfl
theorem wd_4_35 : Cond.laysFinal "MovingMarketModel" "MovingMarketModel" "statuses" "[I" ∈ AW := aw_4 35 rfl rfl
theorem wd_4_37 : Cond.lays "MovingMarketModel" "MovingMarketModel" "isKept" "Z" ∈ AW := aw_4 37 rfl rfl
theorem wd_4_39 : Cond.laysFinal "MovingMarketModel" "MovingMarketModel" "takes" "[I" ∈ AW := aw_4 39 rfl rfl
theorem wd_4_41 : Cond.lays "MovingMarketModel" "MovingMarketModel" "bestTake" "I" ∈ AW := aw_4 41 rfl rfl
theorem wd_4_43 : Cond.laysFinal "MovingMarketModel" "MovingMarketModel" "tape" "[I" ∈ AW := aw_4 43 rfl rfl
theorem wd_4_45 : Cond.lays "MovingMarketModel" "MovingMarketModel" "taped" "I" ∈ AW := aw_4 45 rfl rfl
theorem wd_4_47 : Cond.lays "MovingMarketModel" "MovingMarketModel" "from" "I" ∈ AW := aw_4 47 rfl rfl
theorem wd_4_49 : Cond.lays "MovingMarketModel" "MovingMarketModel" "to" "I" ∈ AW := aw_4 49 rfl rfl
theorem wd_4_51 : Cond.lays "MovingMarketModel" "MovingMarketModel" "value" "I" ∈ AW := aw_4 51 rfl rfl
theorem wd_4_53 : Cond.lays "MovingMarketModel" "MovingMarketModel" "isWrong" "Z" ∈ AW := aw_4 53 rfl rfl
theorem wd_4_55 : Cond.laysFinal "MovingMarketModel" "MovingMarketModel" "bitsOf" "[I" ∈ AW := aw_4 55 rfl rfl
theorem wd_4_57 : Cond.laysFinal "MovingMarketModel" "MovingMarketModel" "sizeOf" "[I" ∈ AW := aw_4 57 rfl rfl
theorem wd_4_59 : Cond.laysFinal "MovingMarketModel" "MovingMarketModel" "number" "[I" ∈ AW := aw_4 59 rfl rfl
theorem wd_4_61 : Cond.laysFinal "MovingMarketModel" "MovingMarketModel" "moved" "[I" ∈ AW := aw_4 61 rfl rfl
theorem wd_4_64 : Cond.methodLink "MovingMarketLaw" (17 : Nat) ⟨"MovingMarketModel", "visits", "(II)I"⟩ ∈ AW := aw_4 64 rfl rfl
theorem wd_4_65 : Cond.instanceMethod ⟨"MovingMarketModel", "visits", "(II)I"⟩ ∈ AW := aw_4 65 rfl rfl
theorem wd_4_66 : Cond.selects "MovingMarketModel" ⟨"MovingMarketModel", "visits", "(II)I"⟩ ⟨"MovingMarketModel", "visits", "(II)I"⟩ ∈ AW := aw_4 66 rfl rfl
theorem wd_4_67 : Cond.code ⟨"MovingMarketModel", "visits", "(II)I"⟩ prog_7_method_12_code (4 : Nat) (some FieldType.int) ∈ AW := aw_4 67 rfl rfl
theorem wd_4_68 : Cond.methodLink "MovingMarketModel" (52 : Nat) ⟨"MovingMarketModel", "isPlace", "(I)Z"⟩ ∈ AW := aw_4 68 rfl rfl
theorem wd_4_69 : Cond.static ⟨"MovingMarketModel", "isPlace", "(I)Z"⟩ ∈ AW := aw_4 69 rfl rfl
theorem wd_4_70 : Cond.code ⟨"MovingMarketModel", "isPlace", "(I)Z"⟩ prog_7_method_4_code (1 : Nat) (some FieldType.boolean) ∈ AW := aw_4 70 rfl rfl
theorem wd_4_71 : Cond.constantLong "MovingMarketModel" (41 : Nat) (11 : Int64) ∈ AW := aw_4 71 rfl rfl
theorem wd_4_72 : Cond.methodLink "MovingMarketModel" (43 : Nat) ⟨"MovingMarketModel", "in", "(JJJ)Z"⟩ ∈ AW := aw_4 72 rfl rfl
theorem wd_4_73 : Cond.static ⟨"MovingMarketModel", "in", "(JJJ)Z"⟩ ∈ AW := aw_4 73 rfl rfl
theorem wd_4_74 : Cond.code ⟨"MovingMarketModel", "in", "(JJJ)Z"⟩ prog_7_method_2_code (6 : Nat) (some FieldType.boolean) ∈ AW := aw_4 74 rfl rfl
theorem wd_4_75 : Cond.constantLong "MovingMarketModel" (56 : Nat) (20 : Int64) ∈ AW := aw_4 75 rfl rfl
theorem wd_4_76 : Cond.constant "MovingMarketModel" (40 : Nat) (-1000001 : Int32) ∈ AW := aw_4 76 rfl rfl
theorem wd_4_77 : Cond.methodLink "MovingMarketModel" (58 : Nat) ⟨"MovingMarketModel", "finds", "(I)I"⟩ ∈ AW := aw_4 77 rfl rfl
theorem wd_4_79 : Cond.instanceMethod ⟨"MovingMarketModel", "finds", "(I)I"⟩ ∈ AW := aw_4 79 rfl rfl
theorem wd_4_80 : Cond.code ⟨"MovingMarketModel", "finds", "(I)I"⟩ prog_7_method_3_code (2 : Nat) (some FieldType.int) ∈ AW := aw_4 80 rfl rfl
theorem wd_4_81 : Cond.methodLink "MovingMarketLaw" (22 : Nat) ⟨"MovingMarketModel", "shade", "(IZ)I"⟩ ∈ AW := aw_4 81 rfl rfl
theorem wd_4_82 : Cond.instanceMethod ⟨"MovingMarketModel", "shade", "(IZ)I"⟩ ∈ AW := aw_4 82 rfl rfl
theorem wd_4_83 : Cond.selects "MovingMarketModel" ⟨"MovingMarketModel", "shade", "(IZ)I"⟩ ⟨"MovingMarketModel", "shade", "(IZ)I"⟩ ∈ AW := aw_4 83 rfl rfl
theorem wd_4_84 : Cond.code ⟨"MovingMarketModel", "shade", "(IZ)I"⟩ prog_7_method_13_code (4 : Nat) (some FieldType.int) ∈ AW := aw_4 84 rfl rfl
theorem wd_4_85 : Cond.methodLink "MovingMarketLaw" (27 : Nat) ⟨"MovingMarketModel", "spring", "(I)I"⟩ ∈ AW := aw_4 85 rfl rfl
theorem wd_4_86 : Cond.instanceMethod ⟨"MovingMarketModel", "spring", "(I)I"⟩ ∈ AW := aw_4 86 rfl rfl
theorem wd_4_87 : Cond.selects "MovingMarketModel" ⟨"MovingMarketModel", "spring", "(I)I"⟩ ⟨"MovingMarketModel", "spring", "(I)I"⟩ ∈ AW := aw_4 87 rfl rfl
theorem wd_4_88 : Cond.code ⟨"MovingMarketModel", "spring", "(I)I"⟩ prog_7_method_14_code (3 : Nat) (some FieldType.int) ∈ AW := aw_4 88 rfl rfl
theorem wd_4_89 : Cond.methodLink "MovingMarketLaw" (31 : Nat) ⟨"MovingMarketModel", "stall", "(II)I"⟩ ∈ AW := aw_4 89 rfl rfl
theorem wd_4_90 : Cond.instanceMethod ⟨"MovingMarketModel", "stall", "(II)I"⟩ ∈ AW := aw_4 90 rfl rfl
theorem wd_4_91 : Cond.selects "MovingMarketModel" ⟨"MovingMarketModel", "stall", "(II)I"⟩ ⟨"MovingMarketModel", "stall", "(II)I"⟩ ∈ AW := aw_4 91 rfl rfl
theorem wd_4_92 : Cond.code ⟨"MovingMarketModel", "stall", "(II)I"⟩ prog_7_method_17_code (3 : Nat) (some FieldType.int) ∈ AW := aw_4 92 rfl rfl
theorem wd_4_93 : Cond.constantLong "MovingMarketModel" (65 : Nat) (6 : Int64) ∈ AW := aw_4 93 rfl rfl
theorem wd_4_94 : Cond.methodLink "MovingMarketModel" (67 : Nat) ⟨"MovingMarketModel", "stallAt", "(I)I"⟩ ∈ AW := aw_4 94 rfl rfl
theorem wd_4_96 : Cond.instanceMethod ⟨"MovingMarketModel", "stallAt", "(I)I"⟩ ∈ AW := aw_4 96 rfl rfl
theorem wd_4_97 : Cond.code ⟨"MovingMarketModel", "stallAt", "(I)I"⟩ prog_7_method_15_code (4 : Nat) (some FieldType.int) ∈ AW := aw_4 97 rfl rfl
theorem wd_4_98 : Cond.methodLink "MovingMarketModel" (62 : Nat) ⟨"MovingMarketModel", "its", "(II)I"⟩ ∈ AW := aw_4 98 rfl rfl
theorem wd_4_100 : Cond.instanceMethod ⟨"MovingMarketModel", "its", "(II)I"⟩ ∈ AW := aw_4 100 rfl rfl
theorem wd_4_101 : Cond.code ⟨"MovingMarketModel", "its", "(II)I"⟩ prog_7_method_11_code (3 : Nat) (some FieldType.int) ∈ AW := aw_4 101 rfl rfl
theorem wd_4_102 : Cond.methodLink "MovingMarketModel" (48 : Nat) ⟨"MovingMarketModel", "at", "(II)I"⟩ ∈ AW := aw_4 102 rfl rfl
theorem wd_4_103 : Cond.static ⟨"MovingMarketModel", "at", "(II)I"⟩ ∈ AW := aw_4 103 rfl rfl
theorem wd_4_104 : Cond.code ⟨"MovingMarketModel", "at", "(II)I"⟩ prog_7_method_10_code (2 : Nat) (some FieldType.int) ∈ AW := aw_4 104 rfl rfl
theorem wd_4_105 : Cond.constant "MovingMarketModel" (70 : Nat) (-1000005 : Int32) ∈ AW := aw_4 105 rfl rfl
theorem wd_4_106 : Cond.constant "MovingMarketModel" (71 : Nat) (-1000002 : Int32) ∈ AW := aw_4 106 rfl rfl
theorem wd_4_107 : Cond.methodLink "MovingMarketModel" (72 : Nat) ⟨"MovingMarketModel", "newStall", "(III)I"⟩ ∈ AW := aw_4 107 rfl rfl
theorem wd_4_109 : Cond.instanceMethod ⟨"MovingMarketModel", "newStall", "(III)I"⟩ ∈ AW := aw_4 109 rfl rfl
theorem wd_4_110 : Cond.code ⟨"MovingMarketModel", "newStall", "(III)I"⟩ prog_7_method_16_code (5 : Nat) (some FieldType.int) ∈ AW := aw_4 110 rfl rfl
theorem wd_4_111 : Cond.methodLink "MovingMarketLaw" (35 : Nat) ⟨"MovingMarketModel", "of", "(II)I"⟩ ∈ AW := aw_4 111 rfl rfl
theorem wd_4_112 : Cond.instanceMethod ⟨"MovingMarketModel", "of", "(II)I"⟩ ∈ AW := aw_4 112 rfl rfl
theorem wd_4_113 : Cond.selects "MovingMarketModel" ⟨"MovingMarketModel", "of", "(II)I"⟩ ⟨"MovingMarketModel", "of", "(II)I"⟩ ∈ AW := aw_4 113 rfl rfl
theorem wd_4_114 : Cond.code ⟨"MovingMarketModel", "of", "(II)I"⟩ prog_7_method_20_code (3 : Nat) (some FieldType.int) ∈ AW := aw_4 114 rfl rfl
theorem wd_4_115 : Cond.methodLink "MovingMarketModel" (76 : Nat) ⟨"MovingMarketModel", "isStall", "(I)Z"⟩ ∈ AW := aw_4 115 rfl rfl
theorem wd_4_117 : Cond.instanceMethod ⟨"MovingMarketModel", "isStall", "(I)Z"⟩ ∈ AW := aw_4 117 rfl rfl
theorem wd_4_118 : Cond.code ⟨"MovingMarketModel", "isStall", "(I)Z"⟩ prog_7_method_5_code (2 : Nat) (some FieldType.boolean) ∈ AW := aw_4 118 rfl rfl
theorem wd_4_119 : Cond.methodLink "MovingMarketModel" (79 : Nat) ⟨"MovingMarketModel", "price", "(I)I"⟩ ∈ AW := aw_4 119 rfl rfl
theorem wd_4_121 : Cond.instanceMethod ⟨"MovingMarketModel", "price", "(I)I"⟩ ∈ AW := aw_4 121 rfl rfl
theorem wd_4_122 : Cond.code ⟨"MovingMarketModel", "price", "(I)I"⟩ prog_7_method_18_code (3 : Nat) (some FieldType.int) ∈ AW := aw_4 122 rfl rfl
theorem wd_4_123 : Cond.methodLink "MovingMarketModel" (82 : Nat) ⟨"MovingMarketModel", "isGoing", "(I)Z"⟩ ∈ AW := aw_4 123 rfl rfl
theorem wd_4_125 : Cond.instanceMethod ⟨"MovingMarketModel", "isGoing", "(I)Z"⟩ ∈ AW := aw_4 125 rfl rfl
theorem wd_4_126 : Cond.code ⟨"MovingMarketModel", "isGoing", "(I)Z"⟩ prog_7_method_19_code (4 : Nat) (some FieldType.boolean) ∈ AW := aw_4 126 rfl rfl
theorem wd_4_127 : Cond.methodLink "MovingMarketLaw" (40 : Nat) ⟨"MovingMarketModel", "change", "(III)I"⟩ ∈ AW := aw_4 127 rfl rfl
theorem wd_4_128 : Cond.instanceMethod ⟨"MovingMarketModel", "change", "(III)I"⟩ ∈ AW := aw_4 128 rfl rfl
theorem wd_4_129 : Cond.selects "MovingMarketModel" ⟨"MovingMarketModel", "change", "(III)I"⟩ ⟨"MovingMarketModel", "change", "(III)I"⟩ ∈ AW := aw_4 129 rfl rfl
theorem wd_4_130 : Cond.code ⟨"MovingMarketModel", "change", "(III)I"⟩ prog_7_method_21_code (5 : Nat) (some FieldType.int) ∈ AW := aw_4 130 rfl rfl
theorem wd_4_131 : Cond.constantLong "MovingMarketModel" (85 : Nat) (99 : Int64) ∈ AW := aw_4 131 rfl rfl
theorem wd_4_132 : Cond.methodLink "MovingMarketLaw" (44 : Nat) ⟨"MovingMarketModel", "swap", "(II)I"⟩ ∈ AW := aw_4 132 rfl rfl
theorem wd_4_133 : Cond.instanceMethod ⟨"MovingMarketModel", "swap", "(II)I"⟩ ∈ AW := aw_4 133 rfl rfl
theorem wd_4_134 : Cond.selects "MovingMarketModel" ⟨"MovingMarketModel", "swap", "(II)I"⟩ ⟨"MovingMarketModel", "swap", "(II)I"⟩ ∈ AW := aw_4 134 rfl rfl
theorem wd_4_135 : Cond.code ⟨"MovingMarketModel", "swap", "(II)I"⟩ prog_7_method_23_code (3 : Nat) (some FieldType.int) ∈ AW := aw_4 135 rfl rfl
theorem wd_4_136 : Cond.methodLink "MovingMarketModel" (87 : Nat) ⟨"MovingMarketModel", "swaps", "(II)V"⟩ ∈ AW := aw_4 136 rfl rfl
theorem wd_4_138 : Cond.instanceMethod ⟨"MovingMarketModel", "swaps", "(II)V"⟩ ∈ AW := aw_4 138 rfl rfl
theorem wd_4_139 : Cond.code ⟨"MovingMarketModel", "swaps", "(II)V"⟩ prog_7_method_22_code (4 : Nat) (none : Option FieldType) ∈ AW := aw_4 139 rfl rfl
theorem wd_4_140 : Cond.methodLink "MovingMarketLaw" (48 : Nat) ⟨"MovingMarketModel", "offers", "(II)I"⟩ ∈ AW := aw_4 140 rfl rfl
theorem wd_4_141 : Cond.instanceMethod ⟨"MovingMarketModel", "offers", "(II)I"⟩ ∈ AW := aw_4 141 rfl rfl
theorem wd_4_142 : Cond.selects "MovingMarketModel" ⟨"MovingMarketModel", "offers", "(II)I"⟩ ⟨"MovingMarketModel", "offers", "(II)I"⟩ ∈ AW := aw_4 142 rfl rfl
theorem wd_4_143 : Cond.code ⟨"MovingMarketModel", "offers", "(II)I"⟩ prog_7_method_25_code (3 : Nat) (some FieldType.int) ∈ AW := aw_4 143 rfl rfl
theorem wd_4_144 : Cond.methodLink "MovingMarketModel" (91 : Nat) ⟨"MovingMarketModel", "offer", "(II)I"⟩ ∈ AW := aw_4 144 rfl rfl
theorem wd_4_146 : Cond.instanceMethod ⟨"MovingMarketModel", "offer", "(II)I"⟩ ∈ AW := aw_4 146 rfl rfl
theorem wd_4_147 : Cond.code ⟨"MovingMarketModel", "offer", "(II)I"⟩ prog_7_method_24_code (5 : Nat) (some FieldType.int) ∈ AW := aw_4 147 rfl rfl
theorem wd_4_148 : Cond.methodLink "MovingMarketLaw" (52 : Nat) ⟨"MovingMarketModel", "placeOf", "(II)I"⟩ ∈ AW := aw_4 148 rfl rfl
theorem wd_4_149 : Cond.instanceMethod ⟨"MovingMarketModel", "placeOf", "(II)I"⟩ ∈ AW := aw_4 149 rfl rfl
theorem wd_4_150 : Cond.selects "MovingMarketModel" ⟨"MovingMarketModel", "placeOf", "(II)I"⟩ ⟨"MovingMarketModel", "placeOf", "(II)I"⟩ ∈ AW := aw_4 150 rfl rfl
theorem wd_4_151 : Cond.code ⟨"MovingMarketModel", "placeOf", "(II)I"⟩ prog_7_method_26_code (3 : Nat) (some FieldType.int) ∈ AW := aw_4 151 rfl rfl
theorem wd_4_152 : Cond.constantLong "MovingMarketModel" (94 : Nat) (2 : Int64) ∈ AW := aw_4 152 rfl rfl
theorem wd_4_153 : Cond.methodLink "MovingMarketLaw" (56 : Nat) ⟨"MovingMarketModel", "hours", "(I)I"⟩ ∈ AW := aw_4 153 rfl rfl
theorem wd_4_154 : Cond.instanceMethod ⟨"MovingMarketModel", "hours", "(I)I"⟩ ∈ AW := aw_4 154 rfl rfl
theorem wd_4_155 : Cond.selects "MovingMarketModel" ⟨"MovingMarketModel", "hours", "(I)I"⟩ ⟨"MovingMarketModel", "hours", "(I)I"⟩ ∈ AW := aw_4 155 rfl rfl
theorem wd_4_156 : Cond.code ⟨"MovingMarketModel", "hours", "(I)I"⟩ prog_7_method_34_code (2 : Nat) (some FieldType.int) ∈ AW := aw_4 156 rfl rfl
theorem wd_4_157 : Cond.constantLong "MovingMarketModel" (117 : Nat) (48 : Int64) ∈ AW := aw_4 157 rfl rfl
theorem wd_4_158 : Cond.methodLink "MovingMarketModel" (119 : Nat) ⟨"MovingMarketModel", "isTooLate", "(I)Z"⟩ ∈ AW := aw_4 158 rfl rfl
theorem wd_4_160 : Cond.instanceMethod ⟨"MovingMarketModel", "isTooLate", "(I)Z"⟩ ∈ AW := aw_4 160 rfl rfl
theorem wd_4_161 : Cond.code ⟨"MovingMarketModel", "isTooLate", "(I)Z"⟩ prog_7_method_33_code (2 : Nat) (some FieldType.boolean) ∈ AW := aw_4 161 rfl rfl
theorem wd_4_162 : Cond.methodLink "MovingMarketModel" (122 : Nat) ⟨"MovingMarketModel", "hoursGo", "(I)I"⟩ ∈ AW := aw_4 162 rfl rfl
theorem wd_4_164 : Cond.instanceMethod ⟨"MovingMarketModel", "hoursGo", "(I)I"⟩ ∈ AW := aw_4 164 rfl rfl
theorem wd_4_165 : Cond.code ⟨"MovingMarketModel", "hoursGo", "(I)I"⟩ prog_7_method_32_code (4 : Nat) (some FieldType.int) ∈ AW := aw_4 165 rfl rfl
theorem wd_4_166 : Cond.methodLink "MovingMarketModel" (113 : Nat) ⟨"MovingMarketModel", "hour", "()I"⟩ ∈ AW := aw_4 166 rfl rfl
theorem wd_4_168 : Cond.instanceMethod ⟨"MovingMarketModel", "hour", "()I"⟩ ∈ AW := aw_4 168 rfl rfl
theorem wd_4_169 : Cond.code ⟨"MovingMarketModel", "hour", "()I"⟩ prog_7_method_31_code (6 : Nat) (some FieldType.int) ∈ AW := aw_4 169 rfl rfl
theorem wd_4_170 : Cond.methodLink "MovingMarketModel" (96 : Nat) ⟨"MovingMarketModel", "sells", "(I)I"⟩ ∈ AW := aw_4 170 rfl rfl
theorem wd_4_172 : Cond.instanceMethod ⟨"MovingMarketModel", "sells", "(I)I"⟩ ∈ AW := aw_4 172 rfl rfl
theorem wd_4_173 : Cond.code ⟨"MovingMarketModel", "sells", "(I)I"⟩ prog_7_method_27_code (3 : Nat) (some FieldType.int) ∈ AW := aw_4 173 rfl rfl
theorem wd_4_174 : Cond.methodLink "MovingMarketModel" (103 : Nat) ⟨"MovingMarketModel", "staying", "(Z)I"⟩ ∈ AW := aw_4 174 rfl rfl
theorem wd_4_176 : Cond.instanceMethod ⟨"MovingMarketModel", "staying", "(Z)I"⟩ ∈ AW := aw_4 176 rfl rfl
theorem wd_4_177 : Cond.code ⟨"MovingMarketModel", "staying", "(Z)I"⟩ prog_7_method_28_code (5 : Nat) (some FieldType.int) ∈ AW := aw_4 177 rfl rfl
theorem wd_4_178 : Cond.methodLink "MovingMarketModel" (107 : Nat) ⟨"MovingMarketModel", "placesOf", "(I)I"⟩ ∈ AW := aw_4 178 rfl rfl
theorem wd_4_180 : Cond.instanceMethod ⟨"MovingMarketModel", "placesOf", "(I)I"⟩ ∈ AW := aw_4 180 rfl rfl
theorem wd_4_181 : Cond.code ⟨"MovingMarketModel", "placesOf", "(I)I"⟩ prog_7_method_29_code (4 : Nat) (some FieldType.int) ∈ AW := aw_4 181 rfl rfl
theorem wd_4_182 : Cond.methodLink "MovingMarketModel" (99 : Nat) ⟨"MovingMarketModel", "has", "(II)Z"⟩ ∈ AW := aw_4 182 rfl rfl
theorem wd_4_183 : Cond.static ⟨"MovingMarketModel", "has", "(II)Z"⟩ ∈ AW := aw_4 183 rfl rfl
theorem wd_4_184 : Cond.code ⟨"MovingMarketModel", "has", "(II)Z"⟩ prog_7_method_6_code (2 : Nat) (some FieldType.boolean) ∈ AW := aw_4 184 rfl rfl
theorem wd_4_185 : Cond.methodLink "MovingMarketModel" (110 : Nat) ⟨"MovingMarketModel", "farFrom", "(II)I"⟩ ∈ AW := aw_4 185 rfl rfl
theorem wd_4_186 : Cond.static ⟨"MovingMarketModel", "farFrom", "(II)I"⟩ ∈ AW := aw_4 186 rfl rfl
theorem wd_4_187 : Cond.code ⟨"MovingMarketModel", "farFrom", "(II)I"⟩ prog_7_method_30_code (3 : Nat) (some FieldType.int) ∈ AW := aw_4 187 rfl rfl
theorem wd_4_188 : Cond.methodLink "MovingMarketLaw" (61 : Nat) ⟨"MovingMarketModel", "stay", "()I"⟩ ∈ AW := aw_4 188 rfl rfl
theorem wd_4_189 : Cond.instanceMethod ⟨"MovingMarketModel", "stay", "()I"⟩ ∈ AW := aw_4 189 rfl rfl
theorem wd_4_190 : Cond.selects "MovingMarketModel" ⟨"MovingMarketModel", "stay", "()I"⟩ ⟨"MovingMarketModel", "stay", "()I"⟩ ∈ AW := aw_4 190 rfl rfl
theorem wd_4_191 : Cond.code ⟨"MovingMarketModel", "stay", "()I"⟩ prog_7_method_35_code (1 : Nat) (some FieldType.int) ∈ AW := aw_4 191 rfl rfl
theorem wd_4_192 : Cond.methodLink "MovingMarketLaw" (65 : Nat) ⟨"MovingMarketModel", "ahead", "(II)I"⟩ ∈ AW := aw_4 192 rfl rfl
theorem wd_4_193 : Cond.instanceMethod ⟨"MovingMarketModel", "ahead", "(II)I"⟩ ∈ AW := aw_4 193 rfl rfl
theorem wd_4_194 : Cond.selects "MovingMarketModel" ⟨"MovingMarketModel", "ahead", "(II)I"⟩ ⟨"MovingMarketModel", "ahead", "(II)I"⟩ ∈ AW := aw_4 194 rfl rfl
theorem wd_4_195 : Cond.code ⟨"MovingMarketModel", "ahead", "(II)I"⟩ prog_7_method_40_code (5 : Nat) (some FieldType.int) ∈ AW := aw_4 195 rfl rfl
theorem wd_4_196 : Cond.methodLink "MovingMarketModel" (127 : Nat) ⟨"MovingMarketModel", "isSpan", "(I)Z"⟩ ∈ AW := aw_4 196 rfl rfl
theorem wd_4_197 : Cond.static ⟨"MovingMarketModel", "isSpan", "(I)Z"⟩ ∈ AW := aw_4 197 rfl rfl
theorem wd_4_198 : Cond.code ⟨"MovingMarketModel", "isSpan", "(I)Z"⟩ prog_7_method_39_code (1 : Nat) (some FieldType.boolean) ∈ AW := aw_4 198 rfl rfl
theorem wd_4_199 : Cond.constantLong "MovingMarketModel" (125 : Nat) (96 : Int64) ∈ AW := aw_4 199 rfl rfl
theorem wd_4_200 : Cond.methodLink "MovingMarketModel" (130 : Nat) ⟨"MovingMarketModel", "saves", "()V"⟩ ∈ AW := aw_4 200 rfl rfl
theorem wd_4_202 : Cond.instanceMethod ⟨"MovingMarketModel", "saves", "()V"⟩ ∈ AW := aw_4 202 rfl rfl
theorem wd_4_203 : Cond.code ⟨"MovingMarketModel", "saves", "()V"⟩ prog_7_method_8_code (2 : Nat) (none : Option FieldType) ∈ AW := aw_4 203 rfl rfl
theorem wd_4_204 : Cond.methodLink "MovingMarketModel" (133 : Nat) ⟨"MovingMarketModel", "emptySet", "()I"⟩ ∈ AW := aw_4 204 rfl rfl
theorem wd_4_206 : Cond.instanceMethod ⟨"MovingMarketModel", "emptySet", "()I"⟩ ∈ AW := aw_4 206 rfl rfl
theorem wd_4_207 : Cond.code ⟨"MovingMarketModel", "emptySet", "()I"⟩ prog_7_method_36_code (3 : Nat) (some FieldType.int) ∈ AW := aw_4 207 rfl rfl
theorem wd_4_208 : Cond.methodLink "MovingMarketModel" (136 : Nat) ⟨"MovingMarketModel", "everyPlace", "()I"⟩ ∈ AW := aw_4 208 rfl rfl
theorem wd_4_210 : Cond.instanceMethod ⟨"MovingMarketModel", "everyPlace", "()I"⟩ ∈ AW := aw_4 210 rfl rfl
theorem wd_4_211 : Cond.code ⟨"MovingMarketModel", "everyPlace", "()I"⟩ prog_7_method_38_code (1 : Nat) (some FieldType.int) ∈ AW := aw_4 211 rfl rfl
theorem wd_4_212 : Cond.methodLink "MovingMarketModel" (139 : Nat) ⟨"MovingMarketModel", "sumOf", "(I)I"⟩ ∈ AW := aw_4 212 rfl rfl
theorem wd_4_214 : Cond.instanceMethod ⟨"MovingMarketModel", "sumOf", "(I)I"⟩ ∈ AW := aw_4 214 rfl rfl
theorem wd_4_215 : Cond.code ⟨"MovingMarketModel", "sumOf", "(I)I"⟩ prog_7_method_37_code (4 : Nat) (some FieldType.int) ∈ AW := aw_4 215 rfl rfl
theorem wd_4_216 : Cond.methodLink "MovingMarketModel" (142 : Nat) ⟨"MovingMarketModel", "putsBack", "()V"⟩ ∈ AW := aw_4 216 rfl rfl
theorem wd_4_218 : Cond.instanceMethod ⟨"MovingMarketModel", "putsBack", "()V"⟩ ∈ AW := aw_4 218 rfl rfl
theorem wd_4_219 : Cond.code ⟨"MovingMarketModel", "putsBack", "()V"⟩ prog_7_method_9_code (2 : Nat) (none : Option FieldType) ∈ AW := aw_4 219 rfl rfl
theorem wd_4_220 : Cond.methodLink "MovingMarketLaw" (69 : Nat) ⟨"MovingMarketModel", "when", "(II)I"⟩ ∈ AW := aw_4 220 rfl rfl
theorem wd_4_221 : Cond.instanceMethod ⟨"MovingMarketModel", "when", "(II)I"⟩ ∈ AW := aw_4 221 rfl rfl
theorem wd_4_222 : Cond.selects "MovingMarketModel" ⟨"MovingMarketModel", "when", "(II)I"⟩ ⟨"MovingMarketModel", "when", "(II)I"⟩ ∈ AW := aw_4 222 rfl rfl
theorem wd_4_223 : Cond.code ⟨"MovingMarketModel", "when", "(II)I"⟩ prog_7_method_41_code (5 : Nat) (some FieldType.int) ∈ AW := aw_4 223 rfl rfl
theorem wd_4_224 : Cond.constant "MovingMarketModel" (145 : Nat) (-1000004 : Int32) ∈ AW := aw_4 224 rfl rfl
theorem wd_4_225 : Cond.methodLink "MovingMarketLaw" (73 : Nat) ⟨"MovingMarketModel", "empty", "(I)I"⟩ ∈ AW := aw_4 225 rfl rfl
theorem wd_4_226 : Cond.instanceMethod ⟨"MovingMarketModel", "empty", "(I)I"⟩ ∈ AW := aw_4 226 rfl rfl
theorem wd_4_227 : Cond.selects "MovingMarketModel" ⟨"MovingMarketModel", "empty", "(I)I"⟩ ⟨"MovingMarketModel", "empty", "(I)I"⟩ ∈ AW := aw_4 227 rfl rfl
theorem wd_4_228 : Cond.code ⟨"MovingMarketModel", "empty", "(I)I"⟩ prog_7_method_42_code (4 : Nat) (some FieldType.int) ∈ AW := aw_4 228 rfl rfl
theorem wd_4_229 : Cond.methodLink "MovingMarketLaw" (77 : Nat) ⟨"MovingMarketModel", "again", "()I"⟩ ∈ AW := aw_4 229 rfl rfl
theorem wd_4_230 : Cond.instanceMethod ⟨"MovingMarketModel", "again", "()I"⟩ ∈ AW := aw_4 230 rfl rfl
theorem wd_4_231 : Cond.selects "MovingMarketModel" ⟨"MovingMarketModel", "again", "()I"⟩ ⟨"MovingMarketModel", "again", "()I"⟩ ∈ AW := aw_4 231 rfl rfl
theorem wd_4_232 : Cond.code ⟨"MovingMarketModel", "again", "()I"⟩ prog_7_method_43_code (5 : Nat) (some FieldType.int) ∈ AW := aw_4 232 rfl rfl
theorem wd_4_233 : Cond.methodLink "MovingMarketLaw" (81 : Nat) ⟨"MovingMarketModel", "there", "(II)I"⟩ ∈ AW := aw_4 233 rfl rfl
theorem wd_4_234 : Cond.instanceMethod ⟨"MovingMarketModel", "there", "(II)I"⟩ ∈ AW := aw_4 234 rfl rfl
theorem wd_4_235 : Cond.selects "MovingMarketModel" ⟨"MovingMarketModel", "there", "(II)I"⟩ ⟨"MovingMarketModel", "there", "(II)I"⟩ ∈ AW := aw_4 235 rfl rfl
theorem wd_4_236 : Cond.code ⟨"MovingMarketModel", "there", "(II)I"⟩ prog_7_method_44_code (5 : Nat) (some FieldType.int) ∈ AW := aw_4 236 rfl rfl
theorem wd_4_237 : Cond.methodLink "MovingMarketLaw" (85 : Nat) ⟨"MovingMarketModel", "passes", "(I)I"⟩ ∈ AW := aw_4 237 rfl rfl
theorem wd_4_238 : Cond.instanceMethod ⟨"MovingMarketModel", "passes", "(I)I"⟩ ∈ AW := aw_4 238 rfl rfl
theorem wd_4_239 : Cond.selects "MovingMarketModel" ⟨"MovingMarketModel", "passes", "(I)I"⟩ ⟨"MovingMarketModel", "passes", "(I)I"⟩ ∈ AW := aw_4 239 rfl rfl
theorem wd_5_0 : Cond.code ⟨"MovingMarketModel", "passes", "(I)I"⟩ prog_7_method_45_code (3 : Nat) (some FieldType.int) ∈ AW := aw_5 0 rfl rfl
theorem wd_5_1 : Cond.methodLink "MovingMarketLaw" (89 : Nat) ⟨"MovingMarketModel", "most", "(I)I"⟩ ∈ AW := aw_5 1 rfl rfl
theorem wd_5_2 : Cond.instanceMethod ⟨"MovingMarketModel", "most", "(I)I"⟩ ∈ AW := aw_5 2 rfl rfl
theorem wd_5_3 : Cond.selects "MovingMarketModel" ⟨"MovingMarketModel", "most", "(I)I"⟩ ⟨"MovingMarketModel", "most", "(I)I"⟩ ∈ AW := aw_5 3 rfl rfl
theorem wd_5_4 : Cond.code ⟨"MovingMarketModel", "most", "(I)I"⟩ prog_7_method_51_code (3 : Nat) (some FieldType.int) ∈ AW := aw_5 4 rfl rfl
theorem wd_5_5 : Cond.constantLong "MovingMarketModel" (161 : Nat) (24 : Int64) ∈ AW := aw_5 5 rfl rfl
theorem wd_5_6 : Cond.methodLink "MovingMarketModel" (163 : Nat) ⟨"MovingMarketModel", "orderWrong", "(I)I"⟩ ∈ AW := aw_5 6 rfl rfl
theorem wd_5_8 : Cond.instanceMethod ⟨"MovingMarketModel", "orderWrong", "(I)I"⟩ ∈ AW := aw_5 8 rfl rfl
theorem wd_5_9 : Cond.code ⟨"MovingMarketModel", "orderWrong", "(I)I"⟩ prog_7_method_49_code (2 : Nat) (some FieldType.int) ∈ AW := aw_5 9 rfl rfl
theorem wd_5_10 : Cond.constant "MovingMarketModel" (146 : Nat) (-1000007 : Int32) ∈ AW := aw_5 10 rfl rfl
theorem wd_5_11 : Cond.methodLink "MovingMarketModel" (166 : Nat) ⟨"MovingMarketModel", "bestOrder", "(II)I"⟩ ∈ AW := aw_5 11 rfl rfl
theorem wd_5_13 : Cond.instanceMethod ⟨"MovingMarketModel", "bestOrder", "(II)I"⟩ ∈ AW := aw_5 13 rfl rfl
theorem wd_5_14 : Cond.code ⟨"MovingMarketModel", "bestOrder", "(II)I"⟩ prog_7_method_50_code (6 : Nat) (some FieldType.int) ∈ AW := aw_5 14 rfl rfl
theorem wd_5_15 : Cond.methodLink "MovingMarketModel" (147 : Nat) ⟨"MovingMarketModel", "firstOrder", "()V"⟩ ∈ AW := aw_5 15 rfl rfl
theorem wd_5_17 : Cond.instanceMethod ⟨"MovingMarketModel", "firstOrder", "()V"⟩ ∈ AW := aw_5 17 rfl rfl
theorem wd_5_18 : Cond.code ⟨"MovingMarketModel", "firstOrder", "()V"⟩ prog_7_method_46_code (2 : Nat) (none : Option FieldType) ∈ AW := aw_5 18 rfl rfl
theorem wd_5_19 : Cond.methodLink "MovingMarketModel" (150 : Nat) ⟨"MovingMarketModel", "lays", "()V"⟩ ∈ AW := aw_5 19 rfl rfl
theorem wd_5_21 : Cond.instanceMethod ⟨"MovingMarketModel", "lays", "()V"⟩ ∈ AW := aw_5 21 rfl rfl
theorem wd_5_22 : Cond.code ⟨"MovingMarketModel", "lays", "()V"⟩ prog_7_method_48_code (2 : Nat) (none : Option FieldType) ∈ AW := aw_5 22 rfl rfl
theorem wd_5_23 : Cond.methodLink "MovingMarketModel" (157 : Nat) ⟨"MovingMarketModel", "nextOrder", "()Z"⟩ ∈ AW := aw_5 23 rfl rfl
theorem wd_5_25 : Cond.instanceMethod ⟨"MovingMarketModel", "nextOrder", "()Z"⟩ ∈ AW := aw_5 25 rfl rfl
theorem wd_5_26 : Cond.code ⟨"MovingMarketModel", "nextOrder", "()Z"⟩ prog_7_method_47_code (6 : Nat) (some FieldType.boolean) ∈ AW := aw_5 26 rfl rfl
theorem wd_5_27 : Cond.methodLink "MovingMarketLaw" (93 : Nat) ⟨"MovingMarketModel", "order", "(II)I"⟩ ∈ AW := aw_5 27 rfl rfl
theorem wd_5_28 : Cond.instanceMethod ⟨"MovingMarketModel", "order", "(II)I"⟩ ∈ AW := aw_5 28 rfl rfl
theorem wd_5_29 : Cond.selects "MovingMarketModel" ⟨"MovingMarketModel", "order", "(II)I"⟩ ⟨"MovingMarketModel", "order", "(II)I"⟩ ∈ AW := aw_5 29 rfl rfl
theorem wd_5_30 : Cond.code ⟨"MovingMarketModel", "order", "(II)I"⟩ prog_7_method_52_code (5 : Nat) (some FieldType.int) ∈ AW := aw_5 30 rfl rfl
theorem wd_5_31 : Cond.methodLink "MovingMarketLaw" (97 : Nat) ⟨"MovingMarketModel", "dawn", "(III)I"⟩ ∈ AW := aw_5 31 rfl rfl
theorem wd_5_32 : Cond.instanceMethod ⟨"MovingMarketModel", "dawn", "(III)I"⟩ ∈ AW := aw_5 32 rfl rfl
theorem wd_5_33 : Cond.selects "MovingMarketModel" ⟨"MovingMarketModel", "dawn", "(III)I"⟩ ⟨"MovingMarketModel", "dawn", "(III)I"⟩ ∈ AW := aw_5 33 rfl rfl
theorem wd_5_34 : Cond.code ⟨"MovingMarketModel", "dawn", "(III)I"⟩ prog_7_method_53_code (8 : Nat) (some FieldType.int) ∈ AW := aw_5 34 rfl rfl
theorem wd_5_35 : Cond.methodLink "MovingMarketLaw" (101 : Nat) ⟨"MovingMarketModel", "throwAway", "(II)I"⟩ ∈ AW := aw_5 35 rfl rfl
theorem wd_5_36 : Cond.instanceMethod ⟨"MovingMarketModel", "throwAway", "(II)I"⟩ ∈ AW := aw_5 36 rfl rfl
theorem wd_5_37 : Cond.selects "MovingMarketModel" ⟨"MovingMarketModel", "throwAway", "(II)I"⟩ ⟨"MovingMarketModel", "throwAway", "(II)I"⟩ ∈ AW := aw_5 37 rfl rfl
theorem wd_5_38 : Cond.code ⟨"MovingMarketModel", "throwAway", "(II)I"⟩ prog_7_method_56_code (7 : Nat) (some FieldType.int) ∈ AW := aw_5 38 rfl rfl
theorem wd_5_39 : Cond.methodLink "MovingMarketModel" (169 : Nat) ⟨"MovingMarketModel", "isDays", "(I)Z"⟩ ∈ AW := aw_5 39 rfl rfl
theorem wd_5_40 : Cond.static ⟨"MovingMarketModel", "isDays", "(I)Z"⟩ ∈ AW := aw_5 40 rfl rfl
theorem wd_5_41 : Cond.code ⟨"MovingMarketModel", "isDays", "(I)Z"⟩ prog_7_method_55_code (1 : Nat) (some FieldType.boolean) ∈ AW := aw_5 41 rfl rfl
theorem wd_5_42 : Cond.methodLink "MovingMarketModel" (172 : Nat) ⟨"MovingMarketModel", "coinOf", "(II)I"⟩ ∈ AW := aw_5 42 rfl rfl
theorem wd_5_44 : Cond.instanceMethod ⟨"MovingMarketModel", "coinOf", "(II)I"⟩ ∈ AW := aw_5 44 rfl rfl
theorem wd_5_45 : Cond.code ⟨"MovingMarketModel", "coinOf", "(II)I"⟩ prog_7_method_54_code (5 : Nat) (some FieldType.int) ∈ AW := aw_5 45 rfl rfl
theorem wd_5_46 : Cond.methodLink "MovingMarketLaw" (105 : Nat) ⟨"MovingMarketModel", "wishes", "(II)I"⟩ ∈ AW := aw_5 46 rfl rfl
theorem wd_5_47 : Cond.instanceMethod ⟨"MovingMarketModel", "wishes", "(II)I"⟩ ∈ AW := aw_5 47 rfl rfl
theorem wd_5_48 : Cond.selects "MovingMarketModel" ⟨"MovingMarketModel", "wishes", "(II)I"⟩ ⟨"MovingMarketModel", "wishes", "(II)I"⟩ ∈ AW := aw_5 48 rfl rfl
theorem wd_5_49 : Cond.code ⟨"MovingMarketModel", "wishes", "(II)I"⟩ prog_7_method_57_code (7 : Nat) (some FieldType.int) ∈ AW := aw_5 49 rfl rfl
theorem wd_5_50 : Cond.methodLink "MovingMarketLaw" (109 : Nat) ⟨"MovingMarketModel", "deal", "(I)I"⟩ ∈ AW := aw_5 50 rfl rfl
theorem wd_5_51 : Cond.instanceMethod ⟨"MovingMarketModel", "deal", "(I)I"⟩ ∈ AW := aw_5 51 rfl rfl
theorem wd_5_52 : Cond.selects "MovingMarketModel" ⟨"MovingMarketModel", "deal", "(I)I"⟩ ⟨"MovingMarketModel", "deal", "(I)I"⟩ ∈ AW := aw_5 52 rfl rfl
theorem wd_5_53 : Cond.code ⟨"MovingMarketModel", "deal", "(I)I"⟩ prog_7_method_58_code (8 : Nat) (some FieldType.int) ∈ AW := aw_5 53 rfl rfl
theorem wd_5_54 : Cond.methodLink "MovingMarketLaw" (113 : Nat) ⟨"MovingMarketModel", "beside", "(I)I"⟩ ∈ AW := aw_5 54 rfl rfl
theorem wd_5_55 : Cond.instanceMethod ⟨"MovingMarketModel", "beside", "(I)I"⟩ ∈ AW := aw_5 55 rfl rfl
theorem wd_5_56 : Cond.selects "MovingMarketModel" ⟨"MovingMarketModel", "beside", "(I)I"⟩ ⟨"MovingMarketModel", "beside", "(I)I"⟩ ∈ AW := aw_5 56 rfl rfl
theorem wd_5_57 : Cond.code ⟨"MovingMarketModel", "beside", "(I)I"⟩ prog_7_method_61_code (2 : Nat) (some FieldType.int) ∈ AW := aw_5 57 rfl rfl
theorem wd_5_58 : Cond.methodLink "MovingMarketModel" (178 : Nat) ⟨"MovingMarketModel", "besideSet", "(I)I"⟩ ∈ AW := aw_5 58 rfl rfl
theorem wd_5_60 : Cond.instanceMethod ⟨"MovingMarketModel", "besideSet", "(I)I"⟩ ∈ AW := aw_5 60 rfl rfl
theorem wd_5_61 : Cond.code ⟨"MovingMarketModel", "besideSet", "(I)I"⟩ prog_7_method_60_code (4 : Nat) (some FieldType.int) ∈ AW := aw_5 61 rfl rfl
theorem wd_5_62 : Cond.methodLink "MovingMarketModel" (175 : Nat) ⟨"MovingMarketModel", "isBeside", "(II)Z"⟩ ∈ AW := aw_5 62 rfl rfl
theorem wd_5_64 : Cond.instanceMethod ⟨"MovingMarketModel", "isBeside", "(II)Z"⟩ ∈ AW := aw_5 64 rfl rfl
theorem wd_5_65 : Cond.code ⟨"MovingMarketModel", "isBeside", "(II)Z"⟩ prog_7_method_59_code (4 : Nat) (some FieldType.boolean) ∈ AW := aw_5 65 rfl rfl
theorem wd_5_66 : Cond.methodLink "MovingMarketLaw" (117 : Nat) ⟨"MovingMarketModel", "ever", "(II)I"⟩ ∈ AW := aw_5 66 rfl rfl
theorem wd_5_67 : Cond.instanceMethod ⟨"MovingMarketModel", "ever", "(II)I"⟩ ∈ AW := aw_5 67 rfl rfl
theorem wd_5_68 : Cond.selects "MovingMarketModel" ⟨"MovingMarketModel", "ever", "(II)I"⟩ ⟨"MovingMarketModel", "ever", "(II)I"⟩ ∈ AW := aw_5 68 rfl rfl
theorem wd_5_69 : Cond.code ⟨"MovingMarketModel", "ever", "(II)I"⟩ prog_7_method_62_code (6 : Nat) (some FieldType.int) ∈ AW := aw_5 69 rfl rfl
theorem wd_5_70 : Cond.methodLink "MovingMarketLaw" (121 : Nat) ⟨"MovingMarketModel", "meet", "(II)I"⟩ ∈ AW := aw_5 70 rfl rfl
theorem wd_5_71 : Cond.instanceMethod ⟨"MovingMarketModel", "meet", "(II)I"⟩ ∈ AW := aw_5 71 rfl rfl
theorem wd_5_72 : Cond.selects "MovingMarketModel" ⟨"MovingMarketModel", "meet", "(II)I"⟩ ⟨"MovingMarketModel", "meet", "(II)I"⟩ ∈ AW := aw_5 72 rfl rfl
theorem wd_5_73 : Cond.code ⟨"MovingMarketModel", "meet", "(II)I"⟩ prog_7_method_64_code (5 : Nat) (some FieldType.int) ∈ AW := aw_5 73 rfl rfl
theorem wd_5_74 : Cond.methodLink "MovingMarketModel" (181 : Nat) ⟨"MovingMarketModel", "isTwo", "(II)Z"⟩ ∈ AW := aw_5 74 rfl rfl
theorem wd_5_76 : Cond.instanceMethod ⟨"MovingMarketModel", "isTwo", "(II)Z"⟩ ∈ AW := aw_5 76 rfl rfl
theorem wd_5_77 : Cond.code ⟨"MovingMarketModel", "isTwo", "(II)Z"⟩ prog_7_method_63_code (3 : Nat) (some FieldType.boolean) ∈ AW := aw_5 77 rfl rfl
theorem wd_5_78 : Cond.methodLink "MovingMarketLaw" (125 : Nat) ⟨"MovingMarketModel", "never", "(III)I"⟩ ∈ AW := aw_5 78 rfl rfl
theorem wd_5_79 : Cond.instanceMethod ⟨"MovingMarketModel", "never", "(III)I"⟩ ∈ AW := aw_5 79 rfl rfl
theorem wd_5_80 : Cond.selects "MovingMarketModel" ⟨"MovingMarketModel", "never", "(III)I"⟩ ⟨"MovingMarketModel", "never", "(III)I"⟩ ∈ AW := aw_5 80 rfl rfl
theorem wd_5_81 : Cond.code ⟨"MovingMarketModel", "never", "(III)I"⟩ prog_7_method_65_code (10 : Nat) (some FieldType.int) ∈ AW := aw_5 81 rfl rfl
theorem wd_5_82 : Cond.methodLink "MovingMarketLaw" (129 : Nat) ⟨"MovingMarketModel", "worth", "(III)I"⟩ ∈ AW := aw_5 82 rfl rfl
theorem wd_5_83 : Cond.instanceMethod ⟨"MovingMarketModel", "worth", "(III)I"⟩ ∈ AW := aw_5 83 rfl rfl
theorem wd_5_84 : Cond.selects "MovingMarketModel" ⟨"MovingMarketModel", "worth", "(III)I"⟩ ⟨"MovingMarketModel", "worth", "(III)I"⟩ ∈ AW := aw_5 84 rfl rfl
theorem wd_5_85 : Cond.code ⟨"MovingMarketModel", "worth", "(III)I"⟩ prog_7_method_67_code (4 : Nat) (some FieldType.int) ∈ AW := aw_5 85 rfl rfl
theorem wd_5_86 : Cond.methodLink "MovingMarketModel" (184 : Nat) ⟨"MovingMarketModel", "worthOf", "(III)I"⟩ ∈ AW := aw_5 86 rfl rfl
theorem wd_5_88 : Cond.instanceMethod ⟨"MovingMarketModel", "worthOf", "(III)I"⟩ ∈ AW := aw_5 88 rfl rfl
theorem wd_5_89 : Cond.code ⟨"MovingMarketModel", "worthOf", "(III)I"⟩ prog_7_method_66_code (6 : Nat) (some FieldType.int) ∈ AW := aw_5 89 rfl rfl
theorem wd_5_90 : Cond.methodLink "MovingMarketLaw" (133 : Nat) ⟨"MovingMarketModel", "best", "(II)I"⟩ ∈ AW := aw_5 90 rfl rfl
theorem wd_5_91 : Cond.instanceMethod ⟨"MovingMarketModel", "best", "(II)I"⟩ ∈ AW := aw_5 91 rfl rfl
theorem wd_5_92 : Cond.selects "MovingMarketModel" ⟨"MovingMarketModel", "best", "(II)I"⟩ ⟨"MovingMarketModel", "best", "(II)I"⟩ ∈ AW := aw_5 92 rfl rfl
theorem wd_5_93 : Cond.code ⟨"MovingMarketModel", "best", "(II)I"⟩ prog_7_method_68_code (7 : Nat) (some FieldType.int) ∈ AW := aw_5 93 rfl rfl
theorem wd_5_94 : Cond.methodLink "MovingMarketLaw" (137 : Nat) ⟨"MovingMarketModel", "thief", "(II)I"⟩ ∈ AW := aw_5 94 rfl rfl
theorem wd_5_95 : Cond.instanceMethod ⟨"MovingMarketModel", "thief", "(II)I"⟩ ∈ AW := aw_5 95 rfl rfl
theorem wd_5_96 : Cond.selects "MovingMarketModel" ⟨"MovingMarketModel", "thief", "(II)I"⟩ ⟨"MovingMarketModel", "thief", "(II)I"⟩ ∈ AW := aw_5 96 rfl rfl
theorem wd_5_97 : Cond.code ⟨"MovingMarketModel", "thief", "(II)I"⟩ prog_7_method_69_code (6 : Nat) (some FieldType.int) ∈ AW := aw_5 97 rfl rfl
theorem wd_5_98 : Cond.methodLink "MovingMarketLaw" (141 : Nat) ⟨"MovingMarketModel", "lots", "(I)I"⟩ ∈ AW := aw_5 98 rfl rfl
theorem wd_5_99 : Cond.instanceMethod ⟨"MovingMarketModel", "lots", "(I)I"⟩ ∈ AW := aw_5 99 rfl rfl
theorem wd_5_100 : Cond.selects "MovingMarketModel" ⟨"MovingMarketModel", "lots", "(I)I"⟩ ⟨"MovingMarketModel", "lots", "(I)I"⟩ ∈ AW := aw_5 100 rfl rfl
theorem wd_5_101 : Cond.code ⟨"MovingMarketModel", "lots", "(I)I"⟩ prog_7_method_70_code (4 : Nat) (some FieldType.int) ∈ AW := aw_5 101 rfl rfl
theorem wd_5_102 : Cond.constantLong "MovingMarketModel" (187 : Nat) (12 : Int64) ∈ AW := aw_5 102 rfl rfl
theorem wd_5_103 : Cond.methodLink "MovingMarketModel" (189 : Nat) ⟨"MovingMarketModel", "draw", "()I"⟩ ∈ AW := aw_5 103 rfl rfl
theorem wd_5_105 : Cond.instanceMethod ⟨"MovingMarketModel", "draw", "()I"⟩ ∈ AW := aw_5 105 rfl rfl
theorem wd_5_106 : Cond.code ⟨"MovingMarketModel", "draw", "()I"⟩ prog_7_method_7_code (1 : Nat) (some FieldType.int) ∈ AW := aw_5 106 rfl rfl
theorem wd_5_107 : Cond.constant "MovingMarketModel" (47 : Nat) (1103515245 : Int32) ∈ AW := aw_5 107 rfl rfl
theorem wd_5_108 : Cond.methodLink "MovingMarketLaw" (145 : Nat) ⟨"MovingMarketModel", "seed", "(I)I"⟩ ∈ AW := aw_5 108 rfl rfl
theorem wd_5_109 : Cond.instanceMethod ⟨"MovingMarketModel", "seed", "(I)I"⟩ ∈ AW := aw_5 109 rfl rfl
theorem wd_5_110 : Cond.selects "MovingMarketModel" ⟨"MovingMarketModel", "seed", "(I)I"⟩ ⟨"MovingMarketModel", "seed", "(I)I"⟩ ∈ AW := aw_5 110 rfl rfl
theorem wd_5_111 : Cond.code ⟨"MovingMarketModel", "seed", "(I)I"⟩ prog_7_method_71_code (3 : Nat) (some FieldType.int) ∈ AW := aw_5 111 rfl rfl
theorem wd_5_112 : Cond.methodLink "MovingMarketLaw" (149 : Nat) ⟨"MovingMarketModel", "feed", "(II)I"⟩ ∈ AW := aw_5 112 rfl rfl
theorem wd_5_113 : Cond.instanceMethod ⟨"MovingMarketModel", "feed", "(II)I"⟩ ∈ AW := aw_5 113 rfl rfl
theorem wd_5_114 : Cond.selects "MovingMarketModel" ⟨"MovingMarketModel", "feed", "(II)I"⟩ ⟨"MovingMarketModel", "feed", "(II)I"⟩ ∈ AW := aw_5 114 rfl rfl
theorem wd_5_115 : Cond.code ⟨"MovingMarketModel", "feed", "(II)I"⟩ prog_7_method_72_code (4 : Nat) (some FieldType.int) ∈ AW := aw_5 115 rfl rfl
theorem wd_5_116 : Cond.constantLong "MovingMarketModel" (192 : Nat) (4 : Int64) ∈ AW := aw_5 116 rfl rfl
theorem wd_5_117 : Cond.methodLink "MovingMarketLaw" (153 : Nat) ⟨"MovingMarketModel", "wipe", "()I"⟩ ∈ AW := aw_5 117 rfl rfl
theorem wd_5_118 : Cond.instanceMethod ⟨"MovingMarketModel", "wipe", "()I"⟩ ∈ AW := aw_5 118 rfl rfl
theorem wd_5_119 : Cond.selects "MovingMarketModel" ⟨"MovingMarketModel", "wipe", "()I"⟩ ⟨"MovingMarketModel", "wipe", "()I"⟩ ∈ AW := aw_5 119 rfl rfl
theorem wd_5_120 : Cond.code ⟨"MovingMarketModel", "wipe", "()I"⟩ prog_7_method_73_code (2 : Nat) (some FieldType.int) ∈ AW := aw_5 120 rfl rfl
theorem wd_5_121 : Cond.methodLink "MovingMarketLaw" (157 : Nat) ⟨"MovingMarketModel", "text", "()I"⟩ ∈ AW := aw_5 121 rfl rfl
theorem wd_5_122 : Cond.instanceMethod ⟨"MovingMarketModel", "text", "()I"⟩ ∈ AW := aw_5 122 rfl rfl
theorem wd_5_123 : Cond.selects "MovingMarketModel" ⟨"MovingMarketModel", "text", "()I"⟩ ⟨"MovingMarketModel", "text", "()I"⟩ ∈ AW := aw_5 123 rfl rfl
theorem wd_5_124 : Cond.code ⟨"MovingMarketModel", "text", "()I"⟩ prog_7_method_87_code (2 : Nat) (some FieldType.int) ∈ AW := aw_5 124 rfl rfl
theorem wd_5_125 : Cond.methodLink "MovingMarketModel" (222 : Nat) ⟨"MovingMarketModel", "token", "()V"⟩ ∈ AW := aw_5 125 rfl rfl
theorem wd_5_127 : Cond.instanceMethod ⟨"MovingMarketModel", "token", "()V"⟩ ∈ AW := aw_5 127 rfl rfl
theorem wd_5_128 : Cond.code ⟨"MovingMarketModel", "token", "()V"⟩ prog_7_method_77_code (3 : Nat) (none : Option FieldType) ∈ AW := aw_5 128 rfl rfl
theorem wd_5_129 : Cond.methodLink "MovingMarketModel" (209 : Nat) ⟨"MovingMarketModel", "byteAt", "(I)I"⟩ ∈ AW := aw_5 129 rfl rfl
theorem wd_5_131 : Cond.instanceMethod ⟨"MovingMarketModel", "byteAt", "(I)I"⟩ ∈ AW := aw_5 131 rfl rfl
theorem wd_5_132 : Cond.code ⟨"MovingMarketModel", "byteAt", "(I)I"⟩ prog_7_method_74_code (2 : Nat) (some FieldType.int) ∈ AW := aw_5 132 rfl rfl
theorem wd_5_133 : Cond.methodLink "MovingMarketModel" (212 : Nat) ⟨"MovingMarketModel", "isLetter", "(I)Z"⟩ ∈ AW := aw_5 133 rfl rfl
theorem wd_5_134 : Cond.static ⟨"MovingMarketModel", "isLetter", "(I)Z"⟩ ∈ AW := aw_5 134 rfl rfl
theorem wd_5_135 : Cond.code ⟨"MovingMarketModel", "isLetter", "(I)Z"⟩ prog_7_method_75_code (1 : Nat) (some FieldType.boolean) ∈ AW := aw_5 135 rfl rfl
theorem wd_5_136 : Cond.constantLong "MovingMarketModel" (197 : Nat) (97 : Int64) ∈ AW := aw_5 136 rfl rfl
theorem wd_5_137 : Cond.constantLong "MovingMarketModel" (199 : Nat) (122 : Int64) ∈ AW := aw_5 137 rfl rfl
theorem wd_5_138 : Cond.methodLink "MovingMarketModel" (215 : Nat) ⟨"MovingMarketModel", "isDigit", "(I)Z"⟩ ∈ AW := aw_5 138 rfl rfl
theorem wd_5_139 : Cond.static ⟨"MovingMarketModel", "isDigit", "(I)Z"⟩ ∈ AW := aw_5 139 rfl rfl
theorem wd_5_140 : Cond.code ⟨"MovingMarketModel", "isDigit", "(I)Z"⟩ prog_7_method_76_code (1 : Nat) (some FieldType.boolean) ∈ AW := aw_5 140 rfl rfl
theorem wd_5_141 : Cond.constantLong "MovingMarketModel" (201 : Nat) (57 : Int64) ∈ AW := aw_5 141 rfl rfl
theorem wd_5_142 : Cond.methodLink "MovingMarketModel" (289 : Nat) ⟨"MovingMarketModel", "item", "()V"⟩ ∈ AW := aw_5 142 rfl rfl
theorem wd_5_144 : Cond.instanceMethod ⟨"MovingMarketModel", "item", "()V"⟩ ∈ AW := aw_5 144 rfl rfl
theorem wd_5_145 : Cond.code ⟨"MovingMarketModel", "item", "()V"⟩ prog_7_method_86_code (4 : Nat) (none : Option FieldType) ∈ AW := aw_5 145 rfl rfl
theorem wd_5_146 : Cond.methodLink "MovingMarketModel" (271 : Nat) ⟨"MovingMarketModel", "kindHere", "()I"⟩ ∈ AW := aw_5 146 rfl rfl
theorem wd_5_148 : Cond.instanceMethod ⟨"MovingMarketModel", "kindHere", "()I"⟩ ∈ AW := aw_5 148 rfl rfl
theorem wd_5_149 : Cond.code ⟨"MovingMarketModel", "kindHere", "()I"⟩ prog_7_method_81_code (3 : Nat) (some FieldType.int) ∈ AW := aw_5 149 rfl rfl
theorem wd_5_150 : Cond.methodLink "MovingMarketModel" (236 : Nat) ⟨"MovingMarketModel", "word", "()J"⟩ ∈ AW := aw_5 150 rfl rfl
theorem wd_5_152 : Cond.instanceMethod ⟨"MovingMarketModel", "word", "()J"⟩ ∈ AW := aw_5 152 rfl rfl
theorem wd_5_153 : Cond.code ⟨"MovingMarketModel", "word", "()J"⟩ prog_7_method_79_code (4 : Nat) (some FieldType.long) ∈ AW := aw_5 153 rfl rfl
theorem wd_5_154 : Cond.constantLong "MovingMarketModel" (225 : Nat) (36028797018963967 : Int64) ∈ AW := aw_5 154 rfl rfl
theorem wd_5_155 : Cond.constantLong "MovingMarketModel" (227 : Nat) (32 : Int64) ∈ AW := aw_5 155 rfl rfl
theorem wd_5_156 : Cond.constantLong "MovingMarketModel" (240 : Nat) (20579724 : Int64) ∈ AW := aw_5 156 rfl rfl
theorem wd_5_157 : Cond.constantLong "MovingMarketModel" (242 : Nat) (150636933 : Int64) ∈ AW := aw_5 157 rfl rfl
theorem wd_5_158 : Cond.constantLong "MovingMarketModel" (244 : Nat) (299397 : Int64) ∈ AW := aw_5 158 rfl rfl
theorem wd_5_159 : Cond.constantLong "MovingMarketModel" (246 : Nat) (645959844 : Int64) ∈ AW := aw_5 159 rfl rfl
theorem wd_5_160 : Cond.constantLong "MovingMarketModel" (248 : Nat) (395097 : Int64) ∈ AW := aw_5 160 rfl rfl
theorem wd_5_161 : Cond.constantLong "MovingMarketModel" (250 : Nat) (2500036 : Int64) ∈ AW := aw_5 161 rfl rfl
theorem wd_5_162 : Cond.constantLong "MovingMarketModel" (252 : Nat) (109221477 : Int64) ∈ AW := aw_5 162 rfl rfl
theorem wd_5_163 : Cond.constantLong "MovingMarketModel" (274 : Nat) (20186245 : Int64) ∈ AW := aw_5 163 rfl rfl
theorem wd_5_164 : Cond.methodLink "MovingMarketModel" (276 : Nat) ⟨"MovingMarketModel", "stallItem", "(I)V"⟩ ∈ AW := aw_5 164 rfl rfl
theorem wd_5_166 : Cond.instanceMethod ⟨"MovingMarketModel", "stallItem", "(I)V"⟩ ∈ AW := aw_5 166 rfl rfl
theorem wd_5_167 : Cond.code ⟨"MovingMarketModel", "stallItem", "(I)V"⟩ prog_7_method_84_code (5 : Nat) (none : Option FieldType) ∈ AW := aw_5 167 rfl rfl
theorem wd_5_168 : Cond.methodLink "MovingMarketModel" (232 : Nat) ⟨"MovingMarketModel", "needs", "(Z)V"⟩ ∈ AW := aw_5 168 rfl rfl
theorem wd_5_170 : Cond.instanceMethod ⟨"MovingMarketModel", "needs", "(Z)V"⟩ ∈ AW := aw_5 170 rfl rfl
theorem wd_5_171 : Cond.code ⟨"MovingMarketModel", "needs", "(Z)V"⟩ prog_7_method_78_code (2 : Nat) (none : Option FieldType) ∈ AW := aw_5 171 rfl rfl
theorem wd_5_172 : Cond.constantLong "MovingMarketModel" (256 : Nat) (52 : Int64) ∈ AW := aw_5 172 rfl rfl
theorem wd_5_173 : Cond.methodLink "MovingMarketModel" (258 : Nat) ⟨"MovingMarketModel", "freePlace", "()V"⟩ ∈ AW := aw_5 173 rfl rfl
theorem wd_5_175 : Cond.instanceMethod ⟨"MovingMarketModel", "freePlace", "()V"⟩ ∈ AW := aw_5 175 rfl rfl
theorem wd_5_176 : Cond.code ⟨"MovingMarketModel", "freePlace", "()V"⟩ prog_7_method_83_code (3 : Nat) (none : Option FieldType) ∈ AW := aw_5 176 rfl rfl
theorem wd_5_177 : Cond.constantLong "MovingMarketModel" (261 : Nat) (7847059 : Int64) ∈ AW := aw_5 177 rfl rfl
theorem wd_5_178 : Cond.methodLink "MovingMarketModel" (263 : Nat) ⟨"MovingMarketModel", "perhaps", "(ZIII)I"⟩ ∈ AW := aw_5 178 rfl rfl
theorem wd_5_180 : Cond.instanceMethod ⟨"MovingMarketModel", "perhaps", "(ZIII)I"⟩ ∈ AW := aw_5 180 rfl rfl
theorem wd_5_181 : Cond.code ⟨"MovingMarketModel", "perhaps", "(ZIII)I"⟩ prog_7_method_82_code (5 : Nat) (some FieldType.int) ∈ AW := aw_5 181 rfl rfl
theorem wd_5_182 : Cond.methodLink "MovingMarketModel" (254 : Nat) ⟨"MovingMarketModel", "number", "(II)V"⟩ ∈ AW := aw_5 182 rfl rfl
theorem wd_5_184 : Cond.instanceMethod ⟨"MovingMarketModel", "number", "(II)V"⟩ ∈ AW := aw_5 184 rfl rfl
theorem wd_5_185 : Cond.code ⟨"MovingMarketModel", "number", "(II)V"⟩ prog_7_method_80_code (6 : Nat) (none : Option FieldType) ∈ AW := aw_5 185 rfl rfl
theorem wd_5_186 : Cond.constantLong "MovingMarketModel" (280 : Nat) (748267155 : Int64) ∈ AW := aw_5 186 rfl rfl
theorem wd_5_187 : Cond.methodLink "MovingMarketModel" (282 : Nat) ⟨"MovingMarketModel", "visitsItem", "()V"⟩ ∈ AW := aw_5 187 rfl rfl
theorem wd_5_189 : Cond.instanceMethod ⟨"MovingMarketModel", "visitsItem", "()V"⟩ ∈ AW := aw_5 189 rfl rfl
theorem wd_5_190 : Cond.code ⟨"MovingMarketModel", "visitsItem", "()V"⟩ prog_7_method_85_code (4 : Nat) (none : Option FieldType) ∈ AW := aw_5 190 rfl rfl
theorem wd_5_191 : Cond.constantLong "MovingMarketModel" (267 : Nat) (655 : Int64) ∈ AW := aw_5 191 rfl rfl
theorem wd_5_192 : Cond.constantLong "MovingMarketModel" (269 : Nat) (1605 : Int64) ∈ AW := aw_5 192 rfl rfl
theorem wd_5_193 : Cond.constantLong "MovingMarketModel" (285 : Nat) (20142 : Int64) ∈ AW := aw_5 193 rfl rfl
theorem wd_5_194 : Cond.constantLong "MovingMarketModel" (287 : Nat) (654910919 : Int64) ∈ AW := aw_5 194 rfl rfl
theorem wd_5_195 : Cond.methodLink "MovingMarketLaw" (161 : Nat) ⟨"MovingMarketModel", "hold", "(II)I"⟩ ∈ AW := aw_5 195 rfl rfl
theorem wd_5_196 : Cond.instanceMethod ⟨"MovingMarketModel", "hold", "(II)I"⟩ ∈ AW := aw_5 196 rfl rfl
theorem wd_5_197 : Cond.selects "MovingMarketModel" ⟨"MovingMarketModel", "hold", "(II)I"⟩ ⟨"MovingMarketModel", "hold", "(II)I"⟩ ∈ AW := aw_5 197 rfl rfl
theorem wd_5_198 : Cond.code ⟨"MovingMarketModel", "hold", "(II)I"⟩ prog_7_method_88_code (3 : Nat) (some FieldType.int) ∈ AW := aw_5 198 rfl rfl
theorem wd_5_199 : Cond.constantLong "MovingMarketModel" (292 : Nat) (9 : Int64) ∈ AW := aw_5 199 rfl rfl
theorem wd_5_200 : Cond.methodLink "MovingMarketLaw" (165 : Nat) ⟨"MovingMarketModel", "as", "(II)I"⟩ ∈ AW := aw_5 200 rfl rfl
theorem wd_5_201 : Cond.instanceMethod ⟨"MovingMarketModel", "as", "(II)I"⟩ ∈ AW := aw_5 201 rfl rfl
theorem wd_5_202 : Cond.selects "MovingMarketModel" ⟨"MovingMarketModel", "as", "(II)I"⟩ ⟨"MovingMarketModel", "as", "(II)I"⟩ ∈ AW := aw_5 202 rfl rfl
theorem wd_5_203 : Cond.code ⟨"MovingMarketModel", "as", "(II)I"⟩ prog_7_method_89_code (6 : Nat) (some FieldType.int) ∈ AW := aw_5 203 rfl rfl
theorem wd_5_204 : Cond.constant "MovingMarketModel" (294 : Nat) (-1000006 : Int32) ∈ AW := aw_5 204 rfl rfl
theorem wd_5_205 : Cond.constant "MovingMarketModel" (295 : Nat) (-1000003 : Int32) ∈ AW := aw_5 205 rfl rfl
theorem wd_5_206 : Cond.methodLink "MovingMarketLaw" (169 : Nat) ⟨"MovingMarketModel", "sheet", "(III)I"⟩ ∈ AW := aw_5 206 rfl rfl
theorem wd_5_207 : Cond.instanceMethod ⟨"MovingMarketModel", "sheet", "(III)I"⟩ ∈ AW := aw_5 207 rfl rfl
theorem wd_5_208 : Cond.selects "MovingMarketModel" ⟨"MovingMarketModel", "sheet", "(III)I"⟩ ⟨"MovingMarketModel", "sheet", "(III)I"⟩ ∈ AW := aw_5 208 rfl rfl
theorem wd_5_209 : Cond.code ⟨"MovingMarketModel", "sheet", "(III)I"⟩ prog_7_method_91_code (5 : Nat) (some FieldType.int) ∈ AW := aw_5 209 rfl rfl
theorem wd_5_210 : Cond.methodLink "MovingMarketModel" (298 : Nat) ⟨"MovingMarketModel", "isOne", "(I)Z"⟩ ∈ AW := aw_5 210 rfl rfl
theorem wd_5_211 : Cond.static ⟨"MovingMarketModel", "isOne", "(I)Z"⟩ ∈ AW := aw_5 211 rfl rfl
theorem wd_5_212 : Cond.code ⟨"MovingMarketModel", "isOne", "(I)Z"⟩ prog_7_method_90_code (1 : Nat) (some FieldType.boolean) ∈ AW := aw_5 212 rfl rfl
theorem wd_5_213 : Cond.constantLong "MovingMarketModel" (296 : Nat) (3 : Int64) ∈ AW := aw_5 213 rfl rfl
theorem wd_5_214 : Cond.methodLink "MovingMarketLaw" (173 : Nat) ⟨"MovingMarketModel", "write", "(III)I"⟩ ∈ AW := aw_5 214 rfl rfl
theorem wd_5_215 : Cond.instanceMethod ⟨"MovingMarketModel", "write", "(III)I"⟩ ∈ AW := aw_5 215 rfl rfl
theorem wd_5_216 : Cond.selects "MovingMarketModel" ⟨"MovingMarketModel", "write", "(III)I"⟩ ⟨"MovingMarketModel", "write", "(III)I"⟩ ∈ AW := aw_5 216 rfl rfl
theorem wd_5_217 : Cond.code ⟨"MovingMarketModel", "write", "(III)I"⟩ prog_7_method_94_code (5 : Nat) (some FieldType.int) ∈ AW := aw_5 217 rfl rfl
theorem wd_5_218 : Cond.methodLink "MovingMarketModel" (301 : Nat) ⟨"MovingMarketModel", "wrong", "(I)I"⟩ ∈ AW := aw_5 218 rfl rfl
theorem wd_5_220 : Cond.instanceMethod ⟨"MovingMarketModel", "wrong", "(I)I"⟩ ∈ AW := aw_5 220 rfl rfl
theorem wd_5_221 : Cond.code ⟨"MovingMarketModel", "wrong", "(I)I"⟩ prog_7_method_93_code (2 : Nat) (some FieldType.int) ∈ AW := aw_5 221 rfl rfl
theorem wd_5_222 : Cond.methodLink "MovingMarketModel" (304 : Nat) ⟨"MovingMarketModel", "narrowed", "(II)I"⟩ ∈ AW := aw_5 222 rfl rfl
theorem wd_5_223 : Cond.static ⟨"MovingMarketModel", "narrowed", "(II)I"⟩ ∈ AW := aw_5 223 rfl rfl
theorem wd_5_224 : Cond.code ⟨"MovingMarketModel", "narrowed", "(II)I"⟩ prog_7_method_92_code (2 : Nat) (some FieldType.int) ∈ AW := aw_5 224 rfl rfl
theorem wd_5_225 : Cond.methodLink "MovingMarketLaw" (178 : Nat) ⟨"MovingMarketModel", "copy", "(IIIII)I"⟩ ∈ AW := aw_5 225 rfl rfl
theorem wd_5_226 : Cond.instanceMethod ⟨"MovingMarketModel", "copy", "(IIIII)I"⟩ ∈ AW := aw_5 226 rfl rfl
theorem wd_5_227 : Cond.selects "MovingMarketModel" ⟨"MovingMarketModel", "copy", "(IIIII)I"⟩ ⟨"MovingMarketModel", "copy", "(IIIII)I"⟩ ∈ AW := aw_5 227 rfl rfl
theorem wd_5_228 : Cond.code ⟨"MovingMarketModel", "copy", "(IIIII)I"⟩ prog_7_method_95_code (7 : Nat) (some FieldType.int) ∈ AW := aw_5 228 rfl rfl
theorem wd_5_229 : Cond.methodLink "MovingMarketLaw" (182 : Nat) ⟨"MovingMarketModel", "load", "(I)I"⟩ ∈ AW := aw_5 229 rfl rfl
theorem wd_5_230 : Cond.instanceMethod ⟨"MovingMarketModel", "load", "(I)I"⟩ ∈ AW := aw_5 230 rfl rfl
theorem wd_5_231 : Cond.selects "MovingMarketModel" ⟨"MovingMarketModel", "load", "(I)I"⟩ ⟨"MovingMarketModel", "load", "(I)I"⟩ ∈ AW := aw_5 231 rfl rfl
theorem wd_5_232 : Cond.code ⟨"MovingMarketModel", "load", "(I)I"⟩ prog_7_method_96_code (4 : Nat) (some FieldType.int) ∈ AW := aw_5 232 rfl rfl
theorem wd_5_233 : Cond.methodLink "MovingMarketLaw" (186 : Nat) ⟨"MovingMarketModel", "fit", "(I)I"⟩ ∈ AW := aw_5 233 rfl rfl
theorem wd_5_234 : Cond.instanceMethod ⟨"MovingMarketModel", "fit", "(I)I"⟩ ∈ AW := aw_5 234 rfl rfl
theorem wd_5_235 : Cond.selects "MovingMarketModel" ⟨"MovingMarketModel", "fit", "(I)I"⟩ ⟨"MovingMarketModel", "fit", "(I)I"⟩ ∈ AW := aw_5 235 rfl rfl
theorem wd_5_236 : Cond.code ⟨"MovingMarketModel", "fit", "(I)I"⟩ prog_7_method_98_code (8 : Nat) (some FieldType.int) ∈ AW := aw_5 236 rfl rfl
theorem wd_5_237 : Cond.methodLink "MovingMarketModel" (307 : Nat) ⟨"MovingMarketModel", "isSo", "(II)Z"⟩ ∈ AW := aw_5 237 rfl rfl
theorem wd_5_239 : Cond.instanceMethod ⟨"MovingMarketModel", "isSo", "(II)Z"⟩ ∈ AW := aw_5 239 rfl rfl
theorem wd_6_0 : Cond.code ⟨"MovingMarketModel", "isSo", "(II)Z"⟩ prog_7_method_97_code (5 : Nat) (some FieldType.boolean) ∈ AW := aw_6 0 rfl rfl
theorem wd_6_1 : Cond.methodLink "MovingMarketLaw" (190 : Nat) ⟨"MovingMarketModel", "judge", "(II)I"⟩ ∈ AW := aw_6 1 rfl rfl
theorem wd_6_2 : Cond.instanceMethod ⟨"MovingMarketModel", "judge", "(II)I"⟩ ∈ AW := aw_6 2 rfl rfl
theorem wd_6_3 : Cond.selects "MovingMarketModel" ⟨"MovingMarketModel", "judge", "(II)I"⟩ ⟨"MovingMarketModel", "judge", "(II)I"⟩ ∈ AW := aw_6 3 rfl rfl
theorem wd_6_4 : Cond.code ⟨"MovingMarketModel", "judge", "(II)I"⟩ prog_7_method_99_code (6 : Nat) (some FieldType.int) ∈ AW := aw_6 4 rfl rfl
theorem wd_6_5 : Cond.methodLink "MovingMarketLaw" (194 : Nat) ⟨"MovingMarketModel", "image", "()I"⟩ ∈ AW := aw_6 5 rfl rfl
theorem wd_6_6 : Cond.instanceMethod ⟨"MovingMarketModel", "image", "()I"⟩ ∈ AW := aw_6 6 rfl rfl
theorem wd_6_7 : Cond.selects "MovingMarketModel" ⟨"MovingMarketModel", "image", "()I"⟩ ⟨"MovingMarketModel", "image", "()I"⟩ ∈ AW := aw_6 7 rfl rfl
theorem wd_6_8 : Cond.code ⟨"MovingMarketModel", "image", "()I"⟩ prog_7_method_100_code (2 : Nat) (some FieldType.int) ∈ AW := aw_6 8 rfl rfl
theorem wd_6_9 : Cond.methodLink "MovingMarketLaw" (198 : Nat) ⟨"MovingMarketModel", "undo", "()I"⟩ ∈ AW := aw_6 9 rfl rfl
theorem wd_6_10 : Cond.instanceMethod ⟨"MovingMarketModel", "undo", "()I"⟩ ∈ AW := aw_6 10 rfl rfl
theorem wd_6_11 : Cond.selects "MovingMarketModel" ⟨"MovingMarketModel", "undo", "()I"⟩ ⟨"MovingMarketModel", "undo", "()I"⟩ ∈ AW := aw_6 11 rfl rfl
theorem wd_6_12 : Cond.code ⟨"MovingMarketModel", "undo", "()I"⟩ prog_7_method_101_code (2 : Nat) (some FieldType.int) ∈ AW := aw_6 12 rfl rfl
theorem wd_6_13 : Cond.methodLink "MovingMarketLaw" (202 : Nat) ⟨"MovingMarketModel", "tear", "()I"⟩ ∈ AW := aw_6 13 rfl rfl
theorem wd_6_14 : Cond.instanceMethod ⟨"MovingMarketModel", "tear", "()I"⟩ ∈ AW := aw_6 14 rfl rfl
theorem wd_6_15 : Cond.selects "MovingMarketModel" ⟨"MovingMarketModel", "tear", "()I"⟩ ⟨"MovingMarketModel", "tear", "()I"⟩ ∈ AW := aw_6 15 rfl rfl
theorem wd_6_16 : Cond.code ⟨"MovingMarketModel", "tear", "()I"⟩ prog_7_method_102_code (2 : Nat) (some FieldType.int) ∈ AW := aw_6 16 rfl rfl
theorem wd_6_17 : Cond.methodLink "MovingMarketLaw" (206 : Nat) ⟨"MovingMarketModel", "count", "(I)I"⟩ ∈ AW := aw_6 17 rfl rfl
theorem wd_6_18 : Cond.instanceMethod ⟨"MovingMarketModel", "count", "(I)I"⟩ ∈ AW := aw_6 18 rfl rfl
theorem wd_6_19 : Cond.selects "MovingMarketModel" ⟨"MovingMarketModel", "count", "(I)I"⟩ ⟨"MovingMarketModel", "count", "(I)I"⟩ ∈ AW := aw_6 19 rfl rfl
theorem wd_6_20 : Cond.code ⟨"MovingMarketModel", "count", "(I)I"⟩ prog_7_method_105_code (2 : Nat) (some FieldType.int) ∈ AW := aw_6 20 rfl rfl
theorem wd_6_21 : Cond.methodLink "MovingMarketModel" (313 : Nat) ⟨"MovingMarketModel", "visitsOfAll", "()I"⟩ ∈ AW := aw_6 21 rfl rfl
theorem wd_6_23 : Cond.instanceMethod ⟨"MovingMarketModel", "visitsOfAll", "()I"⟩ ∈ AW := aw_6 23 rfl rfl
theorem wd_6_24 : Cond.code ⟨"MovingMarketModel", "visitsOfAll", "()I"⟩ prog_7_method_103_code (3 : Nat) (some FieldType.int) ∈ AW := aw_6 24 rfl rfl
theorem wd_6_25 : Cond.methodLink "MovingMarketModel" (316 : Nat) ⟨"MovingMarketModel", "held", "()I"⟩ ∈ AW := aw_6 25 rfl rfl
theorem wd_6_27 : Cond.instanceMethod ⟨"MovingMarketModel", "held", "()I"⟩ ∈ AW := aw_6 27 rfl rfl
theorem wd_6_28 : Cond.code ⟨"MovingMarketModel", "held", "()I"⟩ prog_7_method_104_code (3 : Nat) (some FieldType.int) ∈ AW := aw_6 28 rfl rfl
theorem wd_6_29 : Cond.methodLink "MovingMarketLaw" (210 : Nat) ⟨"MovingMarketModel", "status", "(I)I"⟩ ∈ AW := aw_6 29 rfl rfl
theorem wd_6_30 : Cond.instanceMethod ⟨"MovingMarketModel", "status", "(I)I"⟩ ∈ AW := aw_6 30 rfl rfl
theorem wd_6_31 : Cond.selects "MovingMarketModel" ⟨"MovingMarketModel", "status", "(I)I"⟩ ⟨"MovingMarketModel", "status", "(I)I"⟩ ∈ AW := aw_6 31 rfl rfl
theorem wd_6_32 : Cond.code ⟨"MovingMarketModel", "status", "(I)I"⟩ prog_7_method_106_code (4 : Nat) (some FieldType.int) ∈ AW := aw_6 32 rfl rfl
theorem wd_6_33 : Cond.constantLong "MovingMarketModel" (319 : Nat) (-1 : Int64) ∈ AW := aw_6 33 rfl rfl
theorem wd_6_34 : Cond.fieldLink "java/lang/String" (9 : Nat) "java/lang/String" "value" "[B" ∈ AW := aw_6 34 rfl rfl
theorem wd_6_35 : Cond.fieldLink "java/lang/String" (15 : Nat) "java/lang/String" "coder" "B" ∈ AW := aw_6 35 rfl rfl
theorem awX0 : ∀ w ∈ wsX00, w ∈ AW := by decide +kernel
theorem awX1 : ∀ w ∈ wsX10, w ∈ AW := by decide +kernel
theorem awX2 : ∀ w ∈ wsX20, w ∈ AW := by decide +kernel
theorem awX3 : ∀ w ∈ wsX30, w ∈ AW := by decide +kernel
theorem awX4 : ∀ w ∈ wsX40, w ∈ AW := by decide +kernel
theorem awX5 : ∀ w ∈ wsX50, w ∈ AW := by decide +kernel
end
section
/-! THE ABSTRACT MACHINE: one world of fixed cells (both systems side by side), its ints as one function; step functions; what holds of them holds of the machine -/
/-- the ints of the world: cell, place -/
abbrev Sg : Type := Nat → Nat → Int32
abbrev Lcs : Type := List (Nat × Value)
/-- what a cell is: an object (its class; for each field the cell that it holds, or none: an int), a row of ints, a row of objects -/
abbrev ShE : Type := (Nat × List (Option Nat)) ⊕ (Nat ⊕ List Nat)
abbrev Gt : Type := va_G × ClassId × ClassId × (Nat → Nat) × (Nat → Nat)
def ga (G : Gt) : Nat → Nat := G.2.2.2.1
def gV (G : Gt) : Nat → Nat := G.2.2.2.2
def shSq (o : Nat) : List ShE := [.inl (2, [some (o + 1), some (o + 2), some (o + 3), some (o + 4), some (o + 5), some (o + 6), some (o + 7), some (o + 8), none, none, none, none]), .inr (.inl 12), .inr (.inl 12), .inr (.inl 8), .inr (.inl 8), .inr (.inl 8), .inr (.inl 8), .inr (.inl 8), .inr (.inl 10)]
/-- the cells: 0 MovingMarket; 1, 10, 19 now, trial, kept; 28, 30 tried, winner; 32 tape; 34 sheets, 35 .. 42; 43 plainCoin; 44 told; 45 the reference, 46 .. 55 its rows -/
def shL : List ShE :=
  [.inl (4, [some 1, some 10, some 19, some 28, some 30, some 32, some 34, some 43, some 44, none])] ++ shSq 1 ++ shSq 10 ++ shSq 19 ++
  [.inl (0, [some 29, none]), .inr (.inl 8), .inl (0, [some 31, none]), .inr (.inl 8), .inl (3, [some 33, none, none, none, none, none]), .inr (.inl 120), .inr (.inr [35, 37, 39, 41]),
   .inl (1, [some 36, none, none]), .inr (.inl 40), .inl (1, [some 38, none, none]), .inr (.inl 40), .inl (1, [some 40, none, none]), .inr (.inl 40), .inl (1, [some 42, none, none]), .inr (.inl 40), .inr (.inl 8), .inr (.inl 7),
   .inl (5, [some 46, some 47, some 48, some 49, none, some 50, none, some 51, none, none, none, none, none, some 52, some 53, some 54, some 55]), .inr (.inl 78), .inr (.inl 78), .inr (.inl 78), .inr (.inl 7), .inr (.inl 8), .inr (.inl 120), .inr (.inl 4), .inr (.inl 4), .inr (.inl 160), .inr (.inl 40)]
def fv (ad : Nat → Nat) (σ : Sg) (i k : Nat) : Option Nat → Value
  | some j => .ref (ad j)
  | none => .int (σ i k)
def fvA (σ : Sg) (i k : Nat) : Option Nat → Value
  | some j => .ref j
  | none => .int (σ i k)
def wE (G : Gt) (f : Nat → Int32) : ShE → va_E
  | .inl (ci, fs) => .inr (ci, fs.zipIdx.map (fun p => fv (ga G) (fun _ => f) 0 p.2 p.1))
  | .inr (.inl n) => .inl (G.2.1, n, .inl f)
  | .inr (.inr l) => .inl (G.2.2.1, l.length, .inr (.inr (.inr (.inr (fun k => (l[k]?).map (ga G))))))
def wW (G : Gt) (σ : Sg) : va_W := shL.zipIdx.map (fun p => (ga G p.2, wE G (σ p.2) p.1))
def upr (σ : Sg) (i : Nat) (f : Nat → Int32) : Sg := fun a => if a = i then f else σ a
abbrev up2 (σ : Sg) (i k : Nat) (x : Int32) : Sg := upr σ i (upd (σ i) k x)
theorem wW_at {G : Gt} {σ : Sg} {i : Nat} {e : ShE} (h : shL[i]? = some e) : (wW G σ)[i]? = some (ga G i, wE G (σ i) e) := by
  unfold wW
  rw [List.getElem?_map, List.getElem?_zipIdx, h]
  simp
theorem wW_len (G : Gt) (σ : Sg) : (wW G σ).length = 56 := by
  unfold wW
  rw [List.length_map, List.length_zipIdx]
  rfl
theorem wW_adr {G : Gt} {σ : Sg} {k : Nat} {q : Nat × va_E} (h : (wW G σ)[k]? = some q) : k < 56 ∧ q.1 = ga G k ∧ ∃ e, shL[k]? = some e ∧ q = (ga G k, wE G (σ k) e) := by
  have hk : k < (wW G σ).length := (List.getElem?_eq_some_iff.mp h).1
  rw [wW_len] at hk
  have hs : k < shL.length := hk
  have he : shL[k]? = some shL[k] := List.getElem?_eq_getElem hs
  rw [wW_at he] at h
  cases h
  exact ⟨hk, rfl, _, he, rfl⟩
theorem wW_set {G : Gt} {σ : Sg} {i : Nat} {e : ShE} {f : Nat → Int32} (h : shL[i]? = some e) : (wW G σ).set i (ga G i, wE G f e) = wW G (upr σ i f) := by
  refine List.ext_getElem? (fun k => ?_)
  have hi : i < 56 := (List.getElem?_eq_some_iff.mp h).1
  by_cases hk : k = i
  · subst hk
    rw [List.getElem?_set_self (by rw [wW_len]; exact hi), wW_at h]
    simp [upr]
  · rw [List.getElem?_set_ne (Ne.symm hk)]
    by_cases hl : k < 56
    · have he : shL[k]? = some (shL[k]'hl) := List.getElem?_eq_getElem hl
      rw [wW_at he, wW_at he]
      simp [upr, hk]
    · rw [List.getElem?_eq_none (by rw [wW_len]; omega), List.getElem?_eq_none (by rw [wW_len]; omega)]
def Inj (ad : Nat → Nat) : Prop := ∀ i j, i < 56 → j < 56 → ad i = ad j → i = j
def Aw (ad : Nat → Nat) : Nat → Prop := fun q => ∃ i, i < 56 ∧ q = ad i
theorem wW_D {G : Gt} {σ : Sg} (h : Inj (ga G)) : va_D (Aw (ga G)) (wW G σ) := by
  refine ⟨fun i j p q hi hj e => ?_, fun k q hk => ?_⟩
  · obtain ⟨h1, h2, -⟩ := wW_adr hi
    obtain ⟨h3, h4, -⟩ := wW_adr hj
    exact h i j h1 h3 (by rw [← h2, ← h4]; exact e)
  · obtain ⟨h1, h2, -⟩ := wW_adr hk
    exact ⟨k, h1, h2⟩
/-- the two rows that stand in statics -/
def kA : Nat → Int32 := fun k => ([-1, 0, 0, 1, 2, 0, 5] : List Int32).getD k 0
def pR : Nat → Int32 := fun k => ([2, 2, 1, 3, 1, 2, 5] : List Int32).getD k 0
def gsh : Nat → Option (Nat → Int32)
  | 56 => some kA
  | 57 => some pR
  | _ => none
def gsN : Nat → String
  | 56 => "KIND_ABOVE"
  | _ => "PRICES"
def tyW (G : Gt) : List (ClassId × FieldType) := [(G.2.1, .int), (G.2.2.1, .object "MovingMarket$Sheet")]
def GS (G : Gt) (g : Nat) (A : Nat → Prop) (U : State) (H : Heap) : Prop := va_Z "MovingMarket" (gsN g) "[I" (.ref (ga G g)) A U H ∧ va_X (ga G g) 7 ((gsh g).getD kA) U H ∧ ga G g < H.size ∧ ¬ A (ga G g)
theorem GS.moved {G : Gt} {g : Nat} {A : Nat → Prop} {u U : State} {H : Heap} (hvm : u.vm.Alike U.vm) (h : GS G g A u H) : GS G g A U H := ⟨h.1.moved hvm, h.2.1.moved hvm, h.2.2⟩
theorem GS.kept {G : Gt} {g : Nat} {A : Nat → Prop} {U : State} {H H1 : Heap} (hz : H.size ≤ H1.size) (hq : ∀ a : Nat, a < H.size → ¬ A a → H1[a]? = H[a]?) (h : GS G g A U H) : GS G g A U H1 := ⟨h.1.kept hq, h.2.1.kept (hq _ h.2.2.1 h.2.2.2), Nat.lt_of_lt_of_le h.2.2.1 hz, h.2.2.2⟩
def sIx : List Nat := [127, 129, 131, 133, 135, 137, 139, 83, 97, 57, 102, 104, 66, 71, 73]
def sTx : List String := ["double", "idle", "shaded", "lazy", "blind", "cheese", "stall", "at", "goods", "visits", "to", "are", "shade", "sun", "spring"]
def sLen : List Nat := [6, 4, 6, 4, 5, 6, 5, 2, 5, 6, 2, 3, 5, 3, 6]
def sByt : List (List Int32) := [[100, 111, 117, 98, 108, 101], [105, 100, 108, 101], [115, 104, 97, 100, 101, 100], [108, 97, 122, 121], [98, 108, 105, 110, 100], [99, 104, 101, 101, 115, 101], [115, 116, 97, 108, 108], [97, 116], [103, 111, 111, 100, 115], [118, 105, 115, 105, 116, 115], [116, 111], [97, 114, 101], [115, 104, 97, 100, 101], [115, 117, 110], [115, 112, 114, 105, 110, 103]]
def nwK : Cond := .fieldLinkNest "MovingMarket$Square" 61 "MovingMarket" "KIND_ABOVE" "[I" "MovingMarket"
def nwP : Cond := .fieldLinkNest "MovingMarket$Square" 64 "MovingMarket" "PRICES" "[I" "MovingMarket"
/-- what stands outside the world: the statics' rows, the String constants -/
def GLb (G : Gt) (A : Nat → Prop) (U : State) (H : Heap) : Prop :=
  (GS G 56 A U H ∧ GS G 57 A U H) ∧ vk_S 15 sLen sByt (fun k => ga G (60 + k)) (gV G) A U H ∧ (∀ k, k < 15 → vk_R "MovingMarket$Tape" (sIx.getD k 0) (sTx.getD k "") (ga G (60 + k)) U) ∧ (va_Nw nwK U ∧ va_Nw nwP U) ∧ va_Z "java/lang/String" "COMPACT_STRINGS" "Z" (.int 1) A U H
theorem GLb.kept {G : Gt} {A : Nat → Prop} {U : State} {H H1 : Heap} (hz : H.size ≤ H1.size) (hq : ∀ a : Nat, a < H.size → ¬ A a → H1[a]? = H[a]?) (h : GLb G A U H) : GLb G A U H1 := ⟨⟨h.1.1.kept hz hq, h.1.2.kept hz hq⟩, h.2.1.kept hq, h.2.2.1, h.2.2.2.1, h.2.2.2.2.kept hq⟩
theorem GLb.warm {G : Gt} {A : Nat → Prop} {s U : State} {H : Heap} (hW : s.WarmedH U.vm) (h : GLb G A s H) : GLb G A U H := ⟨⟨h.1.1.moved hW.alike, h.1.2.moved hW.alike⟩, h.2.1.moved hW.alike, fun k hk => (h.2.2.1 k hk).warm hW, ⟨va_Nw.warmF hW h.2.2.2.1.1, va_Nw.warmF hW h.2.2.2.1.2⟩, h.2.2.2.2.moved hW.alike⟩
theorem GLb.same {G : Gt} {A : Nat → Prop} {u U : State} {H : Heap} (hv : U.vm = u.vm) (h : GLb G A u H) : GLb G A U H := by
  have ha : u.vm.Alike U.vm := by rw [hv]; exact Vm.Alike.refl _
  exact ⟨⟨h.1.1.moved ha, h.1.2.moved ha⟩, h.2.1.moved ha, fun k hk => (h.2.2.1 k hk).same hv, ⟨va_Nw.same rfl hv.symm h.2.2.2.1.1, va_Nw.same rfl hv.symm h.2.2.2.1.2⟩, h.2.2.2.2.moved ha⟩
def vM (ad : Nat → Nat) : Value → Value
  | .ref i => .ref (ad i)
  | v => v
theorem vM_cat (ad : Nat → Nat) (v : Value) : (vM ad v).category = v.category := by cases v <;> rfl
abbrev lM (ad : Nat → Nat) (ls : Lcs) : Lcs := ls.map (fun q => (q.1, vM ad q.2))
abbrev sM (ad : Nat → Nat) (st : List Value) : List Value := st.map (vM ad)
abbrev Kt : Type := Nat → Lcs → List Value → Sg → Prop
abbrev Rt : Type := Option Value → Sg → Prop
abbrev Stf : Type := Kt → Rt → Lcs → List Value → Sg → Prop
abbrev wP (G : Gt) (σ : Sg) (H : Heap) : Prop := va_P G.1 vwCl (wW G σ) H
def Ex (r : Option Value) (σ : Sg) : Rt := fun a b => a = r ∧ b = σ
/-- a method's end -/
def Qg (G : Gt) (rt : Rt) : Array Value → State → Outcome → State → Prop := fun _ st o t => (∃ (r : Option Value) (σ : Sg), o = .returned (r.map (vM (ga G))) ∧ rt r σ ∧ wP G σ t.heap) ∧ va_F (Aw (ga G)) st t
/-- a method's begin -/
def PRE (G : Gt) (σ : Sg) (U : State) : Prop := wP G σ U.heap ∧ va_K G.1 vwCl (tyW G) U ∧ Inj (ga G) ∧ GLb G (Aw (ga G)) U U.heap
/-- a method: name, code, words of locals, what it answers, room: frames, locals -/
abbrev MI : Type := MethodName × ByteArray × Nat × Option FieldType × Nat × Nat
abbrev wsM (M : MI) : List Cond := .code M.1 M.2.1 M.2.2.1 M.2.2.2.1 :: AW
abbrev rmM (M : MI) : Room := { frames := M.2.2.2.2.1, cells := 0, slots := 0, locals := M.2.2.2.2.2 }
/-- THE CONTRACT of a method at a world -/
def Ct (M : MI) (As : List Value) (σ : Sg) (rt : Rt) : Prop := ∀ (l : Launch) (G : Gt), Met l M.1 (wsM M) (rmM M) (va_Pc (sM (ga G) As) (PRE G σ)) (Qg G rt) 0 0 (Aw (ga G))
theorem PRE_blind {G : Gt} {σ : Sg} {As : List Value} : FrameBlind (va_Pc As (PRE G σ)) := by
  intro a U g mk h
  obtain ⟨h0, h1, h2, h3, h4⟩ := h
  exact ⟨h0, h1, va_K.moved (u := U) (U := U.calling g mk a) (Vm.Alike.refl U.vm) h2, h3, GLb.same (u := U) (U := U.calling g mk a) rfl h4⟩
/-- what stays while a method runs -/
def Cx (own : String) (cc : ByteArray) (nL : Nat) (ret : Option FieldType) (R0 : Room) (G : Gt) (rt : Rt) (p : Program) (e : Env) (R : Room) (s : State) (m : MethodId) (args : Array Value) (below : List Frame) (meth : Method) (c : Code) (Q : State → Prop) : Prop :=
  (p.tables.exec = Jvm.exec ∧ c.code = cc ∧ c.maxLocals = nL ∧ s.vm.findClass own = some m.cls ∧ ∀ w ∈ AW, w.before args s = true) ∧ meth.sig.returnType = ret ∧ meth.locks = false ∧ (va_K G.1 vwCl (tyW G) s ∧ Inj (ga G) ∧ GLb G (Aw (ga G)) s s.heap) ∧ R = R0 ∧ Q = MQ below (Qg G rt) args s 0 0 (Aw (ga G))
/-- the machine at an abstract state -/
def Wm (nL : Nat) (G : Gt) (p : Program) (l : Launch) (e : Env) (R : Room) (s : State) (m : MethodId) (args : Array Value) (below : List Frame) (meth : Method) (c : Code) (Q : State → Prop) : Kt := fun pc ls st σ =>
  ∀ (H : Heap) (locs : List Loc) (rls : Array Slot), wP G σ H → va_S (Aw (ga G)) s.heap H locs → lv_has rls nL (lM (ga G) ls) → W p l e R s m args below meth c H locs 0 0 Q (F0 m pc rls (sM (ga G) st))
/-- the step function f is right at pc -/
def Snd (own : String) (cc : ByteArray) (nL : Nat) (ret : Option FieldType) (R0 : Room) (pc : Nat) (f : Stf) : Prop :=
  ∀ (G : Gt) (rt : Rt) (p : Program) (l : Launch) (e : Env) (R : Room) (s : State) (m : MethodId) (args : Array Value) (below : List Frame) (meth : Method) (c : Code) (Q : State → Prop), Cx own cc nL ret R0 G rt p e R s m args below meth c Q →
    ∀ k : Kt, (∀ pc ls st σ, k pc ls st σ → Wm nL G p l e R s m args below meth c Q pc ls st σ) → ∀ ls st σ, f k rt ls st σ → Wm nL G p l e R s m args below meth c Q pc ls st σ
abbrev Cd : Type := List (Nat × Stf)
def lk : Cd → Nat → Option Stf
  | [], _ => none
  | (j, f) :: t, pc => bif Nat.beq j pc then some f else lk t pc
/-- n steps, then k -/
def wp (cd : Cd) (rt : Rt) (k : Kt) : Nat → Kt
  | 0 => k
  | n + 1 => fun pc ls st σ => match lk cd pc with
    | some f => f (wp cd rt k n) rt ls st σ
    | none => False
theorem lk_mem : ∀ (cd : Cd) (pc : Nat) (f : Stf), lk cd pc = some f → (pc, f) ∈ cd
  | [], _, _, h => by cases h
  | (j, g) :: t, pc, f, h => by
    unfold lk at h
    cases hb : Nat.beq j pc with
    | true =>
      rw [hb] at h
      have hj : j = pc := Nat.eq_of_beq_eq_true hb
      subst hj
      cases h
      exact List.mem_cons_self
    | false =>
      rw [hb] at h
      exact List.mem_cons_of_mem _ (lk_mem t pc f h)
theorem wp_sound {own : String} {cc : ByteArray} {nL : Nat} {ret : Option FieldType} {R0 : Room} {cd : Cd} (hcd : ∀ q ∈ cd, Snd own cc nL ret R0 q.1 q.2) {G : Gt} {rt : Rt} {p : Program} {l : Launch} {e : Env} {R : Room} {s : State} {m : MethodId} {args : Array Value} {below : List Frame} {meth : Method} {c : Code} {Q : State → Prop} (C : Cx own cc nL ret R0 G rt p e R s m args below meth c Q)
    {k : Kt} (hk : ∀ pc ls st σ, k pc ls st σ → Wm nL G p l e R s m args below meth c Q pc ls st σ) : ∀ (n pc : Nat) (ls : Lcs) (st : List Value) (σ : Sg), wp cd rt k n pc ls st σ → Wm nL G p l e R s m args below meth c Q pc ls st σ
  | 0, pc, ls, st, σ, h => hk pc ls st σ h
  | n + 1, pc, ls, st, σ, h => by
    unfold wp at h
    cases hl : lk cd pc with
    | none => rw [hl] at h; exact h.elim
    | some f =>
      rw [hl] at h
      exact hcd _ (lk_mem cd pc f hl) G rt p l e R s m args below meth c Q C (wp cd rt k n) (wp_sound hcd C hk n) ls st σ h
theorem lM_args (ad : Nat → Nat) : ∀ (vs : List Value) (i : Nat), lv_args i (sM ad vs) = lM ad (lv_args i vs)
  | [], _ => rfl
  | v :: vs, i => by
    show (i, vM ad v) :: lv_args (if (vM ad v).category = 2 then i + 2 else i + 1) (sM ad vs) = (i, vM ad v) :: lM ad (lv_args (if v.category = 2 then i + 2 else i + 1) vs)
    rw [vM_cat, lM_args ad vs]
theorem sl_len (ad : Nat → Nat) : ∀ vs : List Value, (lg_sl (sM ad vs)).length = (lg_sl vs).length
  | [] => rfl
  | v :: vs => by
    have h := sl_len ad vs
    simp only [lg_sl, sM, List.map_cons, List.flatMap_cons, List.length_append] at h ⊢
    rw [h, vM_cat]
    split <;> rfl
/-- a contract out of a run of the abstract machine -/
theorem Ct.of {M : MI} {cd : Cd} {As : List Value} {σ : Sg} {rt : Rt} (hy : plainName M.1.cls = true) (hcd : ∀ q ∈ cd, Snd M.1.cls M.2.1 M.2.2.1 M.2.2.2.1 (rmM M) q.1 q.2) (hlen : (lg_sl As).length ≤ M.2.2.1)
    (h : ∀ X : Kt, (∀ n pc ls st σ, wp cd rt X n pc ls st σ → X pc ls st σ) → X 0 (lv_args 0 As) [] σ) : Ct M As σ rt := by
  intro l G
  refine Met.ofW (cc := M.2.1) (maxL := M.2.2.1) (ret := M.2.2.2.1) hy rfl ?_
  intro p e s m args below meth c s₁ B hml hv
  obtain ⟨rfl, hP, hK, hI, hG⟩ := hv
  have hts := atoms_spec (ws := wsM M) B.pre
  have C : Cx M.1.cls M.2.1 M.2.2.1 M.2.2.2.1 (rmM M) G rt p e (rmM M) s m (sM (ga G) As).toArray below meth c (MQ below (Qg G rt) (sM (ga G) As).toArray s 0 0 (Aw (ga G))) :=
    ⟨⟨B.exec, B.bytes, hml, findClass_of_methodNamed B.named, fun w hw => hts w (List.mem_cons_of_mem _ hw)⟩, B.returns, B.notSynchronized, ⟨hK, hI, hG⟩, rfl, rfl⟩
  have hl := lv_entry (sM (ga G) As) (n := M.2.2.1) (by rw [sl_len]; exact hlen)
  rw [lM_args] at hl
  rw [lg_entry_eq]
  exact h (Wm M.2.2.1 G p l e (rmM M) s m (sM (ga G) As).toArray below meth c _) (fun n pc ls st σ hh => wp_sound hcd C (fun _ _ _ _ h => h) n pc ls st σ hh) s.heap [] _ hP va_S.rf hl
section CG
variable {p : Program} {l : Launch} {e : Env} {R : Room} {s : State} {m : MethodId} {args : Array Value} {below : List Frame} {meth : Method} {c : Code} {H : Heap} {locs : List Loc} {Q : State → Prop}
/-- behind a call -/
theorem callG {G : Gt} {rt : Rt} {a : Array Value} {pc : Nat} {ls : Array Slot} {st0 rest : List Value} {A0 : Nat → Prop} {H0 : Heap} {cells slots : Nat} (hr : va_Run p l e R s m args below meth c H locs cells slots 0 0 (F0 m pc ls st0) rest (Qg G rt a) (Aw (ga G))) (hS : va_S A0 H0 H locs) (hA : ∀ q, Aw (ga G) q → A0 q)
    (kk : ∀ (r : Option Value) (σ : Sg) (H1 : Heap) (locs1 : List Loc), rt r σ → wP G σ H1 → va_S A0 H0 H1 locs1 → W p l e R s m args below meth c H1 locs1 cells slots Q (F0 m (pc + 3) ls ((r.map (vM (ga G))).toList ++ rest))) : W p l e R s m args below meth c H locs cells slots Q (F0 m pc ls st0) := by
  intro T hT X
  obtain ⟨v, st₀, t, T', L, h0, X', hL, e1, e2, ⟨⟨r, u, hv, hp, hb⟩, hz, hk⟩, st⟩ := hr T hT X
  cases hv
  rw [h0] at hz hk
  obtain ⟨t2, a1, b1⟩ := kk r u T'.heap (locs ++ L) hp (by rw [e1]; exact hb)
    ⟨Nat.le_trans hS.1 (by rw [e1]; exact hz), fun q h1 h2 => by rw [e1, hk q (Nat.lt_of_lt_of_le h1 hS.1) (fun z => h2 (hA q z))]; exact hS.2.1 q h1 h2, fun q hq => by
      rcases List.mem_append.mp hq with h | h
      · exact hS.2.2 q h
      · exact hA _ (hL q h)⟩ T' rfl X'
  exact ⟨t2, st t2 a1, b1⟩
end CG
end
section
/-! STEP FUNCTIONS, each right -/
def lget : Lcs → Nat → Option Value
  | [], _ => none
  | (j, v) :: t, i => bif Nat.beq j i then some v else lget t i
theorem lget_mem : ∀ (ls : Lcs) (i : Nat) (v : Value), lget ls i = some v → (i, v) ∈ ls
  | [], _, _, h => by cases h
  | (j, w) :: t, i, v, h => by
    unfold lget at h
    cases hb : Nat.beq j i with
    | true =>
      rw [hb] at h
      have hj : j = i := Nat.eq_of_beq_eq_true hb
      subst hj
      cases h
      exact List.mem_cons_self
    | false =>
      rw [hb] at h
      exact List.mem_cons_of_mem _ (lget_mem t i v h)
theorem lget_at {ad : Nat → Nat} {rls : Array Slot} {nL : Nat} {ls : Lcs} {i : Nat} {v : Value} (h : lv_has rls nL (lM ad ls)) (hv : lget ls i = some v) : rls[i]? = some (.val (vM ad v)) :=
  h.2.2 (i, vM ad v) (List.mem_map.mpr ⟨(i, v), lget_mem ls i v hv, rfl⟩)
def lset (ls : Lcs) (i : Nat) (v : Value) : Lcs := (i, v) :: ls.filter (fun q => !(q.1 == i) && !(q.1 + 1 == i && q.2.category == 2))
def lset2 (ls : Lcs) (i : Nat) (v : Value) : Lcs := (i, v) :: ls.filter (fun q => !(q.1 == i) && (!(q.1 == i + 1) && !(q.1 + 1 == i && q.2.category == 2)))
theorem lset_M (ad : Nat → Nat) (ls : Lcs) (i : Nat) (v : Value) : (i, vM ad v) :: (lM ad ls).filter (fun q => !(q.1 == i) && !(q.1 + 1 == i && q.2.category == 2)) = lM ad (lset ls i v) := by
  unfold lset lM
  rw [List.map_cons, List.filter_map]
  congr 2
  refine List.filter_congr (fun q _ => ?_)
  simp only [Function.comp, vM_cat]
theorem lset2_M (ad : Nat → Nat) (ls : Lcs) (i : Nat) (v : Value) : (i, vM ad v) :: (lM ad ls).filter (fun q => !(q.1 == i) && (!(q.1 == i + 1) && !(q.1 + 1 == i && q.2.category == 2))) = lM ad (lset2 ls i v) := by
  unfold lset2 lM
  rw [List.map_cons, List.filter_map]
  congr 2
  refine List.filter_congr (fun q _ => ?_)
  simp only [Function.comp, vM_cat]
section ST
variable {own : String} {cc : ByteArray} {nL : Nat} {ret : Option FieldType} {R0 : Room} {pc : Nat}
def s_pushi (v : Int32) (nx : Nat) : Stf := fun k _ ls st σ => k nx ls (.int v :: st) σ
theorem z_iconst {n : Int} {v : Int32} (hd : decode cc pc = .ok (.iconst n, 1)) (hv : Int32.ofInt n = v) : Snd own cc nL ret R0 pc (s_pushi v (pc + 1)) := by
  intro G rt p l e R s m args below meth c Q C k hk ls st σ h H locs rls hP hS hl
  exact lv_iconst C.1.1 C.1.2.1 hd hv (hk _ _ _ _ h H locs rls hP hS hl)
theorem z_bipush {n : Int} {v : Int32} (hd : decode cc pc = .ok (.bipush n, 2)) (hv : (Int8.ofInt n).toInt32 = v) : Snd own cc nL ret R0 pc (s_pushi v (pc + 2)) := by
  intro G rt p l e R s m args below meth c Q C k hk ls st σ h H locs rls hP hS hl
  exact lv_bipush C.1.1 C.1.2.1 hd hv (hk _ _ _ _ h H locs rls hP hS hl)
theorem z_sipush {n : Int} {v : Int32} (hd : decode cc pc = .ok (.sipush n, 3)) (hv : (Int16.ofInt n).toInt32 = v) : Snd own cc nL ret R0 pc (s_pushi v (pc + 3)) := by
  intro G rt p l e R s m args below meth c Q C k hk ls st σ h H locs rls hP hS hl
  exact lv_sipush C.1.1 C.1.2.1 hd hv (hk _ _ _ _ h H locs rls hP hS hl)
theorem z_ldc {i : Nat} {v : Int32} (hd : decode cc pc = .ok (.ldc i, 2)) (hw : Cond.constant own i v ∈ AW) : Snd own cc nL ret R0 pc (s_pushi v (pc + 2)) := by
  intro G rt p l e R s m args below meth c Q C k hk ls st σ h H locs rls hP hS hl
  exact lv_ldc C.1.1 C.1.2.1 C.1.2.2.2.1 (C.1.2.2.2.2 _ hw) hd (hk _ _ _ _ h H locs rls hP hS hl)
theorem z_ldcw {i : Nat} {v : Int32} (hd : decode cc pc = .ok (.ldc_w i, 3)) (hw : Cond.constant own i v ∈ AW) : Snd own cc nL ret R0 pc (s_pushi v (pc + 3)) := by
  intro G rt p l e R s m args below meth c Q C k hk ls st σ h H locs rls hP hS hl
  exact lv_ldcw C.1.1 C.1.2.1 C.1.2.2.2.1 (C.1.2.2.2.2 _ hw) hd (hk _ _ _ _ h H locs rls hP hS hl)
def s_pushl (v : Int64) (nx : Nat) : Stf := fun k _ ls st σ => k nx ls (.long v :: st) σ
theorem z_lconst {n : Fin 2} {v : Int64} (hd : decode cc pc = .ok (.lconst n, 1)) (hv : Int64.ofNat (n : Nat) = v) : Snd own cc nL ret R0 pc (s_pushl v (pc + 1)) := by
  intro G rt p l e R s m args below meth c Q C k hk ls st σ h H locs rls hP hS hl
  exact lv_lconst C.1.1 C.1.2.1 hd hv (hk _ _ _ _ h H locs rls hP hS hl)
theorem z_ldc2 {i : Nat} {v : Int64} (hd : decode cc pc = .ok (.ldc2_w i, 3)) (hw : Cond.constantLong own i v ∈ AW) : Snd own cc nL ret R0 pc (s_pushl v (pc + 3)) := by
  intro G rt p l e R s m args below meth c Q C k hk ls st σ h H locs rls hP hS hl
  exact lv_ldc2 C.1.1 C.1.2.1 C.1.2.2.2.1 (C.1.2.2.2.2 _ hw) hd (hk _ _ _ _ h H locs rls hP hS hl)
def s_iload (i nx : Nat) : Stf := fun k _ ls st σ => match lget ls i with
  | some (.int x) => k nx ls (.int x :: st) σ
  | _ => False
theorem z_iload_n {j : Fin 4} {i : Nat} (hd : decode cc pc = .ok (.iload_n j, 1)) (hi : (j : Nat) = i) : Snd own cc nL ret R0 pc (s_iload i (pc + 1)) := by
  intro G rt p l e R s m args below meth c Q C k hk ls st σ h H locs rls hP hS hl
  unfold s_iload at h
  split at h
  · rename_i x hx
    exact lv_iload_n C.1.1 C.1.2.1 hd hi (lget_at hl hx) (hk _ _ _ _ h H locs rls hP hS hl)
  · exact h.elim
theorem z_iload {i : Nat} (hd : decode cc pc = .ok (.iload i, 2)) : Snd own cc nL ret R0 pc (s_iload i (pc + 2)) := by
  intro G rt p l e R s m args below meth c Q C k hk ls st σ h H locs rls hP hS hl
  unfold s_iload at h
  split at h
  · rename_i x hx
    exact lv_iload C.1.1 C.1.2.1 hd (lget_at hl hx) (hk _ _ _ _ h H locs rls hP hS hl)
  · exact h.elim
def s_lload (i nx : Nat) : Stf := fun k _ ls st σ => match lget ls i with
  | some (.long x) => k nx ls (.long x :: st) σ
  | _ => False
theorem z_lload_n {j : Fin 4} {i : Nat} (hd : decode cc pc = .ok (.lload_n j, 1)) (hi : (j : Nat) = i) : Snd own cc nL ret R0 pc (s_lload i (pc + 1)) := by
  intro G rt p l e R s m args below meth c Q C k hk ls st σ h H locs rls hP hS hl
  unfold s_lload at h
  split at h
  · rename_i x hx
    exact lv_lload_n C.1.1 C.1.2.1 hd hi (lget_at hl hx) (hk _ _ _ _ h H locs rls hP hS hl)
  · exact h.elim
theorem z_lload {i : Nat} (hd : decode cc pc = .ok (.lload i, 2)) : Snd own cc nL ret R0 pc (s_lload i (pc + 2)) := by
  intro G rt p l e R s m args below meth c Q C k hk ls st σ h H locs rls hP hS hl
  unfold s_lload at h
  split at h
  · rename_i x hx
    exact lv_lload C.1.1 C.1.2.1 hd (lget_at hl hx) (hk _ _ _ _ h H locs rls hP hS hl)
  · exact h.elim
def s_aload (i nx : Nat) : Stf := fun k _ ls st σ => match lget ls i with
  | some (.ref x) => k nx ls (.ref x :: st) σ
  | _ => False
theorem z_aload_n {j : Fin 4} {i : Nat} (hd : decode cc pc = .ok (.aload_n j, 1)) (hi : (j : Nat) = i) : Snd own cc nL ret R0 pc (s_aload i (pc + 1)) := by
  intro G rt p l e R s m args below meth c Q C k hk ls st σ h H locs rls hP hS hl
  unfold s_aload at h
  split at h
  · rename_i x hx
    exact lv_aload_n C.1.1 C.1.2.1 hd hi (lget_at hl hx) (hk _ _ _ _ h H locs rls hP hS hl)
  · exact h.elim
theorem z_aload {i : Nat} (hd : decode cc pc = .ok (.aload i, 2)) : Snd own cc nL ret R0 pc (s_aload i (pc + 2)) := by
  intro G rt p l e R s m args below meth c Q C k hk ls st σ h H locs rls hP hS hl
  unfold s_aload at h
  split at h
  · rename_i x hx
    exact lv_aload C.1.1 C.1.2.1 hd (lget_at hl hx) (hk _ _ _ _ h H locs rls hP hS hl)
  · exact h.elim
def s_istore (i nx : Nat) : Stf := fun k _ ls st σ => match st with
  | .int x :: r => k nx (lset ls i (.int x)) r σ
  | _ => False
theorem z_istore_n {j : Fin 4} {i : Nat} (hd : decode cc pc = .ok (.istore_n j, 1)) (hi : (j : Nat) = i) (hn : i < nL) : Snd own cc nL ret R0 pc (s_istore i (pc + 1)) := by
  intro G rt p l e R s m args below meth c Q C k hk ls st σ h H locs rls hP hS hl
  unfold s_istore at h
  split at h
  · exact lv_istore_n C.1.1 C.1.2.1 hd hi hl hn (lset_M (ga G) ls i (.int _)) (fun rls' hl' => hk _ _ _ _ h H locs rls' hP hS hl')
  · exact h.elim
theorem z_istore {i : Nat} (hd : decode cc pc = .ok (.istore i, 2)) (hn : i < nL) : Snd own cc nL ret R0 pc (s_istore i (pc + 2)) := by
  intro G rt p l e R s m args below meth c Q C k hk ls st σ h H locs rls hP hS hl
  unfold s_istore at h
  split at h
  · exact lv_istore C.1.1 C.1.2.1 hd hl hn (lset_M (ga G) ls i (.int _)) (fun rls' hl' => hk _ _ _ _ h H locs rls' hP hS hl')
  · exact h.elim
def s_lstore (i nx : Nat) : Stf := fun k _ ls st σ => match st with
  | .long x :: r => k nx (lset2 ls i (.long x)) r σ
  | _ => False
theorem z_lstore_n {j : Fin 4} {i : Nat} (hd : decode cc pc = .ok (.lstore_n j, 1)) (hi : (j : Nat) = i) (hn : i + 1 < nL) : Snd own cc nL ret R0 pc (s_lstore i (pc + 1)) := by
  intro G rt p l e R s m args below meth c Q C k hk ls st σ h H locs rls hP hS hl
  unfold s_lstore at h
  split at h
  · exact lv_lstore_n C.1.1 C.1.2.1 hd hi hl hn (lset2_M (ga G) ls i (.long _)) (fun rls' hl' => hk _ _ _ _ h H locs rls' hP hS hl')
  · exact h.elim
def s_astore (i nx : Nat) : Stf := fun k _ ls st σ => match st with
  | .ref x :: r => k nx (lset ls i (.ref x)) r σ
  | _ => False
theorem z_astore_n {j : Fin 4} {i : Nat} (hd : decode cc pc = .ok (.astore_n j, 1)) (hi : (j : Nat) = i) (hn : i < nL) : Snd own cc nL ret R0 pc (s_astore i (pc + 1)) := by
  intro G rt p l e R s m args below meth c Q C k hk ls st σ h H locs rls hP hS hl
  unfold s_astore at h
  split at h
  · exact lv_astore_n C.1.1 C.1.2.1 hd hi hl hn (lset_M (ga G) ls i (.ref _)) (fun rls' hl' => hk _ _ _ _ h H locs rls' hP hS hl')
  · exact h.elim
theorem z_astore {i : Nat} (hd : decode cc pc = .ok (.astore i, 2)) (hn : i < nL) : Snd own cc nL ret R0 pc (s_astore i (pc + 2)) := by
  intro G rt p l e R s m args below meth c Q C k hk ls st σ h H locs rls hP hS hl
  unfold s_astore at h
  split at h
  · exact lv_astore C.1.1 C.1.2.1 hd hl hn (lset_M (ga G) ls i (.ref _)) (fun rls' hl' => hk _ _ _ _ h H locs rls' hP hS hl')
  · exact h.elim
def s_iinc (i : Nat) (n : Int32) (nx : Nat) : Stf := fun k _ ls st σ => match lget ls i with
  | some (.int x) => k nx (lset ls i (.int (x + n))) st σ
  | _ => False
theorem z_iinc {i : Nat} {n : Int} {v : Int32} (hd : decode cc pc = .ok (.iinc i n, 3)) (hv : Int32.ofInt n = v) (hn : i < nL) : Snd own cc nL ret R0 pc (s_iinc i v (pc + 3)) := by
  intro G rt p l e R s m args below meth c Q C k hk ls st σ h H locs rls hP hS hl
  unfold s_iinc at h
  split at h
  · rename_i x hx
    obtain ⟨j, hj⟩ := List.getElem?_of_mem (List.mem_map.mpr ⟨(i, .int x), lget_mem ls i _ hx, rfl⟩ : (i, vM (ga G) (.int x)) ∈ lM (ga G) ls)
    exact lv_iinc (k := j) C.1.1 C.1.2.1 hd hl hj (by rw [hv]) hn (lset_M (ga G) ls i (.int _)) (fun rls' hl' => hk _ _ _ _ h H locs rls' hP hS hl')
  · exact h.elim
def s_bin (f : Int32 → Int32 → Int32) (nx : Nat) : Stf := fun k _ ls st σ => match st with
  | .int y :: .int x :: r => k nx ls (.int (f x y) :: r) σ
  | _ => False
theorem z_iadd (hd : decode cc pc = .ok (.iadd, 1)) : Snd own cc nL ret R0 pc (s_bin (fun x y => x + y) (pc + 1)) := by
  intro G rt p l e R s m args below meth c Q C k hk ls st σ h H locs rls hP hS hl
  unfold s_bin at h
  split at h
  · exact lv_iadd C.1.1 C.1.2.1 hd (hk _ _ _ _ h H locs rls hP hS hl)
  · exact h.elim
theorem z_isub (hd : decode cc pc = .ok (.isub, 1)) : Snd own cc nL ret R0 pc (s_bin (fun x y => x - y) (pc + 1)) := by
  intro G rt p l e R s m args below meth c Q C k hk ls st σ h H locs rls hP hS hl
  unfold s_bin at h
  split at h
  · exact lv_isub C.1.1 C.1.2.1 hd (hk _ _ _ _ h H locs rls hP hS hl)
  · exact h.elim
theorem z_imul (hd : decode cc pc = .ok (.imul, 1)) : Snd own cc nL ret R0 pc (s_bin (fun x y => x * y) (pc + 1)) := by
  intro G rt p l e R s m args below meth c Q C k hk ls st σ h H locs rls hP hS hl
  unfold s_bin at h
  split at h
  · exact lv_imul C.1.1 C.1.2.1 hd (hk _ _ _ _ h H locs rls hP hS hl)
  · exact h.elim
theorem z_iand (hd : decode cc pc = .ok (.iand, 1)) : Snd own cc nL ret R0 pc (s_bin (fun x y => x &&& y) (pc + 1)) := by
  intro G rt p l e R s m args below meth c Q C k hk ls st σ h H locs rls hP hS hl
  unfold s_bin at h
  split at h
  · exact lv_iand C.1.1 C.1.2.1 hd (hk _ _ _ _ h H locs rls hP hS hl)
  · exact h.elim
theorem z_ior (hd : decode cc pc = .ok (.ior, 1)) : Snd own cc nL ret R0 pc (s_bin (fun x y => x ||| y) (pc + 1)) := by
  intro G rt p l e R s m args below meth c Q C k hk ls st σ h H locs rls hP hS hl
  unfold s_bin at h
  split at h
  · exact lv_ior C.1.1 C.1.2.1 hd (hk _ _ _ _ h H locs rls hP hS hl)
  · exact h.elim
theorem z_ixor (hd : decode cc pc = .ok (.ixor, 1)) : Snd own cc nL ret R0 pc (s_bin (fun x y => x ^^^ y) (pc + 1)) := by
  intro G rt p l e R s m args below meth c Q C k hk ls st σ h H locs rls hP hS hl
  unfold s_bin at h
  split at h
  · exact lv_ixor C.1.1 C.1.2.1 hd (hk _ _ _ _ h H locs rls hP hS hl)
  · exact h.elim
theorem z_ishl (hd : decode cc pc = .ok (.ishl, 1)) : Snd own cc nL ret R0 pc (s_bin (fun x y => x <<< (y &&& 31)) (pc + 1)) := by
  intro G rt p l e R s m args below meth c Q C k hk ls st σ h H locs rls hP hS hl
  unfold s_bin at h
  split at h
  · exact lv_ishl C.1.1 C.1.2.1 hd (hk _ _ _ _ h H locs rls hP hS hl)
  · exact h.elim
theorem z_ishr (hd : decode cc pc = .ok (.ishr, 1)) : Snd own cc nL ret R0 pc (s_bin (fun x y => x >>> (y &&& 31)) (pc + 1)) := by
  intro G rt p l e R s m args below meth c Q C k hk ls st σ h H locs rls hP hS hl
  unfold s_bin at h
  split at h
  · exact lv_ishr C.1.1 C.1.2.1 hd (hk _ _ _ _ h H locs rls hP hS hl)
  · exact h.elim
theorem z_iushr (hd : decode cc pc = .ok (.iushr, 1)) : Snd own cc nL ret R0 pc (s_bin (fun x y => (x.toUInt32 >>> (y.toUInt32 &&& Int32.toUInt32 31)).toInt32) (pc + 1)) := by
  intro G rt p l e R s m args below meth c Q C k hk ls st σ h H locs rls hP hS hl
  unfold s_bin at h
  split at h
  · exact lv_iushr C.1.1 C.1.2.1 hd rfl (hk _ _ _ _ h H locs rls hP hS hl)
  · exact h.elim
def s_div (nx : Nat) : Stf := fun k _ ls st σ => match st with
  | .int y :: .int x :: r => ¬ y = 0 ∧ k nx ls (.int (x / y) :: r) σ
  | _ => False
theorem z_idiv (hd : decode cc pc = .ok (.idiv, 1)) : Snd own cc nL ret R0 pc (s_div (pc + 1)) := by
  intro G rt p l e R s m args below meth c Q C k hk ls st σ h H locs rls hP hS hl
  unfold s_div at h
  split at h
  · exact lv_idiv C.1.1 C.1.2.1 hd h.1 (hk _ _ _ _ h.2 H locs rls hP hS hl)
  · exact h.elim
def s_rem (nx : Nat) : Stf := fun k _ ls st σ => match st with
  | .int y :: .int x :: r => ¬ y = 0 ∧ k nx ls (.int (x - x / y * y) :: r) σ
  | _ => False
theorem z_irem (hd : decode cc pc = .ok (.irem, 1)) : Snd own cc nL ret R0 pc (s_rem (pc + 1)) := by
  intro G rt p l e R s m args below meth c Q C k hk ls st σ h H locs rls hP hS hl
  unfold s_rem at h
  split at h
  · exact lv_irem C.1.1 C.1.2.1 hd h.1 (hk _ _ _ _ h.2 H locs rls hP hS hl)
  · exact h.elim
def s_un (f : Int32 → Int32) (nx : Nat) : Stf := fun k _ ls st σ => match st with
  | .int x :: r => k nx ls (.int (f x) :: r) σ
  | _ => False
theorem z_i2b (hd : decode cc pc = .ok (.i2b, 1)) : Snd own cc nL ret R0 pc (s_un (fun x => x.toInt8.toInt32) (pc + 1)) := by
  intro G rt p l e R s m args below meth c Q C k hk ls st σ h H locs rls hP hS hl
  unfold s_un at h
  split at h
  · exact lv_i2b C.1.1 C.1.2.1 hd rfl (hk _ _ _ _ h H locs rls hP hS hl)
  · exact h.elim
theorem z_i2s (hd : decode cc pc = .ok (.i2s, 1)) : Snd own cc nL ret R0 pc (s_un (fun x => x.toInt16.toInt32) (pc + 1)) := by
  intro G rt p l e R s m args below meth c Q C k hk ls st σ h H locs rls hP hS hl
  unfold s_un at h
  split at h
  · exact lv_i2s C.1.1 C.1.2.1 hd rfl (hk _ _ _ _ h H locs rls hP hS hl)
  · exact h.elim
def s_i2l (nx : Nat) : Stf := fun k _ ls st σ => match st with
  | .int x :: r => k nx ls (.long x.toInt64 :: r) σ
  | _ => False
theorem z_i2l (hd : decode cc pc = .ok (.i2l, 1)) : Snd own cc nL ret R0 pc (s_i2l (pc + 1)) := by
  intro G rt p l e R s m args below meth c Q C k hk ls st σ h H locs rls hP hS hl
  unfold s_i2l at h
  split at h
  · exact lv_i2l C.1.1 C.1.2.1 hd rfl (hk _ _ _ _ h H locs rls hP hS hl)
  · exact h.elim
def s_lbin (f : Int64 → Int64 → Int64) (nx : Nat) : Stf := fun k _ ls st σ => match st with
  | .long y :: .long x :: r => k nx ls (.long (f x y) :: r) σ
  | _ => False
theorem z_ladd (hd : decode cc pc = .ok (.ladd, 1)) : Snd own cc nL ret R0 pc (s_lbin (fun x y => x + y) (pc + 1)) := by
  intro G rt p l e R s m args below meth c Q C k hk ls st σ h H locs rls hP hS hl
  unfold s_lbin at h
  split at h
  · exact lv_ladd C.1.1 C.1.2.1 hd (hk _ _ _ _ h H locs rls hP hS hl)
  · exact h.elim
theorem z_lmul (hd : decode cc pc = .ok (.lmul, 1)) : Snd own cc nL ret R0 pc (s_lbin (fun x y => x * y) (pc + 1)) := by
  intro G rt p l e R s m args below meth c Q C k hk ls st σ h H locs rls hP hS hl
  unfold s_lbin at h
  split at h
  · exact lv_lmul C.1.1 C.1.2.1 hd (hk _ _ _ _ h H locs rls hP hS hl)
  · exact h.elim
def s_lcmp (nx : Nat) : Stf := fun k _ ls st σ => match st with
  | .long y :: .long x :: r => k nx ls (.int (lg_cmp x y) :: r) σ
  | _ => False
theorem z_lcmp (hd : decode cc pc = .ok (.lcmp, 1)) : Snd own cc nL ret R0 pc (s_lcmp (pc + 1)) := by
  intro G rt p l e R s m args below meth c Q C k hk ls st σ h H locs rls hP hS hl
  unfold s_lcmp at h
  split at h
  · exact W.lcmp C.1.1 C.1.2.1 hd (hk _ _ _ _ h H locs rls hP hS hl)
  · exact h.elim
def s_dup (nx : Nat) : Stf := fun k _ ls st σ => match st with
  | v :: r => bif Nat.beq v.category 1 then k nx ls (v :: v :: r) σ else False
  | _ => False
theorem z_dup (hd : decode cc pc = .ok (.dup, 1)) : Snd own cc nL ret R0 pc (s_dup (pc + 1)) := by
  intro G rt p l e R s m args below meth c Q C k hk ls st σ h H locs rls hP hS hl
  unfold s_dup at h
  split at h
  · rename_i v r
    cases hb : Nat.beq v.category 1 with
    | true =>
      rw [hb] at h
      exact lv_dup C.1.1 C.1.2.1 hd (by rw [vM_cat]; exact Nat.eq_of_beq_eq_true hb) (hk _ _ _ _ h H locs rls hP hS hl)
    | false => rw [hb] at h; exact h.elim
  · exact h.elim
def s_pop (nx : Nat) : Stf := fun k _ ls st σ => match st with
  | v :: r => bif Nat.beq v.category 1 then k nx ls r σ else False
  | _ => False
theorem z_pop (hd : decode cc pc = .ok (.pop, 1)) : Snd own cc nL ret R0 pc (s_pop (pc + 1)) := by
  intro G rt p l e R s m args below meth c Q C k hk ls st σ h H locs rls hP hS hl
  unfold s_pop at h
  split at h
  · rename_i v r
    cases hb : Nat.beq v.category 1 with
    | true =>
      rw [hb] at h
      exact lv_pop C.1.1 C.1.2.1 hd (by rw [vM_cat]; exact Nat.eq_of_beq_eq_true hb) (hk _ _ _ _ h H locs rls hP hS hl)
    | false => rw [hb] at h; exact h.elim
  · exact h.elim
def s_dup2 (nx : Nat) : Stf := fun k _ ls st σ => match st with
  | v :: w :: r => bif Nat.beq v.category 1 && Nat.beq w.category 1 then k nx ls (v :: w :: v :: w :: r) σ else False
  | _ => False
theorem z_dup2 (hd : decode cc pc = .ok (.dup2, 1)) : Snd own cc nL ret R0 pc (s_dup2 (pc + 1)) := by
  intro G rt p l e R s m args below meth c Q C k hk ls st σ h H locs rls hP hS hl
  unfold s_dup2 at h
  split at h
  · rename_i v w r
    cases hb : (Nat.beq v.category 1 && Nat.beq w.category 1) with
    | true =>
      rw [hb] at h
      obtain ⟨h1, h2⟩ := Bool.and_eq_true_iff.mp hb
      exact lv_dup2_11 C.1.1 C.1.2.1 hd (by rw [vM_cat]; exact Nat.eq_of_beq_eq_true h1) (by rw [vM_cat]; exact Nat.eq_of_beq_eq_true h2) (hk _ _ _ _ h H locs rls hP hS hl)
    | false => rw [hb] at h; exact h.elim
  · exact h.elim
def s_goto (t : Nat) : Stf := fun k _ ls st σ => k t ls st σ
theorem z_goto {off : Int} {t : Nat} (hd : decode cc pc = .ok (.goto off, 3)) (ht : (pc : Int) + off = (t : Int)) : Snd own cc nL ret R0 pc (s_goto t) := by
  intro G rt p l e R s m args below meth c Q C k hk ls st σ h H locs rls hP hS hl
  exact lv_goto C.1.1 C.1.2.1 hd ht (hk _ _ _ _ h H locs rls hP hS hl)
def s_if (q : Int32 → Prop) (t nx : Nat) : Stf := fun k _ ls st σ => match st with
  | .int x :: r => (q x → k t ls r σ) ∧ (¬ q x → k nx ls r σ)
  | _ => False
def s_icmp (q : Int32 → Int32 → Prop) (t nx : Nat) : Stf := fun k _ ls st σ => match st with
  | .int y :: .int x :: r => (q x y → k t ls r σ) ∧ (¬ q x y → k nx ls r σ)
  | _ => False
theorem z_if_eq {off : Int} {t : Nat} (hd : decode cc pc = .ok (.ifCond .eq off, 3)) (ht : (pc : Int) + off = (t : Int)) : Snd own cc nL ret R0 pc (s_if (fun x => x = 0) t (pc + 3)) := by
  intro G rt p l e R s m args below meth c Q C k hk ls st σ h H locs rls hP hS hl
  unfold s_if at h
  split at h
  · exact lv_if_eq C.1.1 C.1.2.1 hd ht (fun q => hk _ _ _ _ (h.1 q) H locs rls hP hS hl) (fun q => hk _ _ _ _ (h.2 q) H locs rls hP hS hl)
  · exact h.elim
theorem z_icmp_eq {off : Int} {t : Nat} (hd : decode cc pc = .ok (.if_icmp .eq off, 3)) (ht : (pc : Int) + off = (t : Int)) : Snd own cc nL ret R0 pc (s_icmp (fun x y => x = y) t (pc + 3)) := by
  intro G rt p l e R s m args below meth c Q C k hk ls st σ h H locs rls hP hS hl
  unfold s_icmp at h
  split at h
  · exact lv_icmp_eq C.1.1 C.1.2.1 hd ht (fun q => hk _ _ _ _ (h.1 q) H locs rls hP hS hl) (fun q => hk _ _ _ _ (h.2 q) H locs rls hP hS hl)
  · exact h.elim
theorem z_if_ne {off : Int} {t : Nat} (hd : decode cc pc = .ok (.ifCond .ne off, 3)) (ht : (pc : Int) + off = (t : Int)) : Snd own cc nL ret R0 pc (s_if (fun x => x = 0) (pc + 3) t) := by
  intro G rt p l e R s m args below meth c Q C k hk ls st σ h H locs rls hP hS hl
  unfold s_if at h
  split at h
  · exact lv_if_ne C.1.1 C.1.2.1 hd ht (fun q => hk _ _ _ _ (h.2 q) H locs rls hP hS hl) (fun q => hk _ _ _ _ (h.1 q) H locs rls hP hS hl)
  · exact h.elim
theorem z_icmp_ne {off : Int} {t : Nat} (hd : decode cc pc = .ok (.if_icmp .ne off, 3)) (ht : (pc : Int) + off = (t : Int)) : Snd own cc nL ret R0 pc (s_icmp (fun x y => x = y) (pc + 3) t) := by
  intro G rt p l e R s m args below meth c Q C k hk ls st σ h H locs rls hP hS hl
  unfold s_icmp at h
  split at h
  · exact lv_icmp_ne C.1.1 C.1.2.1 hd ht (fun q => hk _ _ _ _ (h.2 q) H locs rls hP hS hl) (fun q => hk _ _ _ _ (h.1 q) H locs rls hP hS hl)
  · exact h.elim
theorem z_if_lt {off : Int} {t : Nat} (hd : decode cc pc = .ok (.ifCond .lt off, 3)) (ht : (pc : Int) + off = (t : Int)) : Snd own cc nL ret R0 pc (s_if (fun x => x < 0) t (pc + 3)) := by
  intro G rt p l e R s m args below meth c Q C k hk ls st σ h H locs rls hP hS hl
  unfold s_if at h
  split at h
  · exact lv_if_lt C.1.1 C.1.2.1 hd ht (fun q => hk _ _ _ _ (h.1 q) H locs rls hP hS hl) (fun q => hk _ _ _ _ (h.2 q) H locs rls hP hS hl)
  · exact h.elim
theorem z_icmp_lt {off : Int} {t : Nat} (hd : decode cc pc = .ok (.if_icmp .lt off, 3)) (ht : (pc : Int) + off = (t : Int)) : Snd own cc nL ret R0 pc (s_icmp (fun x y => x < y) t (pc + 3)) := by
  intro G rt p l e R s m args below meth c Q C k hk ls st σ h H locs rls hP hS hl
  unfold s_icmp at h
  split at h
  · exact lv_icmp_lt C.1.1 C.1.2.1 hd ht (fun q => hk _ _ _ _ (h.1 q) H locs rls hP hS hl) (fun q => hk _ _ _ _ (h.2 q) H locs rls hP hS hl)
  · exact h.elim
theorem z_if_ge {off : Int} {t : Nat} (hd : decode cc pc = .ok (.ifCond .ge off, 3)) (ht : (pc : Int) + off = (t : Int)) : Snd own cc nL ret R0 pc (s_if (fun x => 0 ≤ x) t (pc + 3)) := by
  intro G rt p l e R s m args below meth c Q C k hk ls st σ h H locs rls hP hS hl
  unfold s_if at h
  split at h
  · exact lv_if_ge C.1.1 C.1.2.1 hd ht (fun q => hk _ _ _ _ (h.1 q) H locs rls hP hS hl) (fun q => hk _ _ _ _ (h.2 q) H locs rls hP hS hl)
  · exact h.elim
theorem z_icmp_ge {off : Int} {t : Nat} (hd : decode cc pc = .ok (.if_icmp .ge off, 3)) (ht : (pc : Int) + off = (t : Int)) : Snd own cc nL ret R0 pc (s_icmp (fun x y => y ≤ x) t (pc + 3)) := by
  intro G rt p l e R s m args below meth c Q C k hk ls st σ h H locs rls hP hS hl
  unfold s_icmp at h
  split at h
  · exact lv_icmp_ge C.1.1 C.1.2.1 hd ht (fun q => hk _ _ _ _ (h.1 q) H locs rls hP hS hl) (fun q => hk _ _ _ _ (h.2 q) H locs rls hP hS hl)
  · exact h.elim
theorem z_if_gt {off : Int} {t : Nat} (hd : decode cc pc = .ok (.ifCond .gt off, 3)) (ht : (pc : Int) + off = (t : Int)) : Snd own cc nL ret R0 pc (s_if (fun x => 0 < x) t (pc + 3)) := by
  intro G rt p l e R s m args below meth c Q C k hk ls st σ h H locs rls hP hS hl
  unfold s_if at h
  split at h
  · exact lv_if_gt C.1.1 C.1.2.1 hd ht (fun q => hk _ _ _ _ (h.1 q) H locs rls hP hS hl) (fun q => hk _ _ _ _ (h.2 q) H locs rls hP hS hl)
  · exact h.elim
theorem z_icmp_gt {off : Int} {t : Nat} (hd : decode cc pc = .ok (.if_icmp .gt off, 3)) (ht : (pc : Int) + off = (t : Int)) : Snd own cc nL ret R0 pc (s_icmp (fun x y => y < x) t (pc + 3)) := by
  intro G rt p l e R s m args below meth c Q C k hk ls st σ h H locs rls hP hS hl
  unfold s_icmp at h
  split at h
  · exact lv_icmp_gt C.1.1 C.1.2.1 hd ht (fun q => hk _ _ _ _ (h.1 q) H locs rls hP hS hl) (fun q => hk _ _ _ _ (h.2 q) H locs rls hP hS hl)
  · exact h.elim
theorem z_if_le {off : Int} {t : Nat} (hd : decode cc pc = .ok (.ifCond .le off, 3)) (ht : (pc : Int) + off = (t : Int)) : Snd own cc nL ret R0 pc (s_if (fun x => x ≤ 0) t (pc + 3)) := by
  intro G rt p l e R s m args below meth c Q C k hk ls st σ h H locs rls hP hS hl
  unfold s_if at h
  split at h
  · exact lv_if_le C.1.1 C.1.2.1 hd ht (fun q => hk _ _ _ _ (h.1 q) H locs rls hP hS hl) (fun q => hk _ _ _ _ (h.2 q) H locs rls hP hS hl)
  · exact h.elim
theorem z_icmp_le {off : Int} {t : Nat} (hd : decode cc pc = .ok (.if_icmp .le off, 3)) (ht : (pc : Int) + off = (t : Int)) : Snd own cc nL ret R0 pc (s_icmp (fun x y => x ≤ y) t (pc + 3)) := by
  intro G rt p l e R s m args below meth c Q C k hk ls st σ h H locs rls hP hS hl
  unfold s_icmp at h
  split at h
  · exact lv_icmp_le C.1.1 C.1.2.1 hd ht (fun q => hk _ _ _ _ (h.1 q) H locs rls hP hS hl) (fun q => hk _ _ _ _ (h.2 q) H locs rls hP hS hl)
  · exact h.elim
/-- switches: one case behind another -/
def s_cases (k : Kt) (ls : Lcs) (r : List Value) (σ : Sg) (x : Int32) (d : Nat) : List (Int32 × Nat) → Prop
  | [] => k d ls r σ
  | (v, t) :: cs => (x = v → k t ls r σ) ∧ (¬ x = v → s_cases k ls r σ x d cs)
def s_sw (cs : List (Int32 × Nat)) (d : Nat) : Stf := fun k _ ls st σ => match st with
  | .int x :: r => s_cases k ls r σ x d cs
  | _ => False
theorem s_cases_spec {k : Kt} {ls : Lcs} {r : List Value} {σ : Sg} {x : Int32} {d : Nat} : ∀ (cs : List (Int32 × Nat)), s_cases k ls r σ x d cs → (∃ q ∈ cs, x = q.1 ∧ k q.2 ls r σ) ∨ ((∀ q ∈ cs, ¬ x = q.1) ∧ k d ls r σ)
  | [], h => Or.inr ⟨fun q hq => absurd hq List.not_mem_nil, h⟩
  | (v, t) :: cs, h => by
    by_cases hx : x = v
    · exact Or.inl ⟨(v, t), List.mem_cons_self, hx, h.1 hx⟩
    · rcases s_cases_spec cs (h.2 hx) with ⟨q, h1, h2⟩ | ⟨h1, h2⟩
      · exact Or.inl ⟨q, List.mem_cons_of_mem _ h1, h2⟩
      · refine Or.inr ⟨fun q hq => ?_, h2⟩
        rcases List.mem_cons.mp hq with rfl | hq
        · exact hx
        · exact h1 q hq
/-- a table of the numbers from lo on -/
def twOk (pc lo : Nat) (offs : List Int) (cs : List (Int32 × Nat)) : Bool := cs.zipIdx.all (fun q => decide (q.1.1.toInt = (lo : Int) + q.2) && decide (offs[q.2]? = some ((q.1.2 : Int) - pc))) && Nat.beq cs.length offs.length
theorem z_tsw {dflt : Int} {lo hi : Nat} {offs : Array Int} {len d : Nat} {cs : List (Int32 × Nat)} (hd : decode cc pc = .ok (.tableswitch dflt lo hi offs, len)) (hd2 : (pc : Int) + dflt = (d : Int)) (hn : cs.length = hi + 1 - lo) (hlo : lo ≤ hi) (hok : twOk pc lo offs.toList cs = true) : Snd own cc nL ret R0 pc (s_sw cs d) := by
  intro G rt p l e R s m args below meth c Q C k hk ls st σ h H locs rls hP hS hl
  unfold s_sw at h
  obtain ⟨ha, -⟩ := Bool.and_eq_true_iff.mp hok
  have hat : ∀ (i : Nat) (q : Int32 × Nat), cs[i]? = some q → q.1.toInt = (lo : Int) + i ∧ offs[i]? = some ((q.2 : Int) - pc) := by
    intro i q hi
    have h1 := List.all_eq_true.mp ha (q, i) (by
      refine List.mem_of_getElem? (i := i) ?_
      rw [List.getElem?_zipIdx, hi]
      simp)
    obtain ⟨h2, h3⟩ := Bool.and_eq_true_iff.mp h1
    exact ⟨of_decide_eq_true h2, by rw [← Array.getElem?_toList]; exact of_decide_eq_true h3⟩
  split at h
  · rename_i x r
    rcases s_cases_spec cs h with ⟨q, h1, h2, h3⟩ | ⟨h1, h2⟩
    · obtain ⟨i, hi⟩ := List.getElem?_of_mem h1
      obtain ⟨g1, g2⟩ := hat i q hi
      have hil : i < cs.length := (List.getElem?_eq_some_iff.mp hi).1
      subst h2
      refine lv_tableIn C.1.1 C.1.2.1 hd (by omega) (by omega) (off := (q.2 : Int) - pc) ?_ (tgt := q.2) (by omega) (hk _ _ _ _ h3 H locs rls hP hS hl)
      rw [g1, show ((lo : Int) + i - lo).toNat = i by omega]
      exact g2
    · refine lv_tableOut C.1.1 C.1.2.1 hd ?_ hd2 (hk _ _ _ _ h2 H locs rls hP hS hl)
      by_cases hx : x.toInt < lo
      · exact Or.inl hx
      · refine Or.inr ?_
        refine Int.not_le.mp (fun hx2 => ?_)
        have hj : (x.toInt - lo).toNat < cs.length := by omega
        have hget : cs[(x.toInt - lo).toNat]? = some cs[(x.toInt - lo).toNat] := List.getElem?_eq_getElem hj
        obtain ⟨g1, -⟩ := hat _ _ hget
        refine h1 _ (List.mem_of_getElem? hget) (Int32.toInt_inj.mp ?_)
        rw [g1]
        omega
  · exact h.elim
/-- a lookup's pairs -/
def lwOk (pc : Nat) (ps : List (Int × Int)) (cs : List (Int32 × Nat)) : Bool := decide (ps = cs.map (fun q => (q.1.toInt, (q.2 : Int) - pc)))
theorem z_lsw {dflt : Int} {ps : Array (Int × Int)} {len d : Nat} {cs : List (Int32 × Nat)} (hd : decode cc pc = .ok (.lookupswitch dflt ps, len)) (hd2 : (pc : Int) + dflt = (d : Int)) (hp : (ps.toList.zip (ps.toList.drop 1)).all (fun (a, next) => a.1 < next.1) = true) (hok : lwOk pc ps.toList cs = true) : Snd own cc nL ret R0 pc (s_sw cs d) := by
  intro G rt p l e R s m args below meth c Q C k hk ls st σ h H locs rls hP hS hl
  unfold s_sw at h
  have hps : ps.toList = cs.map (fun q => (q.1.toInt, (q.2 : Int) - pc)) := of_decide_eq_true hok
  split at h
  · rename_i x r
    have key : ∀ cs : List (Int32 × Nat), s_cases k ls r σ x d cs → ∃ t : Nat, Op.lookupswitch.offset (cs.map (fun q => (q.1.toInt, (q.2 : Int) - pc))) dflt x.toInt = (t : Int) - pc ∧ k t ls r σ := by
      intro cs
      induction cs with
      | nil => intro h; exact ⟨d, by show dflt = _; omega, h⟩
      | cons q cs ih =>
        intro h
        by_cases hx : x = q.1
        · refine ⟨q.2, ?_, h.1 hx⟩
          rw [List.map_cons, Op.lookupswitch.offset_cons, if_pos (by rw [hx])]
        · obtain ⟨t, h1, h2⟩ := ih (h.2 hx)
          refine ⟨t, ?_, h2⟩
          rw [List.map_cons, lv_osw hx rfl]
          exact h1
    obtain ⟨t, h1, h2⟩ := key cs h
    exact lv_lookup (off := (t : Int) - pc) C.1.1 C.1.2.1 hd hp (by rw [hps]; exact h1) (tgt := t) (by omega) (hk _ _ _ _ h2 H locs rls hP hS hl)
  · exact h.elim
def sh (o : Nat) : Option ShE := shL[o]?
/-- a field is read -/
def s_getf (ci kf nx : Nat) : Stf := fun k _ ls st σ => match st with
  | .ref o :: r => match sh o with
    | some (.inl (c', fs)) => bif Nat.beq ci c' then (match fs[kf]? with
      | some f => k nx ls (fvA σ o kf f :: r) σ
      | none => False) else False
    | _ => False
  | _ => False
theorem fvA_M {G : Gt} {σ : Sg} {o kf : Nat} {f : Option Nat} : vM (ga G) (fvA σ o kf f) = fv (ga G) (fun _ => σ o) 0 kf f := by cases f <;> rfl
theorem z_getf {ci kf N idx : Nat} {ref C : String} {T : u_T} (hin : ∀ w ∈ u_ws C T N, w ∈ AW) (hc : vwCl[ci]? = some (C, T, N)) (hkN : kf < N) (hw : Cond.fieldLink own idx ref (T kf).2.1 (T kf).2.2.1 ∈ AW) (href : ref = (T kf).1) (hd : decode cc pc = .ok (.getfield idx, 3)) : Snd own cc nL ret R0 pc (s_getf ci kf (pc + 3)) := by
  intro G rt p l e R s m args below meth c Q C0 k hk ls st σ h H locs rls hP hS hl
  unfold s_getf at h
  split at h
  · rename_i o r
    split at h
    · rename_i c' fs hsh
      cases hb : Nat.beq ci c' with
      | false => rw [hb] at h; exact h.elim
      | true =>
        rw [hb] at h
        have hcc := Nat.eq_of_beq_eq_true hb
        subst hcc
        dsimp only [cond_true] at h
        split at h
        · rename_i f hf
          refine va_get (D := G.1) (v := vM (ga G) (fvA σ o kf f)) C0.1.1 C0.1.2.1 C0.1.2.2.2.2 hin C0.1.2.2.2.1 C0.2.2.2.1.1 hP o (wW_at hsh) hc kf hkN (C0.1.2.2.2.2 _ hw) (fun x hx => by rw [href]; exact hx) ?_ hd (hk _ _ _ _ h H locs rls hP hS hl)
          rw [List.getElem?_map, List.getElem?_zipIdx, hf, fvA_M]
          simp
        · exact h.elim
    · exact h.elim
  · exact h.elim
/-- an int field is written -/
def s_putf (ty : FieldType) (ci kf nx : Nat) : Stf := fun k _ ls st σ => match st with
  | .int x :: .ref o :: r => match sh o with
    | some (.inl (c', fs)) => bif Nat.beq ci c' then (match fs[kf]? with
      | some none => (narrow ty (.int x) = .int x ∧ fits ty (.int x) = true) ∧ k nx ls r (up2 σ o kf x)
      | _ => False) else False
    | _ => False
  | _ => False
theorem zip_set {α : Type} {G : Gt} {σ : Sg} {o kf : Nat} {fs : List (Option Nat)} {x : Int32} (hf : fs[kf]? = some none) : (fs.zipIdx.map (fun p => fv (ga G) (fun _ => σ o) 0 p.2 p.1)).set kf (.int x) = fs.zipIdx.map (fun p => fv (ga G) (fun _ => upd (σ o) kf x) 0 p.2 p.1) := by
  refine List.ext_getElem? (fun j => ?_)
  have hlt : kf < fs.length := (List.getElem?_eq_some_iff.mp hf).1
  by_cases hj : j = kf
  · subst hj
    rw [List.getElem?_set_self (by rw [List.length_map, List.length_zipIdx]; exact hlt), List.getElem?_map, List.getElem?_zipIdx, hf]
    simp [fv, upd]
  · rw [List.getElem?_set_ne (Ne.symm hj), List.getElem?_map, List.getElem?_map, List.getElem?_zipIdx]
    cases hg : fs[j]? with
    | none => rfl
    | some f => cases f <;> simp [fv, upd, hj]
theorem z_putf {ci kf N idx : Nat} {ref C : String} {T : u_T} {ty : FieldType} (ty0 : Nat → FieldType) (hty : ∀ k, k < N → parseFieldDescriptor (T k).2.2.1 = some (ty0 k)) (hnm : ∀ a, a < N → ∀ b, b < N → a ≠ b → (T a).2.1 ≠ (T b).2.1) (hin : ∀ w ∈ u_ws C T N, w ∈ AW) (hc : vwCl[ci]? = some (C, T, N)) (hkN : kf < N) (hw : Cond.fieldLink own idx ref (T kf).2.1 (T kf).2.2.1 ∈ AW) (href : ref = (T kf).1) (hfin : (T kf).2.2.2 = false) (hdt : parseFieldDescriptor (T kf).2.2.1 = some ty) (hd : decode cc pc = .ok (.putfield idx, 3)) : Snd own cc nL ret R0 pc (s_putf ty ci kf (pc + 3)) := by
  intro G rt p l e R s m args below meth c Q C0 k hk ls st σ h H locs rls hP hS hl
  unfold s_putf at h
  split at h
  · rename_i x o r
    split at h
    · rename_i c' fs hsh
      cases hb : Nat.beq ci c' with
      | false => rw [hb] at h; exact h.elim
      | true =>
        rw [hb] at h
        have hcc := Nat.eq_of_beq_eq_true hb
        subst hcc
        dsimp only [cond_true] at h
        split at h
        · rename_i hf
          obtain ⟨⟨hn, hfit⟩, h⟩ := h
          refine va_put (D := G.1) (v := .int x) (ty := ty) C0.1.1 C0.1.2.1 C0.1.2.2.2.2 hin ty0 hty hnm C0.1.2.2.2.1 C0.2.2.2.1.1 hP (wW_D C0.2.2.2.1.2.1) hS o (wW_at hsh) hc kf hkN (C0.1.2.2.2.2 _ hw) (fun x hx => by rw [href]; exact hx) hfin hdt hn hfit ?_ hd (fun H1 locs1 hP1 _ hS1 => ?_)
          · rw [List.length_map, List.length_zipIdx]
            exact (List.getElem?_eq_some_iff.mp hf).1
          · rw [zip_set (α := Unit) hf] at hP1
            have h2 : wP G (up2 σ o kf x) H1 := by
              show va_P G.1 vwCl (wW G (upr σ o (upd (σ o) kf x))) H1
              rw [← wW_set hsh]
              exact hP1
            exact hk _ _ _ _ h H1 locs1 rls h2 hS1 hl
        · exact h.elim
    · exact h.elim
  · exact h.elim
def s_iald (nx : Nat) : Stf := fun k _ ls st σ => match st with
  | .int i :: .ref o :: r => match sh o with
    | some (.inr (.inl n)) => vp_in i n ∧ k nx ls (.int (σ o i.toNatClampNeg) :: r) σ
    | none => match gsh o with
      | some f => vp_in i 7 ∧ k nx ls (.int (f i.toNatClampNeg) :: r) σ
      | none => False
    | _ => False
  | _ => False
theorem GLb_gs {G : Gt} {A : Nat → Prop} {U : State} {H : Heap} {o : Nat} {f : Nat → Int32} (h : GLb G A U H) (ho : gsh o = some f) : GS G o A U H ∧ (gsh o).getD kA = f := by
  refine ⟨?_, by rw [ho]; rfl⟩
  unfold gsh at ho
  split at ho
  · exact h.1.1
  · exact h.1.2
  · cases ho
theorem z_iald (hd : decode cc pc = .ok (.iaload, 1)) : Snd own cc nL ret R0 pc (s_iald (pc + 1)) := by
  intro G rt p l e R s m args below meth c Q C k hk ls st σ h H locs rls hP hS hl
  unfold s_iald at h
  split at h
  · rename_i i o r
    split at h
    · rename_i n hsh
      exact va_iald (D := G.1) C.1.1 C.1.2.1 C.2.2.2.1.1 hP o 0 (wW_at hsh) rfl h.1 hd (hk _ _ _ _ h.2 H locs rls hP hS hl)
    · split at h
      · rename_i f hf
        obtain ⟨hg, he⟩ := GLb_gs C.2.2.2.1.2.2 hf
        obtain ⟨-, hX, hlt, hA⟩ := hg
        rw [he] at hX
        exact va_sld C.1.1 C.1.2.1 hX hlt hA hS h.1 hd (hk _ _ _ _ h.2 H locs rls hP hS hl)
      · exact h.elim
    · exact h.elim
  · exact h.elim
def s_iast (nx : Nat) : Stf := fun k _ ls st σ => match st with
  | .int x :: .int i :: .ref o :: r => match sh o with
    | some (.inr (.inl n)) => vp_in i n ∧ k nx ls r (up2 σ o i.toNatClampNeg x)
    | _ => False
  | _ => False
theorem z_iast (hd : decode cc pc = .ok (.iastore, 1)) : Snd own cc nL ret R0 pc (s_iast (pc + 1)) := by
  intro G rt p l e R s m args below meth c Q C k hk ls st σ h H locs rls hP hS hl
  unfold s_iast at h
  split at h
  · rename_i x i o r
    split at h
    · rename_i n hsh
      refine va_iast (D := G.1) C.1.1 C.1.2.1 C.2.2.2.1.1 hP (wW_D C.2.2.2.1.2.1) hS o 0 (wW_at hsh) rfl h.1 hd (fun H1 locs1 hP1 _ hS1 => ?_)
      have h2 : wP G (up2 σ o i.toNatClampNeg x) H1 := by
        show va_P G.1 vwCl (wW G (upr σ o (upd (σ o) i.toNatClampNeg x))) H1
        rw [← wW_set hsh]
        exact hP1
      exact hk _ _ _ _ h.2 H1 locs1 rls h2 hS1 hl
    · exact h.elim
  · exact h.elim
def s_aald (nx : Nat) : Stf := fun k _ ls st σ => match st with
  | .int i :: .ref o :: r => match sh o with
    | some (.inr (.inr l)) => vp_in i l.length ∧ (match l[i.toNatClampNeg]? with
      | some j => k nx ls (.ref j :: r) σ
      | none => False)
    | _ => False
  | _ => False
theorem z_aald (hd : decode cc pc = .ok (.aaload, 1)) : Snd own cc nL ret R0 pc (s_aald (pc + 1)) := by
  intro G rt p l e R s m args below meth c Q C k hk ls st σ h H locs rls hP hS hl
  unfold s_aald at h
  split at h
  · rename_i i o r
    split at h
    · rename_i q hsh
      obtain ⟨h1, h⟩ := h
      split at h
      · rename_i j hj
        refine va_aldq (D := G.1) C.1.1 C.1.2.1 C.2.2.2.1.1 hP o 1 (wW_at hsh) rfl h1 hd ?_
        rw [hj]
        exact hk _ _ _ _ h H locs rls hP hS hl
      · exact h.elim
    · exact h.elim
  · exact h.elim
/-- the place of a static's row -/
def s_gets (g nx : Nat) : Stf := fun k _ ls st σ => k nx ls (.ref g :: st) σ
theorem z_getsK (ho : own = "MovingMarket$Square") (hd : decode cc pc = .ok (.getstatic 61, 3)) : Snd own cc nL ret R0 pc (s_gets 56 (pc + 3)) := by
  intro G rt p l e R s m args below meth c Q C k hk ls st σ h H locs rls hP hS hl
  subst ho
  exact va_getsN C.1.1 C.1.2.1 C.2.2.2.1.2.2.1.1.1 hS C.1.2.2.2.1 (va_Nw.use rfl C.2.2.2.1.2.2.2.2.2.1.1) (fun _ h => h) hd (hk _ _ _ _ h H locs rls hP hS hl)
theorem z_getsP (ho : own = "MovingMarket$Square") (hd : decode cc pc = .ok (.getstatic 64, 3)) : Snd own cc nL ret R0 pc (s_gets 57 (pc + 3)) := by
  intro G rt p l e R s m args below meth c Q C k hk ls st σ h H locs rls hP hS hl
  subst ho
  exact va_getsN C.1.1 C.1.2.1 C.2.2.2.1.2.2.1.2.1 hS C.1.2.2.2.1 (va_Nw.use rfl C.2.2.2.1.2.2.2.2.2.1.2) (fun _ h => h) hd (hk _ _ _ _ h H locs rls hP hS hl)
/-- System.arraycopy of ints -/
def s_copy (nx : Nat) : Stf := fun k _ ls st σ => match st with
  | .int n :: .int dp :: .ref o1 :: .int sp :: .ref o0 :: r => match sh o0, sh o1 with
    | some (.inr (.inl n0)), some (.inr (.inl n1)) => bif Nat.ble (r.map fun v => v.category).sum 8 then (¬ sp < 0 ∧ ¬ dp < 0 ∧ ¬ n < 0 ∧ sp.toNatClampNeg + n.toNatClampNeg ≤ n0 ∧ dp.toNatClampNeg + n.toNatClampNeg ≤ n1) ∧ k nx ls r (upr σ o1 (va_cpy (σ o0) (σ o1) sp.toNatClampNeg dp.toNatClampNeg n.toNatClampNeg)) else False
    | _, _ => False
  | _ => False
theorem sM_sum (ad : Nat → Nat) (r : List Value) : ((sM ad r).map fun v => v.category).sum = (r.map fun v => v.category).sum := by
  unfold sM
  rw [List.map_map]
  congr 1
  refine List.map_congr_left (fun v _ => ?_)
  exact vM_cat ad v
theorem z_copy {idx : Nat} (hd : decode cc pc = .ok (.invokestatic idx, 3)) (hw : Cond.methodLink own idx arraycopyName ∈ AW) (hnat : Cond.native arraycopyName ∈ AW) (hstat : Cond.static arraycopyName ∈ AW) (hini : Cond.initialized "java/lang/System" ∈ AW) (hR : 1 ≤ R0.frames ∧ 8 + (nativeFrameWords "java/lang/System" "arraycopy" 5 + 11) ≤ R0.locals) : Snd own cc nL ret R0 pc (s_copy (pc + 3)) := by
  intro G rt p l e R s m args below meth c Q C k hk ls st σ h H locs rls hP hS hl
  obtain ⟨⟨hx, hb, hml, hown, hts⟩, -, -, ⟨hK, hI, -⟩, hRR, -⟩ := C
  unfold s_copy at h
  split at h
  · rename_i n dp o1 sp o0 r
    split at h
    · rename_i n0 n1 h0 h1
      cases hq : Nat.ble (r.map fun v => v.category).sum 8 with
      | false => rw [hq] at h; exact h.elim
      | true =>
        rw [hq] at h
        obtain ⟨⟨a1, a2, a3, a4, a5⟩, h⟩ := h
        have hsum := Nat.le_of_ble_eq_true hq
        refine va_copyi (D := G.1) hx hb (hml.trans hl.1.symm) hown (hts _ hw) (hts _ hnat) (hts _ hstat) (hts _ hini) hK hP (wW_D hI) hS o0 o1 0 0 (wW_at h0) (wW_at h1) rfl rfl rfl a1 a2 a3 a4 a5 (fun _ _ => rfl) (by rw [hRR]; exact hR.1) (by rw [sM_sum, hRR]; omega) hd (fun H1 locs1 hP1 _ hS1 => ?_)
        have h2 : wP G (upr σ o1 (va_cpy (σ o0) (σ o1) sp.toNatClampNeg dp.toNatClampNeg n.toNatClampNeg)) H1 := by
          show va_P G.1 vwCl (wW G _) H1
          rw [← wW_set h1]
          exact hP1
        exact hk _ _ _ _ h H1 locs1 rls h2 hS1 hl
    · exact h.elim
  · exact h.elim
def s_min (nx : Nat) : Stf := fun k _ ls st σ => match st with
  | .int y :: .int x :: r => bif Nat.ble (r.map fun v => v.category).sum 8 then k nx ls (.int (if y < x then y else x) :: r) σ else False
  | _ => False
theorem z_min {idx : Nat} (hd : decode cc pc = .ok (.invokestatic idx, 3)) (hw : Cond.methodLink own idx Lib.Math.min.name ∈ AW) (hstat : Cond.static Lib.Math.min.name ∈ AW) (hini : Cond.initialized "java/lang/Math" ∈ AW) (hcode : Cond.code Lib.Math.min.name Lib.Math.min.code 2 (some .int) ∈ AW) (hR : 1 ≤ R0.frames ∧ 21 ≤ R0.locals) : Snd own cc nL ret R0 pc (s_min (pc + 3)) := by
  intro G rt p l e R s m args below meth c Q C k hk ls st σ h H locs rls hP hS hl
  obtain ⟨⟨hx, hb, hml, hown, hts⟩, -, -, -, hRR, -⟩ := C
  unfold s_min at h
  split at h
  · rename_i y x r
    cases hq : Nat.ble (r.map fun v => v.category).sum 8 with
    | false => rw [hq] at h; exact h.elim
    | true =>
      rw [hq] at h
      have hsum := Nat.le_of_ble_eq_true hq
      exact va_mmin hx hb (hml.trans hl.1.symm) hown (hts _ hw) (hts _ hstat) (hts _ hini) (hts _ hcode) (by rw [hRR]; exact hR.1) (by rw [sM_sum, hRR]; omega) (Nat.zero_le _) (Nat.zero_le _) hd (hk _ _ _ _ h H locs rls hP hS hl)
  · exact h.elim
def s_max (nx : Nat) : Stf := fun k _ ls st σ => match st with
  | .int y :: .int x :: r => bif Nat.ble (r.map fun v => v.category).sum 8 then k nx ls (.int (if x < y then y else x) :: r) σ else False
  | _ => False
theorem z_max {idx : Nat} (hd : decode cc pc = .ok (.invokestatic idx, 3)) (hw : Cond.methodLink own idx Lib.Math.max.name ∈ AW) (hstat : Cond.static Lib.Math.max.name ∈ AW) (hini : Cond.initialized "java/lang/Math" ∈ AW) (hcode : Cond.code Lib.Math.max.name Lib.Math.max.code 2 (some .int) ∈ AW) (hR : 1 ≤ R0.frames ∧ 21 ≤ R0.locals) : Snd own cc nL ret R0 pc (s_max (pc + 3)) := by
  intro G rt p l e R s m args below meth c Q C k hk ls st σ h H locs rls hP hS hl
  obtain ⟨⟨hx, hb, hml, hown, hts⟩, -, -, -, hRR, -⟩ := C
  unfold s_max at h
  split at h
  · rename_i y x r
    cases hq : Nat.ble (r.map fun v => v.category).sum 8 with
    | false => rw [hq] at h; exact h.elim
    | true =>
      rw [hq] at h
      have hsum := Nat.le_of_ble_eq_true hq
      exact va_mmax hx hb (hml.trans hl.1.symm) hown (hts _ hw) (hts _ hstat) (hts _ hini) (hts _ hcode) (by rw [hRR]; exact hR.1) (by rw [sM_sum, hRR]; omega) (Nat.zero_le _) (Nat.zero_le _) hd (hk _ _ _ _ h H locs rls hP hS hl)
  · exact h.elim
def argsV : Nat → List Value → List Value → Option (List Value × Nat × List Value)
  | 0, acc, .ref o :: r => some (acc, o, r)
  | 0, _, _ => none
  | n + 1, acc, a :: r => argsV n (a :: acc) r
  | _ + 1, _, [] => none
def argsS : Nat → List Value → List Value → Option (List Value × List Value)
  | 0, acc, r => some (acc, r)
  | n + 1, acc, a :: r => argsS n (a :: acc) r
  | _ + 1, _, [] => none
theorem argsV_spec : ∀ (n : Nat) (acc st As : List Value) (o : Nat) (r : List Value), argsV n acc st = some (As, o, r) → acc.reverse ++ st = As.reverse ++ .ref o :: r ∧ As.length = n + acc.length
  | 0, acc, st, As, o, r, h => by
    unfold argsV at h
    split at h
    · cases h; exact ⟨rfl, by omega⟩
    · cases h
    · first | contradiction | omega
    · first | contradiction | omega
  | n + 1, acc, [], As, o, r, h => by cases h
  | n + 1, acc, a :: st, As, o, r, h => by
    obtain ⟨h1, h2⟩ := argsV_spec n (a :: acc) st As o r h
    exact ⟨by rw [← h1]; simp, by rw [h2, List.length_cons]; omega⟩
theorem argsS_spec : ∀ (n : Nat) (acc st As : List Value) (r : List Value), argsS n acc st = some (As, r) → acc.reverse ++ st = As.reverse ++ r ∧ As.length = n + acc.length
  | 0, acc, st, As, r, h => by cases h; exact ⟨rfl, by omega⟩
  | n + 1, acc, [], As, r, h => by cases h
  | n + 1, acc, a :: st, As, r, h => by
    obtain ⟨h1, h2⟩ := argsS_spec n (a :: acc) st As r h
    exact ⟨by rw [← h1]; simp, by rw [h2, List.length_cons]; omega⟩
/-- a call of a method of n arguments on an object of class ci -/
def s_inv (M : MI) (ci n nx : Nat) : Stf := fun k _ ls st σ => match argsV n [] st with
  | some (As, o, r) => match sh o with
    | some (.inl (c', _)) => bif Nat.beq ci c' && Nat.ble (r.map fun v => v.category).sum 8 then ∃ rt', Ct M (.ref o :: As) σ rt' ∧ ∀ v σ', rt' v σ' → k nx ls (v.toList ++ r) σ' else False
    | _ => False
  | none => False
theorem vM_toList (ad : Nat → Nat) (v : Option Value) (r : List Value) : (v.map (vM ad)).toList ++ sM ad r = sM ad (v.toList ++ r) := by cases v <;> rfl
theorem good_code {y : MethodName} {b : ByteArray} {n : Nat} {r : Option FieldType} : goodWord (.code y b n r) = true := rfl
theorem GoodIn_wsM {M : MI} (hc : Cond.code M.1 M.2.1 M.2.2.1 M.2.2.2.1 ∈ AW) : GoodIn AW (wsM M) := by
  intro w hw
  have h : w ∈ AW := by
    rcases List.mem_cons.mp hw with rfl | h
    · exact hc
    · exact h
  exact ⟨h, good_of_word (List.mem_filter.mp h).2⟩
theorem GoodIn_one {w : Cond} (h : w ∈ AW) : w ∈ AW ∧ ((w.onTables && w.keeps) = true ∨ ∃ ty, w = .arrayClass ty) := ⟨h, good_of_word (List.mem_filter.mp h).2⟩
theorem z_inv {M : MI} {ci n idx N : Nat} {C : String} {T : u_T} (hc : vwCl[ci]? = some (C, T, N)) (hd : decode cc pc = .ok (.invokevirtual idx, 3)) (w1 : Cond.methodLink own idx M.1 ∈ AW) (w2 : Cond.instanceMethod M.1 ∈ AW) (w3 : Cond.selects C M.1 M.1 ∈ AW) (w4 : Cond.initialized C ∈ AW) (w5 : Cond.code M.1 M.2.1 M.2.2.1 M.2.2.2.1 ∈ AW)
    (hdd : M.1.cls = C ∧ M.1.cls ≠ "java/lang/invoke/MethodHandle" ∧ M.1.cls ≠ "java/lang/invoke/VarHandle" ∧ (parseMethodDescriptor M.1.desc).map (fun d => d.parameters.length) = some n) (hR : M.2.2.2.2.1 + 1 ≤ R0.frames ∧ 8 + (M.2.2.1 + 11) + M.2.2.2.2.2 ≤ R0.locals) : Snd own cc nL ret R0 pc (s_inv M ci n (pc + 3)) := by
  intro G rt p l e R s m args below meth c Q C0 k hk ls st σ h H locs rls hP hS hl
  obtain ⟨C1, hret, hlk, ⟨hK, hI, hG⟩, hRR, hQ⟩ := C0
  unfold s_inv at h
  split at h
  · rename_i As o r ha
    obtain ⟨hst, hlen⟩ := argsV_spec n [] st As o r ha
    rw [List.reverse_nil, List.nil_append] at hst
    subst hst
    split at h
    · rename_i c' fs hsh
      cases hb : (Nat.beq ci c' && Nat.ble (r.map fun v => v.category).sum 8) with
      | false => rw [hb] at h; exact h.elim
      | true =>
        rw [hb] at h
        obtain ⟨hb1, hb2⟩ := Bool.and_eq_true_iff.mp hb
        have hcc := Nat.eq_of_beq_eq_true hb1
        subst hcc
        obtain ⟨rt', hM, h⟩ := h
        have hg : GoodIn AW (wsV own idx C M.1 (wsM M)) := by
          intro w hw
          rcases List.mem_append.mp hw with hw | hw
          · simp only [List.mem_cons, List.not_mem_nil, or_false] at hw
            rcases hw with rfl | rfl | rfl | rfl
            · exact GoodIn_one w1
            · exact GoodIn_one w2
            · exact GoodIn_one w3
            · exact GoodIn_one w4
          · exact GoodIn_wsM w5 w hw
        have hst2 : sM (ga G) (As.reverse ++ .ref o :: r) = (sM (ga G) As).reverse ++ .ref (ga G o) :: sM (ga G) r := by
          unfold sM
          rw [List.map_append, List.map_reverse]
          rfl
        rw [hst2]
        refine callG (rt := rt') (va_runV (As := sM (ga G) As) (rest := sM (ga G) r) (b := ga G o) C1 (hM l G) (cwV n C1.2.2.2.2 hg rfl rfl rfl hdd (by rw [hRR]; exact hR)) ⟨PRE_blind, va_recv hK hP hc (wW_at hsh), fun U hU hW => ⟨rfl, by rw [hU]; exact hP, va_K.moved hW.alike hK, hI, ?_⟩⟩ rfl (by rw [List.length_map, hlen]; rfl) hl.1 rfl (lv_room (by rw [sM_sum]; exact Nat.le_of_ble_eq_true hb2)) hd ⟨Nat.zero_le _, Nat.zero_le _⟩) hS (fun _ q => q) (fun v σ' H1 locs1 hv hP1 hS1 => ?_)
        · rw [hU]
          exact GLb.warm hW (GLb.kept hS.1 hS.2.1 hG)
        · rw [vM_toList]
          exact hk _ _ _ _ (h v σ' hv) H1 locs1 rls hP1 hS1 hl
    · exact h.elim
  · exact h.elim
/-- a call of a static method of n arguments -/
def s_invS (M : MI) (n nx : Nat) : Stf := fun k _ ls st σ => match argsS n [] st with
  | some (As, r) => bif Nat.ble (r.map fun v => v.category).sum 8 then ∃ rt', Ct M As σ rt' ∧ ∀ v σ', rt' v σ' → k nx ls (v.toList ++ r) σ' else False
  | none => False
theorem z_invS {M : MI} {n idx : Nat} (hd : decode cc pc = .ok (.invokestatic idx, 3)) (w1 : Cond.methodLink own idx M.1 ∈ AW) (w2 : Cond.static M.1 ∈ AW) (w4 : Cond.initialized M.1.cls ∈ AW) (w5 : Cond.code M.1 M.2.1 M.2.2.1 M.2.2.2.1 ∈ AW)
    (hdd : M.1.cls ≠ "java/lang/invoke/MethodHandle" ∧ M.1.cls ≠ "java/lang/invoke/VarHandle" ∧ (parseMethodDescriptor M.1.desc).map (fun d => d.parameters.length) = some n) (hR : M.2.2.2.2.1 + 1 ≤ R0.frames ∧ 8 + (M.2.2.1 + 11) + M.2.2.2.2.2 ≤ R0.locals) : Snd own cc nL ret R0 pc (s_invS M n (pc + 3)) := by
  intro G rt p l e R s m args below meth c Q C0 k hk ls st σ h H locs rls hP hS hl
  obtain ⟨C1, hret, hlk, ⟨hK, hI, hG⟩, hRR, hQ⟩ := C0
  unfold s_invS at h
  split at h
  · rename_i As r ha
    obtain ⟨hst, hlen⟩ := argsS_spec n [] st As r ha
    rw [List.reverse_nil, List.nil_append] at hst
    subst hst
    cases hb : Nat.ble (r.map fun v => v.category).sum 8 with
    | false => rw [hb] at h; exact h.elim
    | true =>
      rw [hb] at h
      obtain ⟨rt', hM, h⟩ := h
      have hst2 : sM (ga G) (As.reverse ++ r) = (sM (ga G) As).reverse ++ sM (ga G) r := by
        unfold sM
        rw [List.map_append, List.map_reverse]
      rw [hst2]
      refine callG (rt := rt') (va_runS (As := sM (ga G) As) (rest := sM (ga G) r) C1 (hM l G) ⟨callB_of n C1.2.2.2.2 (GoodIn_wsM w5) rfl rfl rfl (C1.2.2.2.2 _ w4) (C1.2.2.2.2 _ w1) hdd (by rw [hRR]; exact hR), C1.2.2.2.2 _ w2⟩ ⟨PRE_blind, fun U hU hW => ⟨rfl, by rw [hU]; exact hP, va_K.moved hW.alike hK, hI, ?_⟩⟩ rfl (by rw [List.length_map, hlen]; rfl) hl.1 rfl (lv_room (by rw [sM_sum]; exact Nat.le_of_ble_eq_true hb)) hd ⟨Nat.zero_le _, Nat.zero_le _⟩) hS (fun _ q => q) (fun v σ' H1 locs1 hv hP1 hS1 => ?_)
      · rw [hU]
        exact GLb.warm hW (GLb.kept hS.1 hS.2.1 hG)
      · rw [vM_toList]
        exact hk _ _ _ _ (h v σ' hv) H1 locs1 rls hP1 hS1 hl
  · exact h.elim
/-- ends -/
def s_iret : Stf := fun _ rt _ st σ => match st with
  | [.int x] => rt (some (.int x)) σ
  | _ => False
theorem z_iret (hr : ret = some .int) (hd : decode cc pc = .ok (.ireturn, 1)) : Snd own cc nL ret R0 pc s_iret := by
  intro G rt p l e R s m args below meth c Q C k hk ls st σ h H locs rls hP hS hl
  obtain ⟨⟨hx, hb, hml, hown, hts⟩, hret, hlk, -, hRR, hQ⟩ := C
  unfold s_iret at h
  split at h
  · rename_i x
    subst hQ
    exact W.iret (v := x) hx hb (hret.trans hr) (fun t ht hW => ⟨⟨some (.int x), σ, rfl, h, by rw [ht]; exact hP⟩, hS.F ht⟩) hS.2.2 hd
  · exact h.elim
def bz (x : Int32) : Prop := x = 0 ∨ x = 1
def s_zret : Stf := fun _ rt _ st σ => match st with
  | [.int x] => bz x ∧ rt (some (.int x)) σ
  | _ => False
theorem bz_nar {x : Int32} (h : bz x) : narrow .boolean (.int x) = .int x := by
  rcases h with rfl | rfl <;> rfl
theorem z_zret (hr : ret = some .boolean) (hd : decode cc pc = .ok (.ireturn, 1)) : Snd own cc nL ret R0 pc s_zret := by
  intro G rt p l e R s m args below meth c Q C k hk ls st σ h H locs rls hP hS hl
  obtain ⟨⟨hx, hb, hml, hown, hts⟩, hret, hlk, -, hRR, hQ⟩ := C
  unfold s_zret at h
  split at h
  · rename_i x
    subst hQ
    exact W.zret (v := x) hx hb (hret.trans hr) (bz_nar h.1) (fun t ht hW => ⟨⟨some (.int x), σ, rfl, h.2, by rw [ht]; exact hP⟩, hS.F ht⟩) hS.2.2 hd
  · exact h.elim
def s_vret : Stf := fun _ rt _ st σ => match st with
  | [] => rt none σ
  | _ => False
theorem z_vret (hr : ret = none) (hd : decode cc pc = .ok (.return_, 1)) : Snd own cc nL ret R0 pc s_vret := by
  intro G rt p l e R s m args below meth c Q C k hk ls st σ h H locs rls hP hS hl
  obtain ⟨⟨hx, hb, hml, hown, hts⟩, hret, hlk, -, hRR, hQ⟩ := C
  unfold s_vret at h
  split at h
  · subst hQ
    exact W.vret hx hb (hret.trans hr) (fun t ht hW => ⟨⟨none, σ, rfl, h, by rw [ht]; exact hP⟩, hS.F ht⟩) hS.2.2 hd
  · exact h.elim
def s_lret : Stf := fun _ rt _ st σ => match st with
  | [.long x] => rt (some (.long x)) σ
  | _ => False
theorem z_lret (hr : ret = some .long) (hd : decode cc pc = .ok (.lreturn, 1)) : Snd own cc nL ret R0 pc s_lret := by
  intro G rt p l e R s m args below meth c Q C k hk ls st σ h H locs rls hP hS hl
  obtain ⟨⟨hx, hb, hml, hown, hts⟩, hret, hlk, -, hRR, hQ⟩ := C
  unfold s_lret at h
  split at h
  · rename_i x
    subst hQ
    exact W.lret (v := x) hx hb (hret.trans hr) (fun t ht hW => ⟨⟨some (.long x), σ, rfl, h, by rw [ht]; exact hP⟩, hS.F ht⟩) hS.2.2 hd
  · exact h.elim
def s_aret : Stf := fun _ rt _ st σ => match st with
  | [.ref x] => rt (some (.ref x)) σ
  | _ => False
theorem z_aret {n : String} (hr : ret = some (.object n)) (hd : decode cc pc = .ok (.areturn, 1)) : Snd own cc nL ret R0 pc s_aret := by
  intro G rt p l e R s m args below meth c Q C k hk ls st σ h H locs rls hP hS hl
  obtain ⟨⟨hx, hb, hml, hown, hts⟩, hret, hlk, -, hRR, hQ⟩ := C
  unfold s_aret at h
  split at h
  · rename_i x
    subst hQ
    exact W.aret (v := .ref (ga G x)) hx hb (hret.trans hr) (Or.inl ⟨n, rfl⟩) (Or.inr ⟨_, rfl⟩) (fun t ht hW => ⟨⟨some (.ref x), σ, rfl, h, by rw [ht]; exact hP⟩, hS.F ht⟩) hS.2.2 hd
  · exact h.elim
end ST
/-- behind a call with its exact end -/
theorem cl {M : MI} {As : List Value} {σ σ' : Sg} {v : Option Value} {k : Kt} {nx : Nat} {ls : Lcs} {r : List Value} (c : Ct M As σ (Ex v σ')) (h : k nx ls (v.toList ++ r) σ') : ∃ rt', Ct M As σ rt' ∧ ∀ v σ', rt' v σ' → k nx ls (v.toList ++ r) σ' := ⟨_, c, fun a b hab => by rw [hab.1, hab.2]; exact h⟩
end
section
/-! THE METHODS: name, code, words of locals, answer, room -/
abbrev mJ0_length_8abf5 : MI := (yJ0_length_8abf5, cJ0_length_8abf5, 1, (some .int), 4, 110)
abbrev mJ0_charAt_5068e : MI := (yJ0_charAt_5068e, cJ0_charAt_5068e, 2, (some .char), 4, 110)
abbrev mJ7_fill_53178 : MI := (yJ7_fill_53178, cJ7_fill_53178, 4, none, 0, 0)
abbrev mJ9_floorMod_7cf53 : MI := (yJ9_floorMod_7cf53, cJ9_floorMod_7cf53, 3, (some .int), 0, 0)
abbrev mX0_advance : MI := (yX0_advance, cX0_advance, 5, none, 1, 23)
abbrev mX0_become : MI := (yX0_become, cX0_become, 2, none, 1, 26)
abbrev mX0_begin : MI := (yX0_begin, cX0_begin, 4, (some .int), 0, 0)
abbrev mX0_exchangeTaken : MI := (yX0_exchangeTaken, cX0_exchangeTaken, 4, none, 0, 0)
abbrev mX1_begin : MI := (yX1_begin, cX1_begin, 3, none, 1, 23)
abbrev mX1_hasPart : MI := (yX1_hasPart, cX1_hasPart, 3, (some .boolean), 0, 0)
abbrev mX1_put : MI := (yX1_put, cX1_put, 3, none, 0, 0)
abbrev mX2_addStall : MI := (yX2_addStall, cX2_addStall, 4, (some .int), 0, 0)
abbrev mX2_allCoin : MI := (yX2_allCoin, cX2_allCoin, 3, (some .int), 0, 0)
abbrev mX2_allGoods : MI := (yX2_allGoods, cX2_allGoods, 3, (some .int), 0, 0)
abbrev mX2_allVisits : MI := (yX2_allVisits, cX2_allVisits, 3, (some .int), 0, 0)
abbrev mX2_areBeside : MI := (yX2_areBeside, cX2_areBeside, 4, (some .boolean), 1, 22)
abbrev mX2_become : MI := (yX2_become, cX2_become, 2, none, 1, 26)
abbrev mX2_besideSet : MI := (yX2_besideSet, cX2_besideSet, 4, (some .int), 2, 45)
abbrev mX2_bring : MI := (yX2_bring, cX2_bring, 4, none, 1, 22)
abbrev mX2_draw : MI := (yX2_draw, cX2_draw, 1, (some .int), 0, 0)
abbrev mX2_exchange : MI := (yX2_exchange, cX2_exchange, 4, none, 0, 0)
abbrev mX2_freePlaces : MI := (yX2_freePlaces, cX2_freePlaces, 1, (some .int), 1, 23)
abbrev mX2_isOfKind : MI := (yX2_isOfKind, cX2_isOfKind, 5, (some .boolean), 0, 0)
abbrev mX2_offerAt : MI := (yX2_offerAt, cX2_offerAt, 3, (some .int), 1, 21)
abbrev mX2_passHour : MI := (yX2_passHour, cX2_passHour, 2, (some .int), 3, 66)
abbrev mX2_passHours : MI := (yX2_passHours, cX2_passHours, 4, (some .int), 4, 87)
abbrev mX2_placesOf : MI := (yX2_placesOf, cX2_placesOf, 4, (some .int), 0, 0)
abbrev mX2_priceOf : MI := (yX2_priceOf, cX2_priceOf, 2, (some .int), 0, 0)
abbrev mX2_sellAll : MI := (yX2_sellAll, cX2_sellAll, 4, (some .int), 2, 43)
abbrev mX2_soldOut : MI := (yX2_soldOut, cX2_soldOut, 3, (some .int), 0, 0)
abbrev mX2_spotsInUse : MI := (yX2_spotsInUse, cX2_spotsInUse, 3, (some .int), 0, 0)
abbrev mX2_stallAt : MI := (yX2_stallAt, cX2_stallAt, 3, (some .int), 0, 0)
abbrev mX2_standsLike : MI := (yX2_standsLike, cX2_standsLike, 3, (some .boolean), 0, 0)
abbrev mX2_stayers : MI := (yX2_stayers, cX2_stayers, 3, (some .int), 1, 21)
abbrev mX2_stepsFrom : MI := (yX2_stepsFrom, cX2_stepsFrom, 4, (some .int), 0, 0)
abbrev mX2_strike : MI := (yX2_strike, cX2_strike, 4, none, 2, 43)
abbrev mX2_twofoldVisits : MI := (yX2_twofoldVisits, cX2_twofoldVisits, 2, (some .int), 0, 0)
abbrev mX2_wouldGo : MI := (yX2_wouldGo, cX2_wouldGo, 2, (some .boolean), 0, 0)
abbrev mX3_isBetween : MI := (yX3_isBetween, cX3_isBetween, 4, (some .boolean), 0, 0)
abbrev mX3_isNumber : MI := (yX3_isNumber, cX3_isNumber, 3, (some .boolean), 0, 0)
abbrev mX3_isWord : MI := (yX3_isWord, cX3_isWord, 3, (some .boolean), 5, 131)
abbrev mX3_kindOfWord : MI := (yX3_kindOfWord, cX3_kindOfWord, 2, (some .int), 6, 153)
abbrev mX3_put : MI := (yX3_put, cX3_put, 2, none, 0, 0)
abbrev mX3_readItem : MI := (yX3_readItem, cX3_readItem, 3, (some .boolean), 7, 177)
abbrev mX3_readOn : MI := (yX3_readOn, cX3_readOn, 1, none, 2, 45)
abbrev mX3_readRun : MI := (yX3_readRun, cX3_readRun, 3, none, 1, 23)
abbrev mX3_readShade : MI := (yX3_readShade, cX3_readShade, 3, (some .boolean), 3, 65)
abbrev mX3_readSpring : MI := (yX3_readSpring, cX3_readSpring, 2, (some .boolean), 3, 65)
abbrev mX3_readStall : MI := (yX3_readStall, cX3_readStall, 4, (some .boolean), 6, 153)
abbrev mX3_readText : MI := (yX3_readText, cX3_readText, 3, (some .int), 8, 199)
abbrev mX3_readVisits : MI := (yX3_readVisits, cX3_readVisits, 5, (some .boolean), 6, 153)
abbrev mX3_valueOfRun : MI := (yX3_valueOfRun, cX3_valueOfRun, 3, (some .int), 0, 0)
abbrev mX3_wordOfKind : MI := (yX3_wordOfKind, cX3_wordOfKind, 1, (some (.object "java/lang/String")), 0, 0)
abbrev mX4_again : MI := (yX4_again, cX4_again, 3, (some .int), 4, 87)
abbrev mX4_ahead : MI := (yX4_ahead, cX4_ahead, 5, (some .int), 5, 110)
abbrev mX4_aheadFinding : MI := (yX4_aheadFinding, cX4_aheadFinding, 5, (some .int), 1, 21)
abbrev mX4_as : MI := (yX4_as, cX4_as, 4, (some .int), 1, 24)
abbrev mX4_beside : MI := (yX4_beside, cX4_beside, 2, (some .int), 3, 68)
abbrev mX4_best : MI := (yX4_best, cX4_best, 8, (some .int), 6, 133)
abbrev mX4_change : MI := (yX4_change, cX4_change, 5, (some .int), 1, 21)
abbrev mX4_coinFrom : MI := (yX4_coinFrom, cX4_coinFrom, 4, (some .int), 5, 110)
abbrev mX4_copy : MI := (yX4_copy, cX4_copy, 8, (some .int), 1, 26)
abbrev mX4_count : MI := (yX4_count, cX4_count, 2, (some .int), 1, 22)
abbrev mX4_dawn : MI := (yX4_dawn, cX4_dawn, 7, (some .int), 5, 110)
abbrev mX4_deal : MI := (yX4_deal, cX4_deal, 5, (some .int), 6, 133)
abbrev mX4_empty : MI := (yX4_empty, cX4_empty, 4, (some .int), 4, 87)
abbrev mX4_ever : MI := (yX4_ever, cX4_ever, 6, (some .int), 4, 87)
abbrev mX4_feed : MI := (yX4_feed, cX4_feed, 4, (some .int), 1, 21)
abbrev mX4_finding : MI := (yX4_finding, cX4_finding, 2, (some .int), 0, 0)
abbrev mX4_firstBeside : MI := (yX4_firstBeside, cX4_firstBeside, 5, (some .int), 4, 87)
abbrev mX4_fit : MI := (yX4_fit, cX4_fit, 7, (some .int), 5, 112)
abbrev mX4_hold : MI := (yX4_hold, cX4_hold, 3, (some .int), 1, 21)
abbrev mX4_hours : MI := (yX4_hours, cX4_hours, 3, (some .int), 5, 110)
abbrev mX4_image : MI := (yX4_image, cX4_image, 1, (some .int), 2, 47)
abbrev mX4_isKind : MI := (yX4_isKind, cX4_isKind, 1, (some .boolean), 0, 0)
abbrev mX4_isPair : MI := (yX4_isPair, cX4_isPair, 3, (some .boolean), 1, 21)
abbrev mX4_isPlace : MI := (yX4_isPlace, cX4_isPlace, 1, (some .boolean), 0, 0)
abbrev mX4_isSheet : MI := (yX4_isSheet, cX4_isSheet, 1, (some .boolean), 0, 0)
abbrev mX4_isSpot : MI := (yX4_isSpot, cX4_isSpot, 1, (some .boolean), 0, 0)
abbrev mX4_isStall : MI := (yX4_isStall, cX4_isStall, 2, (some .boolean), 0, 0)
abbrev mX4_judge : MI := (yX4_judge, cX4_judge, 6, (some .int), 5, 110)
abbrev mX4_lastWordHour : MI := (yX4_lastWordHour, cX4_lastWordHour, 5, (some .int), 1, 21)
abbrev mX4_load : MI := (yX4_load, cX4_load, 5, (some .int), 2, 42)
abbrev mX4_lots : MI := (yX4_lots, cX4_lots, 5, (some .int), 1, 23)
abbrev mX4_meet : MI := (yX4_meet, cX4_meet, 5, (some .int), 5, 111)
abbrev mX4_most : MI := (yX4_most, cX4_most, 3, (some .int), 6, 135)
abbrev mX4_never : MI := (yX4_never, cX4_never, 8, (some .int), 5, 111)
abbrev mX4_of : MI := (yX4_of, cX4_of, 3, (some .int), 1, 21)
abbrev mX4_offers : MI := (yX4_offers, cX4_offers, 3, (some .int), 2, 43)
abbrev mX4_order : MI := (yX4_order, cX4_order, 4, (some .int), 6, 135)
abbrev mX4_orderFinding : MI := (yX4_orderFinding, cX4_orderFinding, 5, (some .int), 2, 45)
abbrev mX4_passes : MI := (yX4_passes, cX4_passes, 4, (some .int), 3, 66)
abbrev mX4_placeOf : MI := (yX4_placeOf, cX4_placeOf, 3, (some .int), 1, 22)
abbrev mX4_searchMost : MI := (yX4_searchMost, cX4_searchMost, 6, (some .int), 5, 110)
abbrev mX4_seed : MI := (yX4_seed, cX4_seed, 3, (some .int), 0, 0)
abbrev mX4_shade : MI := (yX4_shade, cX4_shade, 4, (some .int), 1, 21)
abbrev mX4_sheet : MI := (yX4_sheet, cX4_sheet, 4, (some .int), 2, 45)
abbrev mX4_sheetFinding : MI := (yX4_sheetFinding, cX4_sheetFinding, 2, (some .int), 1, 21)
abbrev mX4_spring : MI := (yX4_spring, cX4_spring, 3, (some .int), 1, 21)
abbrev mX4_stall : MI := (yX4_stall, cX4_stall, 3, (some .int), 1, 23)
abbrev mX4_status : MI := (yX4_status, cX4_status, 4, (some .int), 1, 21)
abbrev mX4_stay : MI := (yX4_stay, cX4_stay, 1, (some .int), 3, 66)
abbrev mX4_swap : MI := (yX4_swap, cX4_swap, 3, (some .int), 1, 23)
abbrev mX4_swapAhead : MI := (yX4_swapAhead, cX4_swapAhead, 4, none, 5, 110)
abbrev mX4_tear : MI := (yX4_tear, cX4_tear, 2, (some .int), 0, 0)
abbrev mX4_text : MI := (yX4_text, cX4_text, 2, (some .int), 9, 221)
abbrev mX4_there : MI := (yX4_there, cX4_there, 5, (some .int), 5, 110)
abbrev mX4_thief : MI := (yX4_thief, cX4_thief, 5, (some .int), 5, 110)
abbrev mX4_throwAway : MI := (yX4_throwAway, cX4_throwAway, 7, (some .int), 5, 110)
abbrev mX4_tryOrder : MI := (yX4_tryOrder, cX4_tryOrder, 2, none, 2, 47)
abbrev mX4_undo : MI := (yX4_undo, cX4_undo, 1, (some .int), 2, 47)
abbrev mX4_visits : MI := (yX4_visits, cX4_visits, 4, (some .int), 1, 21)
abbrev mX4_when : MI := (yX4_when, cX4_when, 5, (some .int), 4, 87)
abbrev mX4_wipe : MI := (yX4_wipe, cX4_wipe, 2, (some .int), 0, 0)
abbrev mX4_wishes : MI := (yX4_wishes, cX4_wishes, 7, (some .int), 6, 133)
abbrev mX4_wordsAreSo : MI := (yX4_wordsAreSo, cX4_wordsAreSo, 6, (some .boolean), 4, 87)
abbrev mX4_worth : MI := (yX4_worth, cX4_worth, 6, (some .int), 6, 133)
abbrev mX4_write : MI := (yX4_write, cX4_write, 5, (some .int), 2, 42)
abbrev mX5_again : MI := (yX5_again, cX5_again, 5, (some .int), 6, 138)
abbrev mX5_ahead : MI := (yX5_ahead, cX5_ahead, 5, (some .int), 7, 161)
abbrev mX5_as : MI := (yX5_as, cX5_as, 6, (some .int), 2, 43)
abbrev mX5_at : MI := (yX5_at, cX5_at, 2, (some .int), 0, 0)
abbrev mX5_beside : MI := (yX5_beside, cX5_beside, 2, (some .int), 4, 89)
abbrev mX5_besideSet : MI := (yX5_besideSet, cX5_besideSet, 4, (some .int), 3, 66)
abbrev mX5_best : MI := (yX5_best, cX5_best, 7, (some .int), 9, 210)
abbrev mX5_bestOrder : MI := (yX5_bestOrder, cX5_bestOrder, 6, (some .int), 7, 161)
abbrev mX5_byteAt : MI := (yX5_byteAt, cX5_byteAt, 2, (some .int), 0, 0)
abbrev mX5_change : MI := (yX5_change, cX5_change, 5, (some .int), 2, 46)
abbrev mX5_coinOf : MI := (yX5_coinOf, cX5_coinOf, 5, (some .int), 7, 161)
abbrev mX5_copy : MI := (yX5_copy, cX5_copy, 7, (some .int), 2, 45)
abbrev mX5_count : MI := (yX5_count, cX5_count, 2, (some .int), 3, 66)
abbrev mX5_dawn : MI := (yX5_dawn, cX5_dawn, 8, (some .int), 7, 161)
abbrev mX5_deal : MI := (yX5_deal, cX5_deal, 8, (some .int), 8, 185)
abbrev mX5_draw : MI := (yX5_draw, cX5_draw, 1, (some .int), 0, 0)
abbrev mX5_empty : MI := (yX5_empty, cX5_empty, 4, (some .int), 6, 138)
abbrev mX5_emptySet : MI := (yX5_emptySet, cX5_emptySet, 3, (some .int), 2, 43)
abbrev mX5_ever : MI := (yX5_ever, cX5_ever, 6, (some .int), 6, 138)
abbrev mX5_everyPlace : MI := (yX5_everyPlace, cX5_everyPlace, 1, (some .int), 3, 66)
abbrev mX5_farFrom : MI := (yX5_farFrom, cX5_farFrom, 3, (some .int), 1, 21)
abbrev mX5_feed : MI := (yX5_feed, cX5_feed, 4, (some .int), 1, 25)
abbrev mX5_finds : MI := (yX5_finds, cX5_finds, 2, (some .int), 0, 0)
abbrev mX5_firstOrder : MI := (yX5_firstOrder, cX5_firstOrder, 2, none, 0, 0)
abbrev mX5_fit : MI := (yX5_fit, cX5_fit, 8, (some .int), 6, 138)
abbrev mX5_freePlace : MI := (yX5_freePlace, cX5_freePlace, 3, none, 4, 88)
abbrev mX5_has : MI := (yX5_has, cX5_has, 2, (some .boolean), 0, 0)
abbrev mX5_held : MI := (yX5_held, cX5_held, 3, (some .int), 0, 0)
abbrev mX5_hold : MI := (yX5_hold, cX5_hold, 3, (some .int), 2, 46)
abbrev mX5_hour : MI := (yX5_hour, cX5_hour, 6, (some .int), 5, 113)
abbrev mX5_hours : MI := (yX5_hours, cX5_hours, 2, (some .int), 7, 161)
abbrev mX5_hoursGo : MI := (yX5_hoursGo, cX5_hoursGo, 4, (some .int), 6, 138)
abbrev mX5_image : MI := (yX5_image, cX5_image, 2, (some .int), 0, 0)
abbrev mX5_in : MI := (yX5_in, cX5_in, 6, (some .boolean), 0, 0)
abbrev mX5_isBeside : MI := (yX5_isBeside, cX5_isBeside, 4, (some .boolean), 2, 43)
abbrev mX5_isDays : MI := (yX5_isDays, cX5_isDays, 1, (some .boolean), 1, 25)
abbrev mX5_isDigit : MI := (yX5_isDigit, cX5_isDigit, 1, (some .boolean), 1, 25)
abbrev mX5_isGoing : MI := (yX5_isGoing, cX5_isGoing, 4, (some .boolean), 2, 43)
abbrev mX5_isLetter : MI := (yX5_isLetter, cX5_isLetter, 1, (some .boolean), 1, 25)
abbrev mX5_isOne : MI := (yX5_isOne, cX5_isOne, 1, (some .boolean), 1, 25)
abbrev mX5_isPlace : MI := (yX5_isPlace, cX5_isPlace, 1, (some .boolean), 1, 25)
abbrev mX5_isSo : MI := (yX5_isSo, cX5_isSo, 5, (some .boolean), 2, 43)
abbrev mX5_isSpan : MI := (yX5_isSpan, cX5_isSpan, 1, (some .boolean), 1, 25)
abbrev mX5_isStall : MI := (yX5_isStall, cX5_isStall, 2, (some .boolean), 1, 25)
abbrev mX5_isTooLate : MI := (yX5_isTooLate, cX5_isTooLate, 2, (some .boolean), 0, 0)
abbrev mX5_isTwo : MI := (yX5_isTwo, cX5_isTwo, 3, (some .boolean), 2, 46)
abbrev mX5_item : MI := (yX5_item, cX5_item, 4, none, 7, 161)
abbrev mX5_its : MI := (yX5_its, cX5_its, 3, (some .int), 1, 21)
abbrev mX5_judge : MI := (yX5_judge, cX5_judge, 6, (some .int), 7, 161)
abbrev mX5_kindHere : MI := (yX5_kindHere, cX5_kindHere, 3, (some .int), 3, 68)
abbrev mX5_lays : MI := (yX5_lays, cX5_lays, 2, none, 1, 21)
abbrev mX5_load : MI := (yX5_load, cX5_load, 4, (some .int), 3, 66)
abbrev mX5_lots : MI := (yX5_lots, cX5_lots, 4, (some .int), 3, 66)
abbrev mX5_meet : MI := (yX5_meet, cX5_meet, 5, (some .int), 6, 138)
abbrev mX5_most : MI := (yX5_most, cX5_most, 3, (some .int), 8, 186)
abbrev mX5_narrowed : MI := (yX5_narrowed, cX5_narrowed, 2, (some .int), 0, 0)
abbrev mX5_needs : MI := (yX5_needs, cX5_needs, 2, none, 3, 67)
abbrev mX5_never : MI := (yX5_never, cX5_never, 10, (some .int), 6, 138)
abbrev mX5_newStall : MI := (yX5_newStall, cX5_newStall, 5, (some .int), 1, 21)
abbrev mX5_nextOrder : MI := (yX5_nextOrder, cX5_nextOrder, 6, (some .boolean), 0, 0)
abbrev mX5_number : MI := (yX5_number, cX5_number, 6, none, 4, 88)
abbrev mX5_of : MI := (yX5_of, cX5_of, 3, (some .int), 3, 66)
abbrev mX5_offer : MI := (yX5_offer, cX5_offer, 5, (some .int), 2, 43)
abbrev mX5_offers : MI := (yX5_offers, cX5_offers, 3, (some .int), 3, 67)
abbrev mX5_order : MI := (yX5_order, cX5_order, 5, (some .int), 8, 186)
abbrev mX5_orderWrong : MI := (yX5_orderWrong, cX5_orderWrong, 2, (some .int), 1, 21)
abbrev mX5_passes : MI := (yX5_passes, cX5_passes, 3, (some .int), 5, 113)
abbrev mX5_perhaps : MI := (yX5_perhaps, cX5_perhaps, 5, (some .int), 5, 113)
abbrev mX5_placeOf : MI := (yX5_placeOf, cX5_placeOf, 3, (some .int), 3, 66)
abbrev mX5_placesOf : MI := (yX5_placesOf, cX5_placesOf, 4, (some .int), 2, 43)
abbrev mX5_price : MI := (yX5_price, cX5_price, 3, (some .int), 2, 43)
abbrev mX5_putsBack : MI := (yX5_putsBack, cX5_putsBack, 2, none, 0, 0)
abbrev mX5_saves : MI := (yX5_saves, cX5_saves, 2, none, 0, 0)
abbrev mX5_seed : MI := (yX5_seed, cX5_seed, 3, (some .int), 0, 0)
abbrev mX5_sells : MI := (yX5_sells, cX5_sells, 3, (some .int), 3, 67)
abbrev mX5_shade : MI := (yX5_shade, cX5_shade, 4, (some .int), 2, 45)
abbrev mX5_sheet : MI := (yX5_sheet, cX5_sheet, 5, (some .int), 2, 45)
abbrev mX5_spring : MI := (yX5_spring, cX5_spring, 3, (some .int), 2, 45)
abbrev mX5_stall : MI := (yX5_stall, cX5_stall, 3, (some .int), 3, 66)
abbrev mX5_stallAt : MI := (yX5_stallAt, cX5_stallAt, 4, (some .int), 2, 43)
abbrev mX5_stallItem : MI := (yX5_stallItem, cX5_stallItem, 5, none, 6, 137)
abbrev mX5_status : MI := (yX5_status, cX5_status, 4, (some .int), 1, 25)
abbrev mX5_stay : MI := (yX5_stay, cX5_stay, 1, (some .int), 5, 113)
abbrev mX5_staying : MI := (yX5_staying, cX5_staying, 5, (some .int), 4, 89)
abbrev mX5_sumOf : MI := (yX5_sumOf, cX5_sumOf, 4, (some .int), 2, 43)
abbrev mX5_swap : MI := (yX5_swap, cX5_swap, 3, (some .int), 3, 66)
abbrev mX5_swaps : MI := (yX5_swaps, cX5_swaps, 4, none, 2, 43)
abbrev mX5_tear : MI := (yX5_tear, cX5_tear, 2, (some .int), 0, 0)
abbrev mX5_text : MI := (yX5_text, cX5_text, 2, (some .int), 8, 184)
abbrev mX5_there : MI := (yX5_there, cX5_there, 5, (some .int), 7, 161)
abbrev mX5_thief : MI := (yX5_thief, cX5_thief, 6, (some .int), 7, 161)
abbrev mX5_throwAway : MI := (yX5_throwAway, cX5_throwAway, 7, (some .int), 8, 185)
abbrev mX5_token : MI := (yX5_token, cX5_token, 3, none, 2, 45)
abbrev mX5_undo : MI := (yX5_undo, cX5_undo, 2, (some .int), 1, 21)
abbrev mX5_visits : MI := (yX5_visits, cX5_visits, 4, (some .int), 2, 45)
abbrev mX5_visitsItem : MI := (yX5_visitsItem, cX5_visitsItem, 4, none, 6, 137)
abbrev mX5_visitsOfAll : MI := (yX5_visitsOfAll, cX5_visitsOfAll, 3, (some .int), 0, 0)
abbrev mX5_when : MI := (yX5_when, cX5_when, 5, (some .int), 6, 138)
abbrev mX5_wipe : MI := (yX5_wipe, cX5_wipe, 2, (some .int), 0, 0)
abbrev mX5_wishes : MI := (yX5_wishes, cX5_wishes, 7, (some .int), 8, 185)
abbrev mX5_word : MI := (yX5_word, cX5_word, 4, (some .long), 2, 45)
abbrev mX5_worth : MI := (yX5_worth, cX5_worth, 4, (some .int), 9, 210)
abbrev mX5_worthOf : MI := (yX5_worthOf, cX5_worthOf, 6, (some .int), 8, 185)
abbrev mX5_write : MI := (yX5_write, cX5_write, 5, (some .int), 3, 66)
abbrev mX5_wrong : MI := (yX5_wrong, cX5_wrong, 2, (some .int), 2, 45)
theorem fm {α : Type} {P : α → Prop} {a : α} {l : List α} (h : P a) (t : ∀ x ∈ l, P x) : ∀ x ∈ a :: l, P x := List.forall_mem_cons.mpr ⟨h, t⟩
theorem fn {α : Type} {P : α → Prop} : ∀ x ∈ ([] : List α), P x := fun _ h => absurd h List.not_mem_nil
section ST2
variable {own : String} {cc : ByteArray} {nL : Nat} {ret : Option FieldType} {R0 : Room} {pc : Nat}
def s_alen (nx : Nat) : Stf := fun k _ ls st σ => match st with
  | .ref o :: r => match sh o with
    | some (.inr (.inl n)) => k nx ls (.int (Int32.ofNat n) :: r) σ
    | _ => False
  | _ => False
theorem z_alen (hd : decode cc pc = .ok (.arraylength, 1)) : Snd own cc nL ret R0 pc (s_alen (pc + 1)) := by
  intro G rt p l e R s m args below meth c Q C k hk ls st σ h H locs rls hP hS hl
  unfold s_alen at h
  split at h
  · rename_i o r
    split at h
    · rename_i n hsh
      exact va_alen (D := G.1) C.1.1 C.1.2.1 C.2.2.2.1.1 hP o 0 (wW_at hsh) rfl rfl hd (hk _ _ _ _ h H locs rls hP hS hl)
    · exact h.elim
  · exact h.elim
/-- a String constant -/
def s_ldcs (i nx : Nat) : Stf := fun k _ ls st σ => k nx ls (.ref (60 + i) :: st) σ
theorem z_ldcs {i : Nat} {idx : Nat} (hi : i < 15) (hx : sIx.getD i 0 = idx) (hd : decode cc pc = .ok (.ldc idx, 2)) (ho : own = "MovingMarket$Tape" := by rfl) : Snd own cc nL ret R0 pc (s_ldcs i (pc + 2)) := by
  intro G rt p l e R s m args below meth c Q C k hk ls st σ h H locs rls hP hS hl
  subst ho
  have hz := C.2.2.2.1.2.2.2.2.1 i hi
  rw [hx] at hz
  exact va_ldcS C.1.1 C.1.2.1 C.1.2.2.2.1 hz hd (hk _ _ _ _ h H locs rls hP hS hl)
/-- a call on a String constant -/
def s_invT (M : MI) (n nx : Nat) : Stf := fun k _ ls st σ => match argsV n [] st with
  | some (As, o, r) => bif Nat.ble 60 o && Nat.ble o 74 && Nat.ble (r.map fun v => v.category).sum 8 then ∃ rt', Ct M (.ref o :: As) σ rt' ∧ ∀ v σ', rt' v σ' → k nx ls (v.toList ++ r) σ' else False
  | none => False
theorem z_invT {M : MI} {n idx : Nat} {C : String} (hd : decode cc pc = .ok (.invokevirtual idx, 3)) (w1 : Cond.methodLink own idx M.1 ∈ AW) (w2 : Cond.instanceMethod M.1 ∈ AW) (w3 : Cond.selects C M.1 M.1 ∈ AW) (w4 : Cond.initialized C ∈ AW) (w5 : Cond.code M.1 M.2.1 M.2.2.1 M.2.2.2.1 ∈ AW)
    (hdd : M.1.cls = C ∧ M.1.cls ≠ "java/lang/invoke/MethodHandle" ∧ M.1.cls ≠ "java/lang/invoke/VarHandle" ∧ (parseMethodDescriptor M.1.desc).map (fun d => d.parameters.length) = some n) (hR : M.2.2.2.2.1 + 1 ≤ R0.frames ∧ 8 + (M.2.2.1 + 11) + M.2.2.2.2.2 ≤ R0.locals) (hC : C = "java/lang/String" := by rfl) : Snd own cc nL ret R0 pc (s_invT M n (pc + 3)) := by
  intro G rt p l e R s m args below meth c Q C0 k hk ls st σ h H locs rls hP hS hl
  obtain ⟨C1, hret, hlk, ⟨hK, hI, hG⟩, hRR, hQ⟩ := C0
  unfold s_invT at h
  split at h
  · rename_i As o r ha
    obtain ⟨hst, hlen⟩ := argsV_spec n [] st As o r ha
    rw [List.reverse_nil, List.nil_append] at hst
    subst hst
    cases hb : (Nat.ble 60 o && Nat.ble o 74 && Nat.ble (r.map fun v => v.category).sum 8) with
    | false => rw [hb] at h; exact h.elim
    | true =>
      rw [hb] at h
      obtain ⟨hb1, hb2⟩ := Bool.and_eq_true_iff.mp hb
      obtain ⟨hb3, hb4⟩ := Bool.and_eq_true_iff.mp hb1
      have h60 := Nat.le_of_ble_eq_true hb3
      have h74 := Nat.le_of_ble_eq_true hb4
      obtain ⟨rt', hM, h⟩ := h
      have hg : GoodIn AW (wsV own idx C M.1 (wsM M)) := by
        intro w hw
        rcases List.mem_append.mp hw with hw | hw
        · simp only [List.mem_cons, List.not_mem_nil, or_false] at hw
          rcases hw with rfl | rfl | rfl | rfl
          · exact GoodIn_one w1
          · exact GoodIn_one w2
          · exact GoodIn_one w3
          · exact GoodIn_one w4
        · exact GoodIn_wsM w5 w hw
      have hst2 : sM (ga G) (As.reverse ++ .ref o :: r) = (sM (ga G) As).reverse ++ .ref (ga G o) :: sM (ga G) r := by
        unfold sM
        rw [List.map_append, List.map_reverse]
        rfl
      have hrecv : ∃ cell : Cell, H[ga G o]? = some cell ∧ cell.vm.isStatics = false ∧ s.vm.findClass C = some cell.cls := by
        have hv := vk_recv (i := o - 60) hG.2.1 (by omega) hS
        rw [hC]
        rw [show 60 + (o - 60) = o by omega] at hv
        exact hv
      rw [hst2]
      refine callG (rt := rt') (va_runV (As := sM (ga G) As) (rest := sM (ga G) r) (b := ga G o) C1 (hM l G) (cwV n C1.2.2.2.2 hg rfl rfl rfl hdd (by rw [hRR]; exact hR)) ⟨PRE_blind, hrecv, fun U hU hW => ⟨rfl, by rw [hU]; exact hP, va_K.moved hW.alike hK, hI, ?_⟩⟩ rfl (by rw [List.length_map, hlen]; rfl) hl.1 rfl (lv_room (by rw [sM_sum]; exact Nat.le_of_ble_eq_true hb2)) hd ⟨Nat.zero_le _, Nat.zero_le _⟩) hS (fun _ q => q) (fun v σ' H1 locs1 hv hP1 hS1 => ?_)
      · rw [hU]
        exact GLb.warm hW (GLb.kept hS.1 hS.2.1 hG)
      · rw [vM_toList]
        exact hk _ _ _ _ (h v σ' hv) H1 locs1 rls hP1 hS1 hl
  · exact h.elim
end ST2
end
section
/-! CODE of J7, by program -/
def kJ7_fill_53178 : Cd := [(0, s_pushi 0 1), (1, s_istore 2 2), (2, s_aload 0 3), (3, s_alen 4), (4, s_istore 3 5), (5, s_iload 2 6), (6, s_iload 3 7), (7, s_icmp (fun x y => y ≤ x) 20 10), (10, s_aload 0 11), (11, s_iload 2 12), (12, s_iload 1 13), (13, s_iast 14), (14, s_iinc 2 1 17), (17, s_goto 5), (20, s_vret)]
set_option maxRecDepth 20000 in
theorem zJ7_fill_53178 : ∀ q ∈ kJ7_fill_53178, Snd RJ7 cJ7_fill_53178 4 none (rmM mJ7_fill_53178) q.1 q.2 :=
  fm (z_iconst (n := 0) (by decide +kernel) (by decide)) (
  fm (z_istore_n (j := 2) (by decide +kernel) rfl (by decide)) (
  fm (z_aload_n (j := 0) (by decide +kernel) rfl) (
  fm (z_alen (by decide +kernel)) (
  fm (z_istore_n (j := 3) (by decide +kernel) rfl (by decide)) (
  fm (z_iload_n (j := 2) (by decide +kernel) rfl) (
  fm (z_iload_n (j := 3) (by decide +kernel) rfl) (
  fm (z_icmp_ge (off := 13) (by decide +kernel) (by decide)) (
  fm (z_aload_n (j := 0) (by decide +kernel) rfl) (
  fm (z_iload_n (j := 2) (by decide +kernel) rfl) (
  fm (z_iload_n (j := 1) (by decide +kernel) rfl) (
  fm (z_iast (by decide +kernel)) (
  fm (z_iinc (n := 1) (by decide +kernel) (by decide) (by decide)) (
  fm (z_goto (off := (-12)) (by decide +kernel) (by decide)) (
  fm (z_vret rfl (by decide +kernel)) (fn)))))))))))))))
end
section
/-! CODE of J9, by program -/
def kJ9_floorMod_7cf53 : Cd := [(0, s_iload 0 1), (1, s_iload 1 2), (2, s_rem 3), (3, s_istore 2 4), (4, s_iload 0 5), (5, s_iload 1 6), (6, s_bin (fun x y => x ^^^ y) 7), (7, s_if (fun x => 0 ≤ x) 18 10), (10, s_iload 2 11), (11, s_if (fun x => x = 0) 18 14), (14, s_iload 2 15), (15, s_iload 1 16), (16, s_bin (fun x y => x + y) 17), (17, s_iret), (18, s_iload 2 19), (19, s_iret)]
set_option maxRecDepth 20000 in
theorem zJ9_floorMod_7cf53 : ∀ q ∈ kJ9_floorMod_7cf53, Snd RJ9 cJ9_floorMod_7cf53 3 (some .int) (rmM mJ9_floorMod_7cf53) q.1 q.2 :=
  fm (z_iload_n (j := 0) (by decide +kernel) rfl) (
  fm (z_iload_n (j := 1) (by decide +kernel) rfl) (
  fm (z_irem (by decide +kernel)) (
  fm (z_istore_n (j := 2) (by decide +kernel) rfl (by decide)) (
  fm (z_iload_n (j := 0) (by decide +kernel) rfl) (
  fm (z_iload_n (j := 1) (by decide +kernel) rfl) (
  fm (z_ixor (by decide +kernel)) (
  fm (z_if_ge (off := 11) (by decide +kernel) (by decide)) (
  fm (z_iload_n (j := 2) (by decide +kernel) rfl) (
  fm (z_if_eq (off := 7) (by decide +kernel) (by decide)) (
  fm (z_iload_n (j := 2) (by decide +kernel) rfl) (
  fm (z_iload_n (j := 1) (by decide +kernel) rfl) (
  fm (z_iadd (by decide +kernel)) (
  fm (z_iret rfl (by decide +kernel)) (
  fm (z_iload_n (j := 2) (by decide +kernel) rfl) (
  fm (z_iret rfl (by decide +kernel)) (fn))))))))))))))))
end
section
/-! CODE of X0, by program -/
def kX0_advance : Cd := [(0, s_aload 0 1), (1, s_getf 0 1 4), (4, s_pushi 2 5), (5, s_bin (fun x y => x - y) 6), (6, s_istore 1 7), (7, s_iload 1 8), (8, s_if (fun x => x < 0) 34 11), (11, s_aload 0 12), (12, s_getf 0 0 15), (15, s_iload 1 16), (16, s_iald 17), (17, s_aload 0 18), (18, s_getf 0 0 21), (21, s_iload 1 22), (22, s_pushi 1 23), (23, s_bin (fun x y => x + y) 24), (24, s_iald 25), (25, s_icmp (fun x y => x ≤ y) 34 28), (28, s_iinc 1 (-1) 31), (31, s_goto 7), (34, s_iload 1 35), (35, s_if (fun x => 0 ≤ x) 39 38), (38, s_vret), (39, s_aload 0 40), (40, s_getf 0 1 43), (43, s_pushi 1 44), (44, s_bin (fun x y => x - y) 45), (45, s_istore 2 46), (46, s_iload 2 47), (47, s_iload 1 48), (48, s_icmp (fun x y => x ≤ y) 72 51), (51, s_aload 0 52), (52, s_getf 0 0 55), (55, s_iload 2 56), (56, s_iald 57), (57, s_aload 0 58), (58, s_getf 0 0 61), (61, s_iload 1 62), (62, s_iald 63), (63, s_icmp (fun x y => y ≤ x) 72 66), (66, s_iinc 2 (-1) 69), (69, s_goto 46), (72, s_aload 0 73), (73, s_iload 1 74), (74, s_iload 2 75), (75, s_inv mX0_exchangeTaken 0 2 78), (78, s_iload 1 79), (79, s_pushi 1 80), (80, s_bin (fun x y => x + y) 81), (81, s_istore 3 82), (82, s_aload 0 83), (83, s_getf 0 1 86), (86, s_pushi 1 87), (87, s_bin (fun x y => x - y) 88), (88, s_istore 4 90), (90, s_iload 3 91), (91, s_iload 4 93), (93, s_icmp (fun x y => y ≤ x) 112 96), (96, s_aload 0 97), (97, s_iload 3 98), (98, s_iload 4 100), (100, s_inv mX0_exchangeTaken 0 2 103), (103, s_iinc 3 1 106), (106, s_iinc 4 (-1) 109), (109, s_goto 90), (112, s_vret)]
set_option maxRecDepth 20000 in
theorem zX0_advance : ∀ q ∈ kX0_advance, Snd RX0 cX0_advance 5 none (rmM mX0_advance) q.1 q.2 :=
  fm (z_aload_n (j := 0) (by decide +kernel) rfl) (
  fm (z_getf (idx := 15) awX0 rfl (by decide) wd_1_94 rfl (by decide +kernel)) (
  fm (z_iconst (n := 2) (by decide +kernel) (by decide)) (
  fm (z_isub (by decide +kernel)) (
  fm (z_istore_n (j := 1) (by decide +kernel) rfl (by decide)) (
  fm (z_iload_n (j := 1) (by decide +kernel) rfl) (
  fm (z_if_lt (off := 26) (by decide +kernel) (by decide)) (
  fm (z_aload_n (j := 0) (by decide +kernel) rfl) (
  fm (z_getf (idx := 9) awX0 rfl (by decide) wd_1_92 rfl (by decide +kernel)) (
  fm (z_iload_n (j := 1) (by decide +kernel) rfl) (
  fm (z_iald (by decide +kernel)) (
  fm (z_aload_n (j := 0) (by decide +kernel) rfl) (
  fm (z_getf (idx := 9) awX0 rfl (by decide) wd_1_92 rfl (by decide +kernel)) (
  fm (z_iload_n (j := 1) (by decide +kernel) rfl) (
  fm (z_iconst (n := 1) (by decide +kernel) (by decide)) (
  fm (z_iadd (by decide +kernel)) (
  fm (z_iald (by decide +kernel)) (
  fm (z_icmp_le (off := 9) (by decide +kernel) (by decide)) (
  fm (z_iinc (n := (-1)) (by decide +kernel) (by decide) (by decide)) (
  fm (z_goto (off := (-24)) (by decide +kernel) (by decide)) (
  fm (z_iload_n (j := 1) (by decide +kernel) rfl) (
  fm (z_if_ge (off := 4) (by decide +kernel) (by decide)) (
  fm (z_vret rfl (by decide +kernel)) (
  fm (z_aload_n (j := 0) (by decide +kernel) rfl) (
  fm (z_getf (idx := 15) awX0 rfl (by decide) wd_1_94 rfl (by decide +kernel)) (
  fm (z_iconst (n := 1) (by decide +kernel) (by decide)) (
  fm (z_isub (by decide +kernel)) (
  fm (z_istore_n (j := 2) (by decide +kernel) rfl (by decide)) (
  fm (z_iload_n (j := 2) (by decide +kernel) rfl) (
  fm (z_iload_n (j := 1) (by decide +kernel) rfl) (
  fm (z_icmp_le (off := 24) (by decide +kernel) (by decide)) (
  fm (z_aload_n (j := 0) (by decide +kernel) rfl) (
  fm (z_getf (idx := 9) awX0 rfl (by decide) wd_1_92 rfl (by decide +kernel)) (
  fm (z_iload_n (j := 2) (by decide +kernel) rfl) (
  fm (z_iald (by decide +kernel)) (
  fm (z_aload_n (j := 0) (by decide +kernel) rfl) (
  fm (z_getf (idx := 9) awX0 rfl (by decide) wd_1_92 rfl (by decide +kernel)) (
  fm (z_iload_n (j := 1) (by decide +kernel) rfl) (
  fm (z_iald (by decide +kernel)) (
  fm (z_icmp_ge (off := 9) (by decide +kernel) (by decide)) (
  fm (z_iinc (n := (-1)) (by decide +kernel) (by decide) (by decide)) (
  fm (z_goto (off := (-23)) (by decide +kernel) (by decide)) (
  fm (z_aload_n (j := 0) (by decide +kernel) rfl) (
  fm (z_iload_n (j := 1) (by decide +kernel) rfl) (
  fm (z_iload_n (j := 2) (by decide +kernel) rfl) (
  fm (z_inv (idx := 25) rfl (by decide +kernel) wd_2_145 wd_2_147 ws_8 wd_1_4 wd_2_148 (by decide +kernel) ⟨Nat.le_of_ble_eq_true rfl, Nat.le_of_ble_eq_true rfl⟩) (
  fm (z_iload_n (j := 1) (by decide +kernel) rfl) (
  fm (z_iconst (n := 1) (by decide +kernel) (by decide)) (
  fm (z_iadd (by decide +kernel)) (
  fm (z_istore_n (j := 3) (by decide +kernel) rfl (by decide)) (
  fm (z_aload_n (j := 0) (by decide +kernel) rfl) (
  fm (z_getf (idx := 15) awX0 rfl (by decide) wd_1_94 rfl (by decide +kernel)) (
  fm (z_iconst (n := 1) (by decide +kernel) (by decide)) (
  fm (z_isub (by decide +kernel)) (
  fm (z_istore (i := 4) (by decide +kernel) (by decide)) (
  fm (z_iload_n (j := 3) (by decide +kernel) rfl) (
  fm (z_iload (i := 4) (by decide +kernel)) (
  fm (z_icmp_ge (off := 19) (by decide +kernel) (by decide)) (
  fm (z_aload_n (j := 0) (by decide +kernel) rfl) (
  fm (z_iload_n (j := 3) (by decide +kernel) rfl) (
  fm (z_iload (i := 4) (by decide +kernel)) (
  fm (z_inv (idx := 25) rfl (by decide +kernel) wd_2_145 wd_2_147 ws_8 wd_1_4 wd_2_148 (by decide +kernel) ⟨Nat.le_of_ble_eq_true rfl, Nat.le_of_ble_eq_true rfl⟩) (
  fm (z_iinc (n := 1) (by decide +kernel) (by decide) (by decide)) (
  fm (z_iinc (n := (-1)) (by decide +kernel) (by decide) (by decide)) (
  fm (z_goto (off := (-19)) (by decide +kernel) (by decide)) (
  fm (z_vret rfl (by decide +kernel)) (fn))))))))))))))))))))))))))))))))))))))))))))))))))))))))))))))))))
def kX0_become : Cd := [(0, s_aload 0 1), (1, s_aload 1 2), (2, s_getf 0 1 5), (5, s_putf .int 0 1 8), (8, s_aload 1 9), (9, s_getf 0 0 12), (12, s_pushi 0 13), (13, s_aload 0 14), (14, s_getf 0 0 17), (17, s_pushi 0 18), (18, s_pushi 8 20), (20, s_copy 23), (23, s_vret)]
set_option maxRecDepth 20000 in
theorem zX0_become : ∀ q ∈ kX0_become, Snd RX0 cX0_become 2 none (rmM mX0_become) q.1 q.2 :=
  fm (z_aload_n (j := 0) (by decide +kernel) rfl) (
  fm (z_aload_n (j := 1) (by decide +kernel) rfl) (
  fm (z_getf (idx := 15) awX0 rfl (by decide) wd_1_94 rfl (by decide +kernel)) (
  fm (z_putf (idx := 15) tyX0 tyX0_ok nmX0 awX0 rfl (by decide) wd_1_94 rfl rfl (by decide +kernel) (by decide +kernel)) (
  fm (z_aload_n (j := 1) (by decide +kernel) rfl) (
  fm (z_getf (idx := 9) awX0 rfl (by decide) wd_1_92 rfl (by decide +kernel)) (
  fm (z_iconst (n := 0) (by decide +kernel) (by decide)) (
  fm (z_aload_n (j := 0) (by decide +kernel) rfl) (
  fm (z_getf (idx := 9) awX0 rfl (by decide) wd_1_92 rfl (by decide +kernel)) (
  fm (z_iconst (n := 0) (by decide +kernel) (by decide)) (
  fm (z_bipush (n := 8) (by decide +kernel) (by decide)) (
  fm (z_copy (idx := 19) (by decide +kernel) wd_2_140 wd_2_70 wd_2_69 wd_1_9 (by decide)) (
  fm (z_vret rfl (by decide +kernel)) (fn)))))))))))))
def kX0_begin : Cd := [(0, s_aload 0 1), (1, s_iload 1 2), (2, s_putf .int 0 1 5), (5, s_pushi 1 6), (6, s_istore 2 7), (7, s_pushi 0 8), (8, s_istore 3 9), (9, s_iload 3 10), (10, s_aload 0 11), (11, s_getf 0 1 14), (14, s_icmp (fun x y => y ≤ x) 36 17), (17, s_aload 0 18), (18, s_getf 0 0 21), (21, s_iload 3 22), (22, s_iload 3 23), (23, s_iast 24), (24, s_iload 2 25), (25, s_iload 3 26), (26, s_pushi 1 27), (27, s_bin (fun x y => x + y) 28), (28, s_bin (fun x y => x * y) 29), (29, s_istore 2 30), (30, s_iinc 3 1 33), (33, s_goto 9), (36, s_iload 2 37), (37, s_iret)]
set_option maxRecDepth 20000 in
theorem zX0_begin : ∀ q ∈ kX0_begin, Snd RX0 cX0_begin 4 (some .int) (rmM mX0_begin) q.1 q.2 :=
  fm (z_aload_n (j := 0) (by decide +kernel) rfl) (
  fm (z_iload_n (j := 1) (by decide +kernel) rfl) (
  fm (z_putf (idx := 15) tyX0 tyX0_ok nmX0 awX0 rfl (by decide) wd_1_94 rfl rfl (by decide +kernel) (by decide +kernel)) (
  fm (z_iconst (n := 1) (by decide +kernel) (by decide)) (
  fm (z_istore_n (j := 2) (by decide +kernel) rfl (by decide)) (
  fm (z_iconst (n := 0) (by decide +kernel) (by decide)) (
  fm (z_istore_n (j := 3) (by decide +kernel) rfl (by decide)) (
  fm (z_iload_n (j := 3) (by decide +kernel) rfl) (
  fm (z_aload_n (j := 0) (by decide +kernel) rfl) (
  fm (z_getf (idx := 15) awX0 rfl (by decide) wd_1_94 rfl (by decide +kernel)) (
  fm (z_icmp_ge (off := 22) (by decide +kernel) (by decide)) (
  fm (z_aload_n (j := 0) (by decide +kernel) rfl) (
  fm (z_getf (idx := 9) awX0 rfl (by decide) wd_1_92 rfl (by decide +kernel)) (
  fm (z_iload_n (j := 3) (by decide +kernel) rfl) (
  fm (z_iload_n (j := 3) (by decide +kernel) rfl) (
  fm (z_iast (by decide +kernel)) (
  fm (z_iload_n (j := 2) (by decide +kernel) rfl) (
  fm (z_iload_n (j := 3) (by decide +kernel) rfl) (
  fm (z_iconst (n := 1) (by decide +kernel) (by decide)) (
  fm (z_iadd (by decide +kernel)) (
  fm (z_imul (by decide +kernel)) (
  fm (z_istore_n (j := 2) (by decide +kernel) rfl (by decide)) (
  fm (z_iinc (n := 1) (by decide +kernel) (by decide) (by decide)) (
  fm (z_goto (off := (-24)) (by decide +kernel) (by decide)) (
  fm (z_iload_n (j := 2) (by decide +kernel) rfl) (
  fm (z_iret rfl (by decide +kernel)) (fn))))))))))))))))))))))))))
def kX0_exchangeTaken : Cd := [(0, s_aload 0 1), (1, s_getf 0 0 4), (4, s_iload 1 5), (5, s_iald 6), (6, s_istore 3 7), (7, s_aload 0 8), (8, s_getf 0 0 11), (11, s_iload 1 12), (12, s_aload 0 13), (13, s_getf 0 0 16), (16, s_iload 2 17), (17, s_iald 18), (18, s_iast 19), (19, s_aload 0 20), (20, s_getf 0 0 23), (23, s_iload 2 24), (24, s_iload 3 25), (25, s_iast 26), (26, s_vret)]
set_option maxRecDepth 20000 in
theorem zX0_exchangeTaken : ∀ q ∈ kX0_exchangeTaken, Snd RX0 cX0_exchangeTaken 4 none (rmM mX0_exchangeTaken) q.1 q.2 :=
  fm (z_aload_n (j := 0) (by decide +kernel) rfl) (
  fm (z_getf (idx := 9) awX0 rfl (by decide) wd_1_92 rfl (by decide +kernel)) (
  fm (z_iload_n (j := 1) (by decide +kernel) rfl) (
  fm (z_iald (by decide +kernel)) (
  fm (z_istore_n (j := 3) (by decide +kernel) rfl (by decide)) (
  fm (z_aload_n (j := 0) (by decide +kernel) rfl) (
  fm (z_getf (idx := 9) awX0 rfl (by decide) wd_1_92 rfl (by decide +kernel)) (
  fm (z_iload_n (j := 1) (by decide +kernel) rfl) (
  fm (z_aload_n (j := 0) (by decide +kernel) rfl) (
  fm (z_getf (idx := 9) awX0 rfl (by decide) wd_1_92 rfl (by decide +kernel)) (
  fm (z_iload_n (j := 2) (by decide +kernel) rfl) (
  fm (z_iald (by decide +kernel)) (
  fm (z_iast (by decide +kernel)) (
  fm (z_aload_n (j := 0) (by decide +kernel) rfl) (
  fm (z_getf (idx := 9) awX0 rfl (by decide) wd_1_92 rfl (by decide +kernel)) (
  fm (z_iload_n (j := 2) (by decide +kernel) rfl) (
  fm (z_iload_n (j := 3) (by decide +kernel) rfl) (
  fm (z_iast (by decide +kernel)) (
  fm (z_vret rfl (by decide +kernel)) (fn)))))))))))))))))))
end
section
/-! CODE of X1, by program -/
def kX1_begin : Cd := [(0, s_aload 0 1), (1, s_iload 1 2), (2, s_putf .int 1 1 5), (5, s_aload 0 6), (6, s_iload 2 7), (7, s_putf .int 1 2 10), (10, s_aload 0 11), (11, s_getf 1 0 14), (14, s_pushi 0 15), (15, s_invS mJ7_fill_53178 2 18), (18, s_vret)]
set_option maxRecDepth 20000 in
theorem zX1_begin : ∀ q ∈ kX1_begin, Snd RX1 cX1_begin 3 none (rmM mX1_begin) q.1 q.2 :=
  fm (z_aload_n (j := 0) (by decide +kernel) rfl) (
  fm (z_iload_n (j := 1) (by decide +kernel) rfl) (
  fm (z_putf (idx := 15) tyX1 tyX1_ok nmX1 awX1 rfl (by decide) wd_1_135 rfl rfl (by decide +kernel) (by decide +kernel)) (
  fm (z_aload_n (j := 0) (by decide +kernel) rfl) (
  fm (z_iload_n (j := 2) (by decide +kernel) rfl) (
  fm (z_putf (idx := 19) tyX1 tyX1_ok nmX1 awX1 rfl (by decide) wd_1_137 rfl rfl (by decide +kernel) (by decide +kernel)) (
  fm (z_aload_n (j := 0) (by decide +kernel) rfl) (
  fm (z_getf (idx := 9) awX1 rfl (by decide) wd_1_133 rfl (by decide +kernel)) (
  fm (z_iconst (n := 0) (by decide +kernel) (by decide)) (
  fm (z_invS (idx := 22) (by decide +kernel) wd_3_169 wd_1_29 wd_1_3 wd_1_30 (by decide +kernel) ⟨Nat.le_of_ble_eq_true rfl, Nat.le_of_ble_eq_true rfl⟩) (
  fm (z_vret rfl (by decide +kernel)) (fn)))))))))))
def kX1_hasPart : Cd := [(0, s_iload 1 1), (1, s_if (fun x => x < 0) 30 4), (4, s_iload 2 5), (5, s_if (fun x => x < 0) 30 8), (8, s_iload 2 9), (9, s_aload 0 10), (10, s_getf 1 2 13), (13, s_icmp (fun x y => y < x) 30 16), (16, s_iload 1 17), (17, s_aload 0 18), (18, s_getf 1 2 21), (21, s_iload 2 22), (22, s_bin (fun x y => x - y) 23), (23, s_icmp (fun x y => y < x) 30 26), (26, s_pushi 1 27), (27, s_goto 31), (30, s_pushi 0 31), (31, s_zret)]
set_option maxRecDepth 20000 in
theorem zX1_hasPart : ∀ q ∈ kX1_hasPart, Snd RX1 cX1_hasPart 3 (some .boolean) (rmM mX1_hasPart) q.1 q.2 :=
  fm (z_iload_n (j := 1) (by decide +kernel) rfl) (
  fm (z_if_lt (off := 29) (by decide +kernel) (by decide)) (
  fm (z_iload_n (j := 2) (by decide +kernel) rfl) (
  fm (z_if_lt (off := 25) (by decide +kernel) (by decide)) (
  fm (z_iload_n (j := 2) (by decide +kernel) rfl) (
  fm (z_aload_n (j := 0) (by decide +kernel) rfl) (
  fm (z_getf (idx := 19) awX1 rfl (by decide) wd_1_137 rfl (by decide +kernel)) (
  fm (z_icmp_gt (off := 17) (by decide +kernel) (by decide)) (
  fm (z_iload_n (j := 1) (by decide +kernel) rfl) (
  fm (z_aload_n (j := 0) (by decide +kernel) rfl) (
  fm (z_getf (idx := 19) awX1 rfl (by decide) wd_1_137 rfl (by decide +kernel)) (
  fm (z_iload_n (j := 2) (by decide +kernel) rfl) (
  fm (z_isub (by decide +kernel)) (
  fm (z_icmp_gt (off := 7) (by decide +kernel) (by decide)) (
  fm (z_iconst (n := 1) (by decide +kernel) (by decide)) (
  fm (z_goto (off := 4) (by decide +kernel) (by decide)) (
  fm (z_iconst (n := 0) (by decide +kernel) (by decide)) (
  fm (z_zret rfl (by decide +kernel)) (fn))))))))))))))))))
def kX1_put : Cd := [(0, s_aload 0 1), (1, s_getf 1 1 4), (4, s_sw [(8, 32), (16, 43)] 54), (32, s_aload 0 33), (33, s_getf 1 0 36), (36, s_iload 1 37), (37, s_iload 2 38), (38, s_un (fun x => x.toInt8.toInt32) 39), (39, s_iast 40), (40, s_goto 61), (43, s_aload 0 44), (44, s_getf 1 0 47), (47, s_iload 1 48), (48, s_iload 2 49), (49, s_un (fun x => x.toInt16.toInt32) 50), (50, s_iast 51), (51, s_goto 61), (54, s_aload 0 55), (55, s_getf 1 0 58), (58, s_iload 1 59), (59, s_iload 2 60), (60, s_iast 61), (61, s_vret)]
set_option maxRecDepth 20000 in
theorem zX1_put : ∀ q ∈ kX1_put, Snd RX1 cX1_put 3 none (rmM mX1_put) q.1 q.2 :=
  fm (z_aload_n (j := 0) (by decide +kernel) rfl) (
  fm (z_getf (idx := 15) awX1 rfl (by decide) wd_1_135 rfl (by decide +kernel)) (
  fm (z_lsw (dflt := 50) (ps := #[(8, 28), (16, 39)]) (len := 28) (by decide +kernel) (by decide) (by decide +kernel) (by decide +kernel)) (
  fm (z_aload_n (j := 0) (by decide +kernel) rfl) (
  fm (z_getf (idx := 9) awX1 rfl (by decide) wd_1_133 rfl (by decide +kernel)) (
  fm (z_iload_n (j := 1) (by decide +kernel) rfl) (
  fm (z_iload_n (j := 2) (by decide +kernel) rfl) (
  fm (z_i2b (by decide +kernel)) (
  fm (z_iast (by decide +kernel)) (
  fm (z_goto (off := 21) (by decide +kernel) (by decide)) (
  fm (z_aload_n (j := 0) (by decide +kernel) rfl) (
  fm (z_getf (idx := 9) awX1 rfl (by decide) wd_1_133 rfl (by decide +kernel)) (
  fm (z_iload_n (j := 1) (by decide +kernel) rfl) (
  fm (z_iload_n (j := 2) (by decide +kernel) rfl) (
  fm (z_i2s (by decide +kernel)) (
  fm (z_iast (by decide +kernel)) (
  fm (z_goto (off := 10) (by decide +kernel) (by decide)) (
  fm (z_aload_n (j := 0) (by decide +kernel) rfl) (
  fm (z_getf (idx := 9) awX1 rfl (by decide) wd_1_133 rfl (by decide +kernel)) (
  fm (z_iload_n (j := 1) (by decide +kernel) rfl) (
  fm (z_iload_n (j := 2) (by decide +kernel) rfl) (
  fm (z_iast (by decide +kernel)) (
  fm (z_vret rfl (by decide +kernel)) (fn)))))))))))))))))))))))
end
section
/-! CODE of X2, by program -/
def kX2_addStall : Cd := [(0, s_aload 0 1), (1, s_getf 2 9 4), (4, s_istore 3 5), (5, s_aload 0 6), (6, s_getf 2 2 9), (9, s_iload 3 10), (10, s_iload 1 11), (11, s_iast 12), (12, s_aload 0 13), (13, s_getf 2 3 16), (16, s_iload 3 17), (17, s_iload 2 18), (18, s_iast 19), (19, s_aload 0 20), (20, s_getf 2 4 23), (23, s_iload 3 24), (24, s_pushi 20 26), (26, s_iast 27), (27, s_aload 0 28), (28, s_getf 2 5 31), (31, s_iload 3 32), (32, s_pushi 0 33), (33, s_iast 34), (34, s_aload 0 35), (35, s_getf 2 6 38), (38, s_iload 3 39), (39, s_pushi 0 40), (40, s_iast 41), (41, s_aload 0 42), (42, s_dup 43), (43, s_getf 2 9 46), (46, s_pushi 1 47), (47, s_bin (fun x y => x + y) 48), (48, s_putf .int 2 9 51), (51, s_iload 3 52), (52, s_iret)]
set_option maxRecDepth 20000 in
theorem zX2_addStall : ∀ q ∈ kX2_addStall, Snd RX2 cX2_addStall 4 (some .int) (rmM mX2_addStall) q.1 q.2 :=
  fm (z_aload_n (j := 0) (by decide +kernel) rfl) (
  fm (z_getf (idx := 55) awX2 rfl (by decide) wd_1_53 rfl (by decide +kernel)) (
  fm (z_istore_n (j := 3) (by decide +kernel) rfl (by decide)) (
  fm (z_aload_n (j := 0) (by decide +kernel) rfl) (
  fm (z_getf (idx := 18) awX2 rfl (by decide) wd_1_37 rfl (by decide +kernel)) (
  fm (z_iload_n (j := 3) (by decide +kernel) rfl) (
  fm (z_iload_n (j := 1) (by decide +kernel) rfl) (
  fm (z_iast (by decide +kernel)) (
  fm (z_aload_n (j := 0) (by decide +kernel) rfl) (
  fm (z_getf (idx := 21) awX2 rfl (by decide) wd_1_39 rfl (by decide +kernel)) (
  fm (z_iload_n (j := 3) (by decide +kernel) rfl) (
  fm (z_iload_n (j := 2) (by decide +kernel) rfl) (
  fm (z_iast (by decide +kernel)) (
  fm (z_aload_n (j := 0) (by decide +kernel) rfl) (
  fm (z_getf (idx := 24) awX2 rfl (by decide) wd_1_41 rfl (by decide +kernel)) (
  fm (z_iload_n (j := 3) (by decide +kernel) rfl) (
  fm (z_bipush (n := 20) (by decide +kernel) (by decide)) (
  fm (z_iast (by decide +kernel)) (
  fm (z_aload_n (j := 0) (by decide +kernel) rfl) (
  fm (z_getf (idx := 27) awX2 rfl (by decide) wd_1_44 rfl (by decide +kernel)) (
  fm (z_iload_n (j := 3) (by decide +kernel) rfl) (
  fm (z_iconst (n := 0) (by decide +kernel) (by decide)) (
  fm (z_iast (by decide +kernel)) (
  fm (z_aload_n (j := 0) (by decide +kernel) rfl) (
  fm (z_getf (idx := 30) awX2 rfl (by decide) wd_1_46 rfl (by decide +kernel)) (
  fm (z_iload_n (j := 3) (by decide +kernel) rfl) (
  fm (z_iconst (n := 0) (by decide +kernel) (by decide)) (
  fm (z_iast (by decide +kernel)) (
  fm (z_aload_n (j := 0) (by decide +kernel) rfl) (
  fm (z_dup (by decide +kernel)) (
  fm (z_getf (idx := 55) awX2 rfl (by decide) wd_1_53 rfl (by decide +kernel)) (
  fm (z_iconst (n := 1) (by decide +kernel) (by decide)) (
  fm (z_iadd (by decide +kernel)) (
  fm (z_putf (idx := 55) tyX2 tyX2_ok nmX2 awX2 rfl (by decide) wd_1_53 rfl rfl (by decide +kernel) (by decide +kernel)) (
  fm (z_iload_n (j := 3) (by decide +kernel) rfl) (
  fm (z_iret rfl (by decide +kernel)) (fn))))))))))))))))))))))))))))))))))))
def kX2_allCoin : Cd := [(0, s_pushi 0 1), (1, s_istore 1 2), (2, s_pushi 0 3), (3, s_istore 2 4), (4, s_iload 2 5), (5, s_aload 0 6), (6, s_getf 2 9 9), (9, s_icmp (fun x y => y ≤ x) 27 12), (12, s_iload 1 13), (13, s_aload 0 14), (14, s_getf 2 5 17), (17, s_iload 2 18), (18, s_iald 19), (19, s_bin (fun x y => x + y) 20), (20, s_istore 1 21), (21, s_iinc 2 1 24), (24, s_goto 4), (27, s_iload 1 28), (28, s_iret)]
set_option maxRecDepth 20000 in
theorem zX2_allCoin : ∀ q ∈ kX2_allCoin, Snd RX2 cX2_allCoin 3 (some .int) (rmM mX2_allCoin) q.1 q.2 :=
  fm (z_iconst (n := 0) (by decide +kernel) (by decide)) (
  fm (z_istore_n (j := 1) (by decide +kernel) rfl (by decide)) (
  fm (z_iconst (n := 0) (by decide +kernel) (by decide)) (
  fm (z_istore_n (j := 2) (by decide +kernel) rfl (by decide)) (
  fm (z_iload_n (j := 2) (by decide +kernel) rfl) (
  fm (z_aload_n (j := 0) (by decide +kernel) rfl) (
  fm (z_getf (idx := 55) awX2 rfl (by decide) wd_1_53 rfl (by decide +kernel)) (
  fm (z_icmp_ge (off := 18) (by decide +kernel) (by decide)) (
  fm (z_iload_n (j := 1) (by decide +kernel) rfl) (
  fm (z_aload_n (j := 0) (by decide +kernel) rfl) (
  fm (z_getf (idx := 27) awX2 rfl (by decide) wd_1_44 rfl (by decide +kernel)) (
  fm (z_iload_n (j := 2) (by decide +kernel) rfl) (
  fm (z_iald (by decide +kernel)) (
  fm (z_iadd (by decide +kernel)) (
  fm (z_istore_n (j := 1) (by decide +kernel) rfl (by decide)) (
  fm (z_iinc (n := 1) (by decide +kernel) (by decide) (by decide)) (
  fm (z_goto (off := (-20)) (by decide +kernel) (by decide)) (
  fm (z_iload_n (j := 1) (by decide +kernel) rfl) (
  fm (z_iret rfl (by decide +kernel)) (fn)))))))))))))))))))
def kX2_allGoods : Cd := [(0, s_pushi 0 1), (1, s_istore 1 2), (2, s_pushi 0 3), (3, s_istore 2 4), (4, s_iload 2 5), (5, s_aload 0 6), (6, s_getf 2 9 9), (9, s_icmp (fun x y => y ≤ x) 27 12), (12, s_iload 1 13), (13, s_aload 0 14), (14, s_getf 2 4 17), (17, s_iload 2 18), (18, s_iald 19), (19, s_bin (fun x y => x + y) 20), (20, s_istore 1 21), (21, s_iinc 2 1 24), (24, s_goto 4), (27, s_iload 1 28), (28, s_iret)]
set_option maxRecDepth 20000 in
theorem zX2_allGoods : ∀ q ∈ kX2_allGoods, Snd RX2 cX2_allGoods 3 (some .int) (rmM mX2_allGoods) q.1 q.2 :=
  fm (z_iconst (n := 0) (by decide +kernel) (by decide)) (
  fm (z_istore_n (j := 1) (by decide +kernel) rfl (by decide)) (
  fm (z_iconst (n := 0) (by decide +kernel) (by decide)) (
  fm (z_istore_n (j := 2) (by decide +kernel) rfl (by decide)) (
  fm (z_iload_n (j := 2) (by decide +kernel) rfl) (
  fm (z_aload_n (j := 0) (by decide +kernel) rfl) (
  fm (z_getf (idx := 55) awX2 rfl (by decide) wd_1_53 rfl (by decide +kernel)) (
  fm (z_icmp_ge (off := 18) (by decide +kernel) (by decide)) (
  fm (z_iload_n (j := 1) (by decide +kernel) rfl) (
  fm (z_aload_n (j := 0) (by decide +kernel) rfl) (
  fm (z_getf (idx := 24) awX2 rfl (by decide) wd_1_41 rfl (by decide +kernel)) (
  fm (z_iload_n (j := 2) (by decide +kernel) rfl) (
  fm (z_iald (by decide +kernel)) (
  fm (z_iadd (by decide +kernel)) (
  fm (z_istore_n (j := 1) (by decide +kernel) rfl (by decide)) (
  fm (z_iinc (n := 1) (by decide +kernel) (by decide) (by decide)) (
  fm (z_goto (off := (-20)) (by decide +kernel) (by decide)) (
  fm (z_iload_n (j := 1) (by decide +kernel) rfl) (
  fm (z_iret rfl (by decide +kernel)) (fn)))))))))))))))))))
def kX2_allVisits : Cd := [(0, s_pushi 0 1), (1, s_istore 1 2), (2, s_pushi 0 3), (3, s_istore 2 4), (4, s_iload 2 5), (5, s_pushi 12 7), (7, s_icmp (fun x y => y ≤ x) 25 10), (10, s_iload 1 11), (11, s_aload 0 12), (12, s_getf 2 0 15), (15, s_iload 2 16), (16, s_iald 17), (17, s_bin (fun x y => x + y) 18), (18, s_istore 1 19), (19, s_iinc 2 1 22), (22, s_goto 4), (25, s_iload 1 26), (26, s_iret)]
set_option maxRecDepth 20000 in
theorem zX2_allVisits : ∀ q ∈ kX2_allVisits, Snd RX2 cX2_allVisits 3 (some .int) (rmM mX2_allVisits) q.1 q.2 :=
  fm (z_iconst (n := 0) (by decide +kernel) (by decide)) (
  fm (z_istore_n (j := 1) (by decide +kernel) rfl (by decide)) (
  fm (z_iconst (n := 0) (by decide +kernel) (by decide)) (
  fm (z_istore_n (j := 2) (by decide +kernel) rfl (by decide)) (
  fm (z_iload_n (j := 2) (by decide +kernel) rfl) (
  fm (z_bipush (n := 12) (by decide +kernel) (by decide)) (
  fm (z_icmp_ge (off := 18) (by decide +kernel) (by decide)) (
  fm (z_iload_n (j := 1) (by decide +kernel) rfl) (
  fm (z_aload_n (j := 0) (by decide +kernel) rfl) (
  fm (z_getf (idx := 9) awX2 rfl (by decide) wd_1_31 rfl (by decide +kernel)) (
  fm (z_iload_n (j := 2) (by decide +kernel) rfl) (
  fm (z_iald (by decide +kernel)) (
  fm (z_iadd (by decide +kernel)) (
  fm (z_istore_n (j := 1) (by decide +kernel) rfl (by decide)) (
  fm (z_iinc (n := 1) (by decide +kernel) (by decide) (by decide)) (
  fm (z_goto (off := (-18)) (by decide +kernel) (by decide)) (
  fm (z_iload_n (j := 1) (by decide +kernel) rfl) (
  fm (z_iret rfl (by decide +kernel)) (fn))))))))))))))))))
def kX2_areBeside : Cd := [(0, s_aload 0 1), (1, s_getf 2 3 4), (4, s_iload 1 5), (5, s_iald 6), (6, s_aload 0 7), (7, s_getf 2 3 10), (10, s_iload 2 11), (11, s_iald 12), (12, s_bin (fun x y => x - y) 13), (13, s_pushi 12 15), (15, s_invS mJ9_floorMod_7cf53 2 18), (18, s_istore 3 19), (19, s_iload 3 20), (20, s_pushi 1 21), (21, s_icmp (fun x y => x = y) 30 24), (24, s_iload 3 25), (25, s_pushi 11 27), (27, s_icmp (fun x y => x = y) 30 34), (30, s_pushi 1 31), (31, s_goto 35), (34, s_pushi 0 35), (35, s_zret)]
set_option maxRecDepth 20000 in
theorem zX2_areBeside : ∀ q ∈ kX2_areBeside, Snd RX2 cX2_areBeside 4 (some .boolean) (rmM mX2_areBeside) q.1 q.2 :=
  fm (z_aload_n (j := 0) (by decide +kernel) rfl) (
  fm (z_getf (idx := 21) awX2 rfl (by decide) wd_1_39 rfl (by decide +kernel)) (
  fm (z_iload_n (j := 1) (by decide +kernel) rfl) (
  fm (z_iald (by decide +kernel)) (
  fm (z_aload_n (j := 0) (by decide +kernel) rfl) (
  fm (z_getf (idx := 21) awX2 rfl (by decide) wd_1_39 rfl (by decide +kernel)) (
  fm (z_iload_n (j := 2) (by decide +kernel) rfl) (
  fm (z_iald (by decide +kernel)) (
  fm (z_isub (by decide +kernel)) (
  fm (z_bipush (n := 12) (by decide +kernel) (by decide)) (
  fm (z_invS (idx := 109) (by decide +kernel) wd_2_186 wd_2_187 wd_1_8 wd_2_188 (by decide +kernel) ⟨Nat.le_of_ble_eq_true rfl, Nat.le_of_ble_eq_true rfl⟩) (
  fm (z_istore_n (j := 3) (by decide +kernel) rfl (by decide)) (
  fm (z_iload_n (j := 3) (by decide +kernel) rfl) (
  fm (z_iconst (n := 1) (by decide +kernel) (by decide)) (
  fm (z_icmp_eq (off := 9) (by decide +kernel) (by decide)) (
  fm (z_iload_n (j := 3) (by decide +kernel) rfl) (
  fm (z_bipush (n := 11) (by decide +kernel) (by decide)) (
  fm (z_icmp_ne (off := 7) (by decide +kernel) (by decide)) (
  fm (z_iconst (n := 1) (by decide +kernel) (by decide)) (
  fm (z_goto (off := 4) (by decide +kernel) (by decide)) (
  fm (z_iconst (n := 0) (by decide +kernel) (by decide)) (
  fm (z_zret rfl (by decide +kernel)) (fn))))))))))))))))))))))
def kX2_become : Cd := [(0, s_aload 1 1), (1, s_getf 2 0 4), (4, s_pushi 0 5), (5, s_aload 0 6), (6, s_getf 2 0 9), (9, s_pushi 0 10), (10, s_pushi 12 12), (12, s_copy 15), (15, s_aload 1 16), (16, s_getf 2 1 19), (19, s_pushi 0 20), (20, s_aload 0 21), (21, s_getf 2 1 24), (24, s_pushi 0 25), (25, s_pushi 12 27), (27, s_copy 30), (30, s_aload 1 31), (31, s_getf 2 2 34), (34, s_pushi 0 35), (35, s_aload 0 36), (36, s_getf 2 2 39), (39, s_pushi 0 40), (40, s_pushi 8 42), (42, s_copy 45), (45, s_aload 1 46), (46, s_getf 2 3 49), (49, s_pushi 0 50), (50, s_aload 0 51), (51, s_getf 2 3 54), (54, s_pushi 0 55), (55, s_pushi 8 57), (57, s_copy 60), (60, s_aload 1 61), (61, s_getf 2 4 64), (64, s_pushi 0 65), (65, s_aload 0 66), (66, s_getf 2 4 69), (69, s_pushi 0 70), (70, s_pushi 8 72), (72, s_copy 75), (75, s_aload 1 76), (76, s_getf 2 5 79), (79, s_pushi 0 80), (80, s_aload 0 81), (81, s_getf 2 5 84), (84, s_pushi 0 85), (85, s_pushi 8 87), (87, s_copy 90), (90, s_aload 1 91), (91, s_getf 2 6 94), (94, s_pushi 0 95), (95, s_aload 0 96), (96, s_getf 2 6 99), (99, s_pushi 0 100), (100, s_pushi 8 102), (102, s_copy 105), (105, s_aload 1 106), (106, s_getf 2 7 109), (109, s_pushi 0 110), (110, s_aload 0 111), (111, s_getf 2 7 114), (114, s_pushi 0 115), (115, s_pushi 10 117), (117, s_copy 120), (120, s_aload 0 121), (121, s_aload 1 122), (122, s_getf 2 8 125), (125, s_putf .int 2 8 128), (128, s_aload 0 129), (129, s_aload 1 130), (130, s_getf 2 9 133), (133, s_putf .int 2 9 136), (136, s_aload 0 137), (137, s_aload 1 138), (138, s_getf 2 10 141), (141, s_putf .int 2 10 144), (144, s_aload 0 145), (145, s_aload 1 146), (146, s_getf 2 11 149), (149, s_putf .int 2 11 152), (152, s_vret)]
set_option maxRecDepth 20000 in
theorem zX2_become : ∀ q ∈ kX2_become, Snd RX2 cX2_become 2 none (rmM mX2_become) q.1 q.2 :=
  fm (z_aload_n (j := 1) (by decide +kernel) rfl) (
  fm (z_getf (idx := 9) awX2 rfl (by decide) wd_1_31 rfl (by decide +kernel)) (
  fm (z_iconst (n := 0) (by decide +kernel) (by decide)) (
  fm (z_aload_n (j := 0) (by decide +kernel) rfl) (
  fm (z_getf (idx := 9) awX2 rfl (by decide) wd_1_31 rfl (by decide +kernel)) (
  fm (z_iconst (n := 0) (by decide +kernel) (by decide)) (
  fm (z_bipush (n := 12) (by decide +kernel) (by decide)) (
  fm (z_copy (idx := 46) (by decide +kernel) wd_2_68 wd_2_70 wd_2_69 wd_1_9 (by decide)) (
  fm (z_aload_n (j := 1) (by decide +kernel) rfl) (
  fm (z_getf (idx := 15) awX2 rfl (by decide) wd_1_34 rfl (by decide +kernel)) (
  fm (z_iconst (n := 0) (by decide +kernel) (by decide)) (
  fm (z_aload_n (j := 0) (by decide +kernel) rfl) (
  fm (z_getf (idx := 15) awX2 rfl (by decide) wd_1_34 rfl (by decide +kernel)) (
  fm (z_iconst (n := 0) (by decide +kernel) (by decide)) (
  fm (z_bipush (n := 12) (by decide +kernel) (by decide)) (
  fm (z_copy (idx := 46) (by decide +kernel) wd_2_68 wd_2_70 wd_2_69 wd_1_9 (by decide)) (
  fm (z_aload_n (j := 1) (by decide +kernel) rfl) (
  fm (z_getf (idx := 18) awX2 rfl (by decide) wd_1_37 rfl (by decide +kernel)) (
  fm (z_iconst (n := 0) (by decide +kernel) (by decide)) (
  fm (z_aload_n (j := 0) (by decide +kernel) rfl) (
  fm (z_getf (idx := 18) awX2 rfl (by decide) wd_1_37 rfl (by decide +kernel)) (
  fm (z_iconst (n := 0) (by decide +kernel) (by decide)) (
  fm (z_bipush (n := 8) (by decide +kernel) (by decide)) (
  fm (z_copy (idx := 46) (by decide +kernel) wd_2_68 wd_2_70 wd_2_69 wd_1_9 (by decide)) (
  fm (z_aload_n (j := 1) (by decide +kernel) rfl) (
  fm (z_getf (idx := 21) awX2 rfl (by decide) wd_1_39 rfl (by decide +kernel)) (
  fm (z_iconst (n := 0) (by decide +kernel) (by decide)) (
  fm (z_aload_n (j := 0) (by decide +kernel) rfl) (
  fm (z_getf (idx := 21) awX2 rfl (by decide) wd_1_39 rfl (by decide +kernel)) (
  fm (z_iconst (n := 0) (by decide +kernel) (by decide)) (
  fm (z_bipush (n := 8) (by decide +kernel) (by decide)) (
  fm (z_copy (idx := 46) (by decide +kernel) wd_2_68 wd_2_70 wd_2_69 wd_1_9 (by decide)) (
  fm (z_aload_n (j := 1) (by decide +kernel) rfl) (
  fm (z_getf (idx := 24) awX2 rfl (by decide) wd_1_41 rfl (by decide +kernel)) (
  fm (z_iconst (n := 0) (by decide +kernel) (by decide)) (
  fm (z_aload_n (j := 0) (by decide +kernel) rfl) (
  fm (z_getf (idx := 24) awX2 rfl (by decide) wd_1_41 rfl (by decide +kernel)) (
  fm (z_iconst (n := 0) (by decide +kernel) (by decide)) (
  fm (z_bipush (n := 8) (by decide +kernel) (by decide)) (
  fm (z_copy (idx := 46) (by decide +kernel) wd_2_68 wd_2_70 wd_2_69 wd_1_9 (by decide)) (
  fm (z_aload_n (j := 1) (by decide +kernel) rfl) (
  fm (z_getf (idx := 27) awX2 rfl (by decide) wd_1_44 rfl (by decide +kernel)) (
  fm (z_iconst (n := 0) (by decide +kernel) (by decide)) (
  fm (z_aload_n (j := 0) (by decide +kernel) rfl) (
  fm (z_getf (idx := 27) awX2 rfl (by decide) wd_1_44 rfl (by decide +kernel)) (
  fm (z_iconst (n := 0) (by decide +kernel) (by decide)) (
  fm (z_bipush (n := 8) (by decide +kernel) (by decide)) (
  fm (z_copy (idx := 46) (by decide +kernel) wd_2_68 wd_2_70 wd_2_69 wd_1_9 (by decide)) (
  fm (z_aload_n (j := 1) (by decide +kernel) rfl) (
  fm (z_getf (idx := 30) awX2 rfl (by decide) wd_1_46 rfl (by decide +kernel)) (
  fm (z_iconst (n := 0) (by decide +kernel) (by decide)) (
  fm (z_aload_n (j := 0) (by decide +kernel) rfl) (
  fm (z_getf (idx := 30) awX2 rfl (by decide) wd_1_46 rfl (by decide +kernel)) (
  fm (z_iconst (n := 0) (by decide +kernel) (by decide)) (
  fm (z_bipush (n := 8) (by decide +kernel) (by decide)) (
  fm (z_copy (idx := 46) (by decide +kernel) wd_2_68 wd_2_70 wd_2_69 wd_1_9 (by decide)) (
  fm (z_aload_n (j := 1) (by decide +kernel) rfl) (
  fm (z_getf (idx := 33) awX2 rfl (by decide) wd_1_48 rfl (by decide +kernel)) (
  fm (z_iconst (n := 0) (by decide +kernel) (by decide)) (
  fm (z_aload_n (j := 0) (by decide +kernel) rfl) (
  fm (z_getf (idx := 33) awX2 rfl (by decide) wd_1_48 rfl (by decide +kernel)) (
  fm (z_iconst (n := 0) (by decide +kernel) (by decide)) (
  fm (z_bipush (n := 10) (by decide +kernel) (by decide)) (
  fm (z_copy (idx := 46) (by decide +kernel) wd_2_68 wd_2_70 wd_2_69 wd_1_9 (by decide)) (
  fm (z_aload_n (j := 0) (by decide +kernel) rfl) (
  fm (z_aload_n (j := 1) (by decide +kernel) rfl) (
  fm (z_getf (idx := 52) awX2 rfl (by decide) wd_1_50 rfl (by decide +kernel)) (
  fm (z_putf (idx := 52) tyX2 tyX2_ok nmX2 awX2 rfl (by decide) wd_1_50 rfl rfl (by decide +kernel) (by decide +kernel)) (
  fm (z_aload_n (j := 0) (by decide +kernel) rfl) (
  fm (z_aload_n (j := 1) (by decide +kernel) rfl) (
  fm (z_getf (idx := 55) awX2 rfl (by decide) wd_1_53 rfl (by decide +kernel)) (
  fm (z_putf (idx := 55) tyX2 tyX2_ok nmX2 awX2 rfl (by decide) wd_1_53 rfl rfl (by decide +kernel) (by decide +kernel)) (
  fm (z_aload_n (j := 0) (by decide +kernel) rfl) (
  fm (z_aload_n (j := 1) (by decide +kernel) rfl) (
  fm (z_getf (idx := 58) awX2 rfl (by decide) wd_1_56 rfl (by decide +kernel)) (
  fm (z_putf (idx := 58) tyX2 tyX2_ok nmX2 awX2 rfl (by decide) wd_1_56 rfl rfl (by decide +kernel) (by decide +kernel)) (
  fm (z_aload_n (j := 0) (by decide +kernel) rfl) (
  fm (z_aload_n (j := 1) (by decide +kernel) rfl) (
  fm (z_getf (idx := 36) awX2 rfl (by decide) wd_1_58 rfl (by decide +kernel)) (
  fm (z_putf (idx := 36) tyX2 tyX2_ok nmX2 awX2 rfl (by decide) wd_1_58 rfl rfl (by decide +kernel) (by decide +kernel)) (
  fm (z_vret rfl (by decide +kernel)) (fn)))))))))))))))))))))))))))))))))))))))))))))))))))))))))))))))))))))))))))))))))
def kX2_besideSet : Cd := [(0, s_pushi 0 1), (1, s_istore 2 2), (2, s_pushi 0 3), (3, s_istore 3 4), (4, s_iload 3 5), (5, s_aload 0 6), (6, s_getf 2 9 9), (9, s_icmp (fun x y => y ≤ x) 33 12), (12, s_aload 0 13), (13, s_iload 1 14), (14, s_iload 3 15), (15, s_inv mX2_areBeside 2 2 18), (18, s_if (fun x => x = 0) 27 21), (21, s_iload 2 22), (22, s_pushi 1 23), (23, s_iload 3 24), (24, s_bin (fun x y => x <<< (y &&& 31)) 25), (25, s_bin (fun x y => x ||| y) 26), (26, s_istore 2 27), (27, s_iinc 3 1 30), (30, s_goto 4), (33, s_iload 2 34), (34, s_iret)]
set_option maxRecDepth 20000 in
theorem zX2_besideSet : ∀ q ∈ kX2_besideSet, Snd RX2 cX2_besideSet 4 (some .int) (rmM mX2_besideSet) q.1 q.2 :=
  fm (z_iconst (n := 0) (by decide +kernel) (by decide)) (
  fm (z_istore_n (j := 2) (by decide +kernel) rfl (by decide)) (
  fm (z_iconst (n := 0) (by decide +kernel) (by decide)) (
  fm (z_istore_n (j := 3) (by decide +kernel) rfl (by decide)) (
  fm (z_iload_n (j := 3) (by decide +kernel) rfl) (
  fm (z_aload_n (j := 0) (by decide +kernel) rfl) (
  fm (z_getf (idx := 55) awX2 rfl (by decide) wd_1_53 rfl (by decide +kernel)) (
  fm (z_icmp_ge (off := 24) (by decide +kernel) (by decide)) (
  fm (z_aload_n (j := 0) (by decide +kernel) rfl) (
  fm (z_iload_n (j := 1) (by decide +kernel) rfl) (
  fm (z_iload_n (j := 3) (by decide +kernel) rfl) (
  fm (z_inv (idx := 112) rfl (by decide +kernel) wd_2_182 wd_2_183 wd_2_184 wd_1_2 wd_2_185 (by decide +kernel) ⟨Nat.le_of_ble_eq_true rfl, Nat.le_of_ble_eq_true rfl⟩) (
  fm (z_if_eq (off := 9) (by decide +kernel) (by decide)) (
  fm (z_iload_n (j := 2) (by decide +kernel) rfl) (
  fm (z_iconst (n := 1) (by decide +kernel) (by decide)) (
  fm (z_iload_n (j := 3) (by decide +kernel) rfl) (
  fm (z_ishl (by decide +kernel)) (
  fm (z_ior (by decide +kernel)) (
  fm (z_istore_n (j := 2) (by decide +kernel) rfl (by decide)) (
  fm (z_iinc (n := 1) (by decide +kernel) (by decide) (by decide)) (
  fm (z_goto (off := (-26)) (by decide +kernel) (by decide)) (
  fm (z_iload_n (j := 2) (by decide +kernel) rfl) (
  fm (z_iret rfl (by decide +kernel)) (fn)))))))))))))))))))))))
def kX2_bring : Cd := [(0, s_aload 0 1), (1, s_iload 2 2), (2, s_inv mX2_stallAt 2 1 5), (5, s_istore 3 6), (6, s_iload 3 7), (7, s_if (fun x => x < 0) 22 10), (10, s_aload 0 11), (11, s_getf 2 3 14), (14, s_iload 3 15), (15, s_aload 0 16), (16, s_getf 2 3 19), (19, s_iload 1 20), (20, s_iald 21), (21, s_iast 22), (22, s_aload 0 23), (23, s_getf 2 3 26), (26, s_iload 1 27), (27, s_iload 2 28), (28, s_iast 29), (29, s_vret)]
set_option maxRecDepth 20000 in
theorem zX2_bring : ∀ q ∈ kX2_bring, Snd RX2 cX2_bring 4 none (rmM mX2_bring) q.1 q.2 :=
  fm (z_aload_n (j := 0) (by decide +kernel) rfl) (
  fm (z_iload_n (j := 2) (by decide +kernel) rfl) (
  fm (z_inv (idx := 71) rfl (by decide +kernel) wd_2_222 wd_1_205 wd_1_206 wd_1_2 wd_1_207 (by decide +kernel) ⟨Nat.le_of_ble_eq_true rfl, Nat.le_of_ble_eq_true rfl⟩) (
  fm (z_istore_n (j := 3) (by decide +kernel) rfl (by decide)) (
  fm (z_iload_n (j := 3) (by decide +kernel) rfl) (
  fm (z_if_lt (off := 15) (by decide +kernel) (by decide)) (
  fm (z_aload_n (j := 0) (by decide +kernel) rfl) (
  fm (z_getf (idx := 21) awX2 rfl (by decide) wd_1_39 rfl (by decide +kernel)) (
  fm (z_iload_n (j := 3) (by decide +kernel) rfl) (
  fm (z_aload_n (j := 0) (by decide +kernel) rfl) (
  fm (z_getf (idx := 21) awX2 rfl (by decide) wd_1_39 rfl (by decide +kernel)) (
  fm (z_iload_n (j := 1) (by decide +kernel) rfl) (
  fm (z_iald (by decide +kernel)) (
  fm (z_iast (by decide +kernel)) (
  fm (z_aload_n (j := 0) (by decide +kernel) rfl) (
  fm (z_getf (idx := 21) awX2 rfl (by decide) wd_1_39 rfl (by decide +kernel)) (
  fm (z_iload_n (j := 1) (by decide +kernel) rfl) (
  fm (z_iload_n (j := 2) (by decide +kernel) rfl) (
  fm (z_iast (by decide +kernel)) (
  fm (z_vret rfl (by decide +kernel)) (fn))))))))))))))))))))
def kX2_draw : Cd := [(0, s_aload 0 1), (1, s_aload 0 2), (2, s_getf 2 11 5), (5, s_pushi 1103515245 7), (7, s_bin (fun x y => x * y) 8), (8, s_pushi 12345 11), (11, s_bin (fun x y => x + y) 12), (12, s_putf .int 2 11 15), (15, s_aload 0 16), (16, s_getf 2 11 19), (19, s_pushi 8 21), (21, s_bin (fun x y => (x.toUInt32 >>> (y.toUInt32 &&& Int32.toUInt32 31)).toInt32) 22), (22, s_iret)]
set_option maxRecDepth 20000 in
theorem zX2_draw : ∀ q ∈ kX2_draw, Snd RX2 cX2_draw 1 (some .int) (rmM mX2_draw) q.1 q.2 :=
  fm (z_aload_n (j := 0) (by decide +kernel) rfl) (
  fm (z_aload_n (j := 0) (by decide +kernel) rfl) (
  fm (z_getf (idx := 36) awX2 rfl (by decide) wd_1_58 rfl (by decide +kernel)) (
  fm (z_ldc (i := 116) (by decide +kernel) wd_2_239) (
  fm (z_imul (by decide +kernel)) (
  fm (z_sipush (n := 12345) (by decide +kernel) (by decide)) (
  fm (z_iadd (by decide +kernel)) (
  fm (z_putf (idx := 36) tyX2 tyX2_ok nmX2 awX2 rfl (by decide) wd_1_58 rfl rfl (by decide +kernel) (by decide +kernel)) (
  fm (z_aload_n (j := 0) (by decide +kernel) rfl) (
  fm (z_getf (idx := 36) awX2 rfl (by decide) wd_1_58 rfl (by decide +kernel)) (
  fm (z_bipush (n := 8) (by decide +kernel) (by decide)) (
  fm (z_iushr (by decide +kernel)) (
  fm (z_iret rfl (by decide +kernel)) (fn)))))))))))))
def kX2_exchange : Cd := [(0, s_aload 0 1), (1, s_getf 2 3 4), (4, s_iload 1 5), (5, s_iald 6), (6, s_istore 3 7), (7, s_aload 0 8), (8, s_getf 2 3 11), (11, s_iload 1 12), (12, s_aload 0 13), (13, s_getf 2 3 16), (16, s_iload 2 17), (17, s_iald 18), (18, s_iast 19), (19, s_aload 0 20), (20, s_getf 2 3 23), (23, s_iload 2 24), (24, s_iload 3 25), (25, s_iast 26), (26, s_vret)]
set_option maxRecDepth 20000 in
theorem zX2_exchange : ∀ q ∈ kX2_exchange, Snd RX2 cX2_exchange 4 none (rmM mX2_exchange) q.1 q.2 :=
  fm (z_aload_n (j := 0) (by decide +kernel) rfl) (
  fm (z_getf (idx := 21) awX2 rfl (by decide) wd_1_39 rfl (by decide +kernel)) (
  fm (z_iload_n (j := 1) (by decide +kernel) rfl) (
  fm (z_iald (by decide +kernel)) (
  fm (z_istore_n (j := 3) (by decide +kernel) rfl (by decide)) (
  fm (z_aload_n (j := 0) (by decide +kernel) rfl) (
  fm (z_getf (idx := 21) awX2 rfl (by decide) wd_1_39 rfl (by decide +kernel)) (
  fm (z_iload_n (j := 1) (by decide +kernel) rfl) (
  fm (z_aload_n (j := 0) (by decide +kernel) rfl) (
  fm (z_getf (idx := 21) awX2 rfl (by decide) wd_1_39 rfl (by decide +kernel)) (
  fm (z_iload_n (j := 2) (by decide +kernel) rfl) (
  fm (z_iald (by decide +kernel)) (
  fm (z_iast (by decide +kernel)) (
  fm (z_aload_n (j := 0) (by decide +kernel) rfl) (
  fm (z_getf (idx := 21) awX2 rfl (by decide) wd_1_39 rfl (by decide +kernel)) (
  fm (z_iload_n (j := 2) (by decide +kernel) rfl) (
  fm (z_iload_n (j := 3) (by decide +kernel) rfl) (
  fm (z_iast (by decide +kernel)) (
  fm (z_vret rfl (by decide +kernel)) (fn)))))))))))))))))))
def kX2_freePlaces : Cd := [(0, s_pushi 4095 3), (3, s_aload 0 4), (4, s_pushi 1 5), (5, s_aload 0 6), (6, s_getf 2 9 9), (9, s_bin (fun x y => x <<< (y &&& 31)) 10), (10, s_pushi 1 11), (11, s_bin (fun x y => x - y) 12), (12, s_inv mX2_placesOf 2 1 15), (15, s_pushi (-1) 16), (16, s_bin (fun x y => x ^^^ y) 17), (17, s_bin (fun x y => x &&& y) 18), (18, s_iret)]
set_option maxRecDepth 20000 in
theorem zX2_freePlaces : ∀ q ∈ kX2_freePlaces, Snd RX2 cX2_freePlaces 1 (some .int) (rmM mX2_freePlaces) q.1 q.2 :=
  fm (z_sipush (n := 4095) (by decide +kernel) (by decide)) (
  fm (z_aload_n (j := 0) (by decide +kernel) rfl) (
  fm (z_iconst (n := 1) (by decide +kernel) (by decide)) (
  fm (z_aload_n (j := 0) (by decide +kernel) rfl) (
  fm (z_getf (idx := 55) awX2 rfl (by decide) wd_1_53 rfl (by decide +kernel)) (
  fm (z_ishl (by decide +kernel)) (
  fm (z_iconst (n := 1) (by decide +kernel) (by decide)) (
  fm (z_isub (by decide +kernel)) (
  fm (z_inv (idx := 99) rfl (by decide +kernel) wd_2_52 wd_2_53 wd_2_54 wd_1_2 wd_2_55 (by decide +kernel) ⟨Nat.le_of_ble_eq_true rfl, Nat.le_of_ble_eq_true rfl⟩) (
  fm (z_iconst (n := (-1)) (by decide +kernel) (by decide)) (
  fm (z_ixor (by decide +kernel)) (
  fm (z_iand (by decide +kernel)) (
  fm (z_iret rfl (by decide +kernel)) (fn)))))))))))))
def kX2_isOfKind : Cd := [(0, s_aload 0 1), (1, s_getf 2 2 4), (4, s_iload 1 5), (5, s_iald 6), (6, s_istore 3 7), (7, s_pushi 0 8), (8, s_istore 4 10), (10, s_iload 4 12), (12, s_pushi 7 14), (14, s_icmp (fun x y => y ≤ x) 40 17), (17, s_iload 3 18), (18, s_if (fun x => x < 0) 40 21), (21, s_iload 3 22), (22, s_iload 2 23), (23, s_icmp (fun x y => x = y) 26 28), (26, s_pushi 1 27), (27, s_zret), (28, s_gets 56 31), (31, s_iload 3 32), (32, s_iald 33), (33, s_istore 3 34), (34, s_iinc 4 1 37), (37, s_goto 10), (40, s_pushi 0 41), (41, s_zret)]
set_option maxRecDepth 20000 in
theorem zX2_isOfKind : ∀ q ∈ kX2_isOfKind, Snd RX2 cX2_isOfKind 5 (some .boolean) (rmM mX2_isOfKind) q.1 q.2 :=
  fm (z_aload_n (j := 0) (by decide +kernel) rfl) (
  fm (z_getf (idx := 18) awX2 rfl (by decide) wd_1_37 rfl (by decide +kernel)) (
  fm (z_iload_n (j := 1) (by decide +kernel) rfl) (
  fm (z_iald (by decide +kernel)) (
  fm (z_istore_n (j := 3) (by decide +kernel) rfl (by decide)) (
  fm (z_iconst (n := 0) (by decide +kernel) (by decide)) (
  fm (z_istore (i := 4) (by decide +kernel) (by decide)) (
  fm (z_iload (i := 4) (by decide +kernel)) (
  fm (z_bipush (n := 7) (by decide +kernel) (by decide)) (
  fm (z_icmp_ge (off := 26) (by decide +kernel) (by decide)) (
  fm (z_iload_n (j := 3) (by decide +kernel) rfl) (
  fm (z_if_lt (off := 22) (by decide +kernel) (by decide)) (
  fm (z_iload_n (j := 3) (by decide +kernel) rfl) (
  fm (z_iload_n (j := 2) (by decide +kernel) rfl) (
  fm (z_icmp_ne (off := 5) (by decide +kernel) (by decide)) (
  fm (z_iconst (n := 1) (by decide +kernel) (by decide)) (
  fm (z_zret rfl (by decide +kernel)) (
  fm (z_getsK rfl (by decide +kernel)) (
  fm (z_iload_n (j := 3) (by decide +kernel) rfl) (
  fm (z_iald (by decide +kernel)) (
  fm (z_istore_n (j := 3) (by decide +kernel) rfl (by decide)) (
  fm (z_iinc (n := 1) (by decide +kernel) (by decide) (by decide)) (
  fm (z_goto (off := (-27)) (by decide +kernel) (by decide)) (
  fm (z_iconst (n := 0) (by decide +kernel) (by decide)) (
  fm (z_zret rfl (by decide +kernel)) (fn)))))))))))))))))))))))))
def kX2_offerAt : Cd := [(0, s_iload 1 1), (1, s_sw [(1, 40), (2, 98), (3, 46), (4, 98), (5, 66), (6, 75)] 98), (40, s_aload 0 41), (41, s_iload 2 42), (42, s_inv mX2_twofoldVisits 2 1 45), (45, s_iret), (46, s_aload 0 47), (47, s_getf 2 1 50), (50, s_iload 2 51), (51, s_iald 52), (52, s_pushi 1 53), (53, s_icmp (fun x y => x = y) 56 64), (56, s_aload 0 57), (57, s_iload 2 58), (58, s_inv mX2_twofoldVisits 2 1 61), (61, s_goto 65), (64, s_pushi 0 65), (65, s_iret), (66, s_aload 0 67), (67, s_getf 2 0 70), (70, s_iload 2 71), (71, s_iald 72), (72, s_pushi 2 73), (73, s_div 74), (74, s_iret), (75, s_aload 0 76), (76, s_getf 2 0 79), (79, s_iload 2 80), (80, s_iald 81), (81, s_pushi 2 82), (82, s_div 83), (83, s_iload 2 84), (84, s_aload 0 85), (85, s_getf 2 8 88), (88, s_icmp (fun x y => x = y) 91 95), (91, s_pushi 3 92), (92, s_goto 96), (95, s_pushi 1 96), (96, s_bin (fun x y => x * y) 97), (97, s_iret), (98, s_aload 0 99), (99, s_getf 2 0 102), (102, s_iload 2 103), (103, s_iald 104), (104, s_iret)]
set_option maxRecDepth 20000 in
theorem zX2_offerAt : ∀ q ∈ kX2_offerAt, Snd RX2 cX2_offerAt 3 (some .int) (rmM mX2_offerAt) q.1 q.2 :=
  fm (z_iload_n (j := 1) (by decide +kernel) rfl) (
  fm (z_tsw (dflt := 97) (lo := 1) (hi := 6) (offs := #[39, 97, 45, 97, 65, 74]) (len := 39) (by decide +kernel) (by decide) rfl (by decide) (by decide +kernel)) (
  fm (z_aload_n (j := 0) (by decide +kernel) rfl) (
  fm (z_iload_n (j := 2) (by decide +kernel) rfl) (
  fm (z_inv (idx := 67) rfl (by decide +kernel) wd_2_10 wd_2_12 ws_2 wd_1_2 wd_2_13 (by decide +kernel) ⟨Nat.le_of_ble_eq_true rfl, Nat.le_of_ble_eq_true rfl⟩) (
  fm (z_iret rfl (by decide +kernel)) (
  fm (z_aload_n (j := 0) (by decide +kernel) rfl) (
  fm (z_getf (idx := 15) awX2 rfl (by decide) wd_1_34 rfl (by decide +kernel)) (
  fm (z_iload_n (j := 2) (by decide +kernel) rfl) (
  fm (z_iald (by decide +kernel)) (
  fm (z_iconst (n := 1) (by decide +kernel) (by decide)) (
  fm (z_icmp_ne (off := 11) (by decide +kernel) (by decide)) (
  fm (z_aload_n (j := 0) (by decide +kernel) rfl) (
  fm (z_iload_n (j := 2) (by decide +kernel) rfl) (
  fm (z_inv (idx := 67) rfl (by decide +kernel) wd_2_10 wd_2_12 ws_2 wd_1_2 wd_2_13 (by decide +kernel) ⟨Nat.le_of_ble_eq_true rfl, Nat.le_of_ble_eq_true rfl⟩) (
  fm (z_goto (off := 4) (by decide +kernel) (by decide)) (
  fm (z_iconst (n := 0) (by decide +kernel) (by decide)) (
  fm (z_iret rfl (by decide +kernel)) (
  fm (z_aload_n (j := 0) (by decide +kernel) rfl) (
  fm (z_getf (idx := 9) awX2 rfl (by decide) wd_1_31 rfl (by decide +kernel)) (
  fm (z_iload_n (j := 2) (by decide +kernel) rfl) (
  fm (z_iald (by decide +kernel)) (
  fm (z_iconst (n := 2) (by decide +kernel) (by decide)) (
  fm (z_idiv (by decide +kernel)) (
  fm (z_iret rfl (by decide +kernel)) (
  fm (z_aload_n (j := 0) (by decide +kernel) rfl) (
  fm (z_getf (idx := 9) awX2 rfl (by decide) wd_1_31 rfl (by decide +kernel)) (
  fm (z_iload_n (j := 2) (by decide +kernel) rfl) (
  fm (z_iald (by decide +kernel)) (
  fm (z_iconst (n := 2) (by decide +kernel) (by decide)) (
  fm (z_idiv (by decide +kernel)) (
  fm (z_iload_n (j := 2) (by decide +kernel) rfl) (
  fm (z_aload_n (j := 0) (by decide +kernel) rfl) (
  fm (z_getf (idx := 52) awX2 rfl (by decide) wd_1_50 rfl (by decide +kernel)) (
  fm (z_icmp_ne (off := 7) (by decide +kernel) (by decide)) (
  fm (z_iconst (n := 3) (by decide +kernel) (by decide)) (
  fm (z_goto (off := 4) (by decide +kernel) (by decide)) (
  fm (z_iconst (n := 1) (by decide +kernel) (by decide)) (
  fm (z_imul (by decide +kernel)) (
  fm (z_iret rfl (by decide +kernel)) (
  fm (z_aload_n (j := 0) (by decide +kernel) rfl) (
  fm (z_getf (idx := 9) awX2 rfl (by decide) wd_1_31 rfl (by decide +kernel)) (
  fm (z_iload_n (j := 2) (by decide +kernel) rfl) (
  fm (z_iald (by decide +kernel)) (
  fm (z_iret rfl (by decide +kernel)) (fn)))))))))))))))))))))))))))))))))))))))))))))
def kX2_passHour : Cd := [(0, s_aload 0 1), (1, s_inv mX2_sellAll 2 0 4), (4, s_istore 1 5), (5, s_aload 0 6), (6, s_inv mX2_strike 2 0 9), (9, s_aload 0 10), (10, s_dup 11), (11, s_getf 2 10 14), (14, s_pushi 1 15), (15, s_bin (fun x y => x + y) 16), (16, s_putf .int 2 10 19), (19, s_iload 1 20), (20, s_iret)]
set_option maxRecDepth 20000 in
theorem zX2_passHour : ∀ q ∈ kX2_passHour, Snd RX2 cX2_passHour 2 (some .int) (rmM mX2_passHour) q.1 q.2 :=
  fm (z_aload_n (j := 0) (by decide +kernel) rfl) (
  fm (z_inv (idx := 78) rfl (by decide +kernel) wd_2_34 wd_2_35 wd_2_36 wd_1_2 wd_2_37 (by decide +kernel) ⟨Nat.le_of_ble_eq_true rfl, Nat.le_of_ble_eq_true rfl⟩) (
  fm (z_istore_n (j := 1) (by decide +kernel) rfl (by decide)) (
  fm (z_aload_n (j := 0) (by decide +kernel) rfl) (
  fm (z_inv (idx := 81) rfl (by decide +kernel) wd_2_43 wd_2_45 ws_4 wd_1_2 wd_2_46 (by decide +kernel) ⟨Nat.le_of_ble_eq_true rfl, Nat.le_of_ble_eq_true rfl⟩) (
  fm (z_aload_n (j := 0) (by decide +kernel) rfl) (
  fm (z_dup (by decide +kernel)) (
  fm (z_getf (idx := 58) awX2 rfl (by decide) wd_1_56 rfl (by decide +kernel)) (
  fm (z_iconst (n := 1) (by decide +kernel) (by decide)) (
  fm (z_iadd (by decide +kernel)) (
  fm (z_putf (idx := 58) tyX2 tyX2_ok nmX2 awX2 rfl (by decide) wd_1_56 rfl rfl (by decide +kernel) (by decide +kernel)) (
  fm (z_iload_n (j := 1) (by decide +kernel) rfl) (
  fm (z_iret rfl (by decide +kernel)) (fn)))))))))))))
def kX2_passHours : Cd := [(0, s_pushi 0 1), (1, s_istore 2 2), (2, s_pushi 0 3), (3, s_istore 3 4), (4, s_iload 3 5), (5, s_iload 1 6), (6, s_icmp (fun x y => y ≤ x) 22 9), (9, s_iload 2 10), (10, s_aload 0 11), (11, s_inv mX2_passHour 2 0 14), (14, s_bin (fun x y => x + y) 15), (15, s_istore 2 16), (16, s_iinc 3 1 19), (19, s_goto 4), (22, s_iload 2 23), (23, s_iret)]
set_option maxRecDepth 20000 in
theorem zX2_passHours : ∀ q ∈ kX2_passHours, Snd RX2 cX2_passHours 4 (some .int) (rmM mX2_passHours) q.1 q.2 :=
  fm (z_iconst (n := 0) (by decide +kernel) (by decide)) (
  fm (z_istore_n (j := 2) (by decide +kernel) rfl (by decide)) (
  fm (z_iconst (n := 0) (by decide +kernel) (by decide)) (
  fm (z_istore_n (j := 3) (by decide +kernel) rfl (by decide)) (
  fm (z_iload_n (j := 3) (by decide +kernel) rfl) (
  fm (z_iload_n (j := 1) (by decide +kernel) rfl) (
  fm (z_icmp_ge (off := 16) (by decide +kernel) (by decide)) (
  fm (z_iload_n (j := 2) (by decide +kernel) rfl) (
  fm (z_aload_n (j := 0) (by decide +kernel) rfl) (
  fm (z_inv (idx := 74) rfl (by decide +kernel) wd_2_30 wd_2_31 wd_2_32 wd_1_2 wd_2_33 (by decide +kernel) ⟨Nat.le_of_ble_eq_true rfl, Nat.le_of_ble_eq_true rfl⟩) (
  fm (z_iadd (by decide +kernel)) (
  fm (z_istore_n (j := 2) (by decide +kernel) rfl (by decide)) (
  fm (z_iinc (n := 1) (by decide +kernel) (by decide) (by decide)) (
  fm (z_goto (off := (-15)) (by decide +kernel) (by decide)) (
  fm (z_iload_n (j := 2) (by decide +kernel) rfl) (
  fm (z_iret rfl (by decide +kernel)) (fn))))))))))))))))
def kX2_placesOf : Cd := [(0, s_pushi 0 1), (1, s_istore 2 2), (2, s_pushi 0 3), (3, s_istore 3 4), (4, s_iload 3 5), (5, s_aload 0 6), (6, s_getf 2 9 9), (9, s_icmp (fun x y => y ≤ x) 38 12), (12, s_iload 1 13), (13, s_iload 3 14), (14, s_bin (fun x y => x >>> (y &&& 31)) 15), (15, s_pushi 1 16), (16, s_bin (fun x y => x &&& y) 17), (17, s_pushi 1 18), (18, s_icmp (fun x y => x = y) 21 32), (21, s_iload 2 22), (22, s_pushi 1 23), (23, s_aload 0 24), (24, s_getf 2 3 27), (27, s_iload 3 28), (28, s_iald 29), (29, s_bin (fun x y => x <<< (y &&& 31)) 30), (30, s_bin (fun x y => x ||| y) 31), (31, s_istore 2 32), (32, s_iinc 3 1 35), (35, s_goto 4), (38, s_iload 2 39), (39, s_iret)]
set_option maxRecDepth 20000 in
theorem zX2_placesOf : ∀ q ∈ kX2_placesOf, Snd RX2 cX2_placesOf 4 (some .int) (rmM mX2_placesOf) q.1 q.2 :=
  fm (z_iconst (n := 0) (by decide +kernel) (by decide)) (
  fm (z_istore_n (j := 2) (by decide +kernel) rfl (by decide)) (
  fm (z_iconst (n := 0) (by decide +kernel) (by decide)) (
  fm (z_istore_n (j := 3) (by decide +kernel) rfl (by decide)) (
  fm (z_iload_n (j := 3) (by decide +kernel) rfl) (
  fm (z_aload_n (j := 0) (by decide +kernel) rfl) (
  fm (z_getf (idx := 55) awX2 rfl (by decide) wd_1_53 rfl (by decide +kernel)) (
  fm (z_icmp_ge (off := 29) (by decide +kernel) (by decide)) (
  fm (z_iload_n (j := 1) (by decide +kernel) rfl) (
  fm (z_iload_n (j := 3) (by decide +kernel) rfl) (
  fm (z_ishr (by decide +kernel)) (
  fm (z_iconst (n := 1) (by decide +kernel) (by decide)) (
  fm (z_iand (by decide +kernel)) (
  fm (z_iconst (n := 1) (by decide +kernel) (by decide)) (
  fm (z_icmp_ne (off := 14) (by decide +kernel) (by decide)) (
  fm (z_iload_n (j := 2) (by decide +kernel) rfl) (
  fm (z_iconst (n := 1) (by decide +kernel) (by decide)) (
  fm (z_aload_n (j := 0) (by decide +kernel) rfl) (
  fm (z_getf (idx := 21) awX2 rfl (by decide) wd_1_39 rfl (by decide +kernel)) (
  fm (z_iload_n (j := 3) (by decide +kernel) rfl) (
  fm (z_iald (by decide +kernel)) (
  fm (z_ishl (by decide +kernel)) (
  fm (z_ior (by decide +kernel)) (
  fm (z_istore_n (j := 2) (by decide +kernel) rfl (by decide)) (
  fm (z_iinc (n := 1) (by decide +kernel) (by decide) (by decide)) (
  fm (z_goto (off := (-31)) (by decide +kernel) (by decide)) (
  fm (z_iload_n (j := 2) (by decide +kernel) rfl) (
  fm (z_iret rfl (by decide +kernel)) (fn))))))))))))))))))))))))))))
def kX2_priceOf : Cd := [(0, s_gets 57 3), (3, s_aload 0 4), (4, s_getf 2 2 7), (7, s_iload 1 8), (8, s_iald 9), (9, s_iald 10), (10, s_iret)]
set_option maxRecDepth 20000 in
theorem zX2_priceOf : ∀ q ∈ kX2_priceOf, Snd RX2 cX2_priceOf 2 (some .int) (rmM mX2_priceOf) q.1 q.2 :=
  fm (z_getsP rfl (by decide +kernel)) (
  fm (z_aload_n (j := 0) (by decide +kernel) rfl) (
  fm (z_getf (idx := 18) awX2 rfl (by decide) wd_1_37 rfl (by decide +kernel)) (
  fm (z_iload_n (j := 1) (by decide +kernel) rfl) (
  fm (z_iald (by decide +kernel)) (
  fm (z_iald (by decide +kernel)) (
  fm (z_iret rfl (by decide +kernel)) (fn)))))))
def kX2_sellAll : Cd := [(0, s_pushi 0 1), (1, s_istore 1 2), (2, s_pushi 0 3), (3, s_istore 2 4), (4, s_iload 2 5), (5, s_aload 0 6), (6, s_getf 2 9 9), (9, s_icmp (fun x y => y ≤ x) 84 12), (12, s_aload 0 13), (13, s_getf 2 4 16), (16, s_iload 2 17), (17, s_iald 18), (18, s_aload 0 19), (19, s_aload 0 20), (20, s_getf 2 2 23), (23, s_iload 2 24), (24, s_iald 25), (25, s_aload 0 26), (26, s_getf 2 3 29), (29, s_iload 2 30), (30, s_iald 31), (31, s_inv mX2_offerAt 2 2 34), (34, s_min 37), (37, s_istore 3 38), (38, s_aload 0 39), (39, s_getf 2 4 42), (42, s_iload 2 43), (43, s_dup2 44), (44, s_iald 45), (45, s_iload 3 46), (46, s_bin (fun x y => x - y) 47), (47, s_iast 48), (48, s_aload 0 49), (49, s_getf 2 6 52), (52, s_iload 2 53), (53, s_dup2 54), (54, s_iald 55), (55, s_iload 3 56), (56, s_bin (fun x y => x + y) 57), (57, s_iast 58), (58, s_aload 0 59), (59, s_getf 2 5 62), (62, s_iload 2 63), (63, s_dup2 64), (64, s_iald 65), (65, s_iload 3 66), (66, s_aload 0 67), (67, s_iload 2 68), (68, s_inv mX2_priceOf 2 1 71), (71, s_bin (fun x y => x * y) 72), (72, s_bin (fun x y => x + y) 73), (73, s_iast 74), (74, s_iload 1 75), (75, s_iload 3 76), (76, s_bin (fun x y => x + y) 77), (77, s_istore 1 78), (78, s_iinc 2 1 81), (81, s_goto 4), (84, s_iload 1 85), (85, s_iret)]
set_option maxRecDepth 20000 in
theorem zX2_sellAll : ∀ q ∈ kX2_sellAll, Snd RX2 cX2_sellAll 4 (some .int) (rmM mX2_sellAll) q.1 q.2 :=
  fm (z_iconst (n := 0) (by decide +kernel) (by decide)) (
  fm (z_istore_n (j := 1) (by decide +kernel) rfl (by decide)) (
  fm (z_iconst (n := 0) (by decide +kernel) (by decide)) (
  fm (z_istore_n (j := 2) (by decide +kernel) rfl (by decide)) (
  fm (z_iload_n (j := 2) (by decide +kernel) rfl) (
  fm (z_aload_n (j := 0) (by decide +kernel) rfl) (
  fm (z_getf (idx := 55) awX2 rfl (by decide) wd_1_53 rfl (by decide +kernel)) (
  fm (z_icmp_ge (off := 75) (by decide +kernel) (by decide)) (
  fm (z_aload_n (j := 0) (by decide +kernel) rfl) (
  fm (z_getf (idx := 24) awX2 rfl (by decide) wd_1_41 rfl (by decide +kernel)) (
  fm (z_iload_n (j := 2) (by decide +kernel) rfl) (
  fm (z_iald (by decide +kernel)) (
  fm (z_aload_n (j := 0) (by decide +kernel) rfl) (
  fm (z_aload_n (j := 0) (by decide +kernel) rfl) (
  fm (z_getf (idx := 18) awX2 rfl (by decide) wd_1_37 rfl (by decide +kernel)) (
  fm (z_iload_n (j := 2) (by decide +kernel) rfl) (
  fm (z_iald (by decide +kernel)) (
  fm (z_aload_n (j := 0) (by decide +kernel) rfl) (
  fm (z_getf (idx := 21) awX2 rfl (by decide) wd_1_39 rfl (by decide +kernel)) (
  fm (z_iload_n (j := 2) (by decide +kernel) rfl) (
  fm (z_iald (by decide +kernel)) (
  fm (z_inv (idx := 84) rfl (by decide +kernel) wd_2_38 wd_2_7 wd_2_8 wd_1_2 wd_2_9 (by decide +kernel) ⟨Nat.le_of_ble_eq_true rfl, Nat.le_of_ble_eq_true rfl⟩) (
  fm (z_min (idx := 88) (by decide +kernel) wd_2_39 wd_2_40 wd_1_8 wd_2_41 ⟨Nat.le_of_ble_eq_true rfl, Nat.le_of_ble_eq_true rfl⟩) (
  fm (z_istore_n (j := 3) (by decide +kernel) rfl (by decide)) (
  fm (z_aload_n (j := 0) (by decide +kernel) rfl) (
  fm (z_getf (idx := 24) awX2 rfl (by decide) wd_1_41 rfl (by decide +kernel)) (
  fm (z_iload_n (j := 2) (by decide +kernel) rfl) (
  fm (z_dup2 (by decide +kernel)) (
  fm (z_iald (by decide +kernel)) (
  fm (z_iload_n (j := 3) (by decide +kernel) rfl) (
  fm (z_isub (by decide +kernel)) (
  fm (z_iast (by decide +kernel)) (
  fm (z_aload_n (j := 0) (by decide +kernel) rfl) (
  fm (z_getf (idx := 30) awX2 rfl (by decide) wd_1_46 rfl (by decide +kernel)) (
  fm (z_iload_n (j := 2) (by decide +kernel) rfl) (
  fm (z_dup2 (by decide +kernel)) (
  fm (z_iald (by decide +kernel)) (
  fm (z_iload_n (j := 3) (by decide +kernel) rfl) (
  fm (z_iadd (by decide +kernel)) (
  fm (z_iast (by decide +kernel)) (
  fm (z_aload_n (j := 0) (by decide +kernel) rfl) (
  fm (z_getf (idx := 27) awX2 rfl (by decide) wd_1_44 rfl (by decide +kernel)) (
  fm (z_iload_n (j := 2) (by decide +kernel) rfl) (
  fm (z_dup2 (by decide +kernel)) (
  fm (z_iald (by decide +kernel)) (
  fm (z_iload_n (j := 3) (by decide +kernel) rfl) (
  fm (z_aload_n (j := 0) (by decide +kernel) rfl) (
  fm (z_iload_n (j := 2) (by decide +kernel) rfl) (
  fm (z_inv (idx := 93) rfl (by decide +kernel) wd_2_42 wd_1_221 wd_1_222 wd_1_2 wd_1_223 (by decide +kernel) ⟨Nat.le_of_ble_eq_true rfl, Nat.le_of_ble_eq_true rfl⟩) (
  fm (z_imul (by decide +kernel)) (
  fm (z_iadd (by decide +kernel)) (
  fm (z_iast (by decide +kernel)) (
  fm (z_iload_n (j := 1) (by decide +kernel) rfl) (
  fm (z_iload_n (j := 3) (by decide +kernel) rfl) (
  fm (z_iadd (by decide +kernel)) (
  fm (z_istore_n (j := 1) (by decide +kernel) rfl (by decide)) (
  fm (z_iinc (n := 1) (by decide +kernel) (by decide) (by decide)) (
  fm (z_goto (off := (-77)) (by decide +kernel) (by decide)) (
  fm (z_iload_n (j := 1) (by decide +kernel) rfl) (
  fm (z_iret rfl (by decide +kernel)) (fn))))))))))))))))))))))))))))))))))))))))))))))))))))))))))))
def kX2_soldOut : Cd := [(0, s_pushi 0 1), (1, s_istore 1 2), (2, s_pushi 0 3), (3, s_istore 2 4), (4, s_iload 2 5), (5, s_aload 0 6), (6, s_getf 2 9 9), (9, s_icmp (fun x y => y ≤ x) 33 12), (12, s_aload 0 13), (13, s_getf 2 4 16), (16, s_iload 2 17), (17, s_iald 18), (18, s_if (fun x => x = 0) 21 27), (21, s_iload 1 22), (22, s_pushi 1 23), (23, s_iload 2 24), (24, s_bin (fun x y => x <<< (y &&& 31)) 25), (25, s_bin (fun x y => x ||| y) 26), (26, s_istore 1 27), (27, s_iinc 2 1 30), (30, s_goto 4), (33, s_iload 1 34), (34, s_iret)]
set_option maxRecDepth 20000 in
theorem zX2_soldOut : ∀ q ∈ kX2_soldOut, Snd RX2 cX2_soldOut 3 (some .int) (rmM mX2_soldOut) q.1 q.2 :=
  fm (z_iconst (n := 0) (by decide +kernel) (by decide)) (
  fm (z_istore_n (j := 1) (by decide +kernel) rfl (by decide)) (
  fm (z_iconst (n := 0) (by decide +kernel) (by decide)) (
  fm (z_istore_n (j := 2) (by decide +kernel) rfl (by decide)) (
  fm (z_iload_n (j := 2) (by decide +kernel) rfl) (
  fm (z_aload_n (j := 0) (by decide +kernel) rfl) (
  fm (z_getf (idx := 55) awX2 rfl (by decide) wd_1_53 rfl (by decide +kernel)) (
  fm (z_icmp_ge (off := 24) (by decide +kernel) (by decide)) (
  fm (z_aload_n (j := 0) (by decide +kernel) rfl) (
  fm (z_getf (idx := 24) awX2 rfl (by decide) wd_1_41 rfl (by decide +kernel)) (
  fm (z_iload_n (j := 2) (by decide +kernel) rfl) (
  fm (z_iald (by decide +kernel)) (
  fm (z_if_ne (off := 9) (by decide +kernel) (by decide)) (
  fm (z_iload_n (j := 1) (by decide +kernel) rfl) (
  fm (z_iconst (n := 1) (by decide +kernel) (by decide)) (
  fm (z_iload_n (j := 2) (by decide +kernel) rfl) (
  fm (z_ishl (by decide +kernel)) (
  fm (z_ior (by decide +kernel)) (
  fm (z_istore_n (j := 1) (by decide +kernel) rfl (by decide)) (
  fm (z_iinc (n := 1) (by decide +kernel) (by decide) (by decide)) (
  fm (z_goto (off := (-26)) (by decide +kernel) (by decide)) (
  fm (z_iload_n (j := 1) (by decide +kernel) rfl) (
  fm (z_iret rfl (by decide +kernel)) (fn)))))))))))))))))))))))
def kX2_spotsInUse : Cd := [(0, s_pushi 0 1), (1, s_istore 1 2), (2, s_pushi 0 3), (3, s_istore 2 4), (4, s_iload 2 5), (5, s_pushi 10 7), (7, s_icmp (fun x y => y ≤ x) 28 10), (10, s_aload 0 11), (11, s_getf 2 7 14), (14, s_iload 2 15), (15, s_iald 16), (16, s_if (fun x => x < 0) 22 19), (19, s_iinc 1 1 22), (22, s_iinc 2 1 25), (25, s_goto 4), (28, s_iload 1 29), (29, s_iret)]
set_option maxRecDepth 20000 in
theorem zX2_spotsInUse : ∀ q ∈ kX2_spotsInUse, Snd RX2 cX2_spotsInUse 3 (some .int) (rmM mX2_spotsInUse) q.1 q.2 :=
  fm (z_iconst (n := 0) (by decide +kernel) (by decide)) (
  fm (z_istore_n (j := 1) (by decide +kernel) rfl (by decide)) (
  fm (z_iconst (n := 0) (by decide +kernel) (by decide)) (
  fm (z_istore_n (j := 2) (by decide +kernel) rfl (by decide)) (
  fm (z_iload_n (j := 2) (by decide +kernel) rfl) (
  fm (z_bipush (n := 10) (by decide +kernel) (by decide)) (
  fm (z_icmp_ge (off := 21) (by decide +kernel) (by decide)) (
  fm (z_aload_n (j := 0) (by decide +kernel) rfl) (
  fm (z_getf (idx := 33) awX2 rfl (by decide) wd_1_48 rfl (by decide +kernel)) (
  fm (z_iload_n (j := 2) (by decide +kernel) rfl) (
  fm (z_iald (by decide +kernel)) (
  fm (z_if_lt (off := 6) (by decide +kernel) (by decide)) (
  fm (z_iinc (n := 1) (by decide +kernel) (by decide) (by decide)) (
  fm (z_iinc (n := 1) (by decide +kernel) (by decide) (by decide)) (
  fm (z_goto (off := (-21)) (by decide +kernel) (by decide)) (
  fm (z_iload_n (j := 1) (by decide +kernel) rfl) (
  fm (z_iret rfl (by decide +kernel)) (fn)))))))))))))))))
def kX2_stallAt : Cd := [(0, s_pushi 0 1), (1, s_istore 2 2), (2, s_iload 2 3), (3, s_aload 0 4), (4, s_getf 2 9 7), (7, s_icmp (fun x y => y ≤ x) 28 10), (10, s_aload 0 11), (11, s_getf 2 3 14), (14, s_iload 2 15), (15, s_iald 16), (16, s_iload 1 17), (17, s_icmp (fun x y => x = y) 20 22), (20, s_iload 2 21), (21, s_iret), (22, s_iinc 2 1 25), (25, s_goto 2), (28, s_pushi (-1) 29), (29, s_iret)]
set_option maxRecDepth 20000 in
theorem zX2_stallAt : ∀ q ∈ kX2_stallAt, Snd RX2 cX2_stallAt 3 (some .int) (rmM mX2_stallAt) q.1 q.2 :=
  fm (z_iconst (n := 0) (by decide +kernel) (by decide)) (
  fm (z_istore_n (j := 2) (by decide +kernel) rfl (by decide)) (
  fm (z_iload_n (j := 2) (by decide +kernel) rfl) (
  fm (z_aload_n (j := 0) (by decide +kernel) rfl) (
  fm (z_getf (idx := 55) awX2 rfl (by decide) wd_1_53 rfl (by decide +kernel)) (
  fm (z_icmp_ge (off := 21) (by decide +kernel) (by decide)) (
  fm (z_aload_n (j := 0) (by decide +kernel) rfl) (
  fm (z_getf (idx := 21) awX2 rfl (by decide) wd_1_39 rfl (by decide +kernel)) (
  fm (z_iload_n (j := 2) (by decide +kernel) rfl) (
  fm (z_iald (by decide +kernel)) (
  fm (z_iload_n (j := 1) (by decide +kernel) rfl) (
  fm (z_icmp_ne (off := 5) (by decide +kernel) (by decide)) (
  fm (z_iload_n (j := 2) (by decide +kernel) rfl) (
  fm (z_iret rfl (by decide +kernel)) (
  fm (z_iinc (n := 1) (by decide +kernel) (by decide) (by decide)) (
  fm (z_goto (off := (-23)) (by decide +kernel) (by decide)) (
  fm (z_iconst (n := (-1)) (by decide +kernel) (by decide)) (
  fm (z_iret rfl (by decide +kernel)) (fn))))))))))))))))))
def kX2_standsLike : Cd := [(0, s_pushi 0 1), (1, s_istore 2 2), (2, s_iload 2 3), (3, s_aload 0 4), (4, s_getf 2 9 7), (7, s_icmp (fun x y => y ≤ x) 33 10), (10, s_aload 0 11), (11, s_getf 2 3 14), (14, s_iload 2 15), (15, s_iald 16), (16, s_aload 1 17), (17, s_getf 2 3 20), (20, s_iload 2 21), (21, s_iald 22), (22, s_icmp (fun x y => x = y) 27 25), (25, s_pushi 0 26), (26, s_zret), (27, s_iinc 2 1 30), (30, s_goto 2), (33, s_pushi 1 34), (34, s_zret)]
set_option maxRecDepth 20000 in
theorem zX2_standsLike : ∀ q ∈ kX2_standsLike, Snd RX2 cX2_standsLike 3 (some .boolean) (rmM mX2_standsLike) q.1 q.2 :=
  fm (z_iconst (n := 0) (by decide +kernel) (by decide)) (
  fm (z_istore_n (j := 2) (by decide +kernel) rfl (by decide)) (
  fm (z_iload_n (j := 2) (by decide +kernel) rfl) (
  fm (z_aload_n (j := 0) (by decide +kernel) rfl) (
  fm (z_getf (idx := 55) awX2 rfl (by decide) wd_1_53 rfl (by decide +kernel)) (
  fm (z_icmp_ge (off := 26) (by decide +kernel) (by decide)) (
  fm (z_aload_n (j := 0) (by decide +kernel) rfl) (
  fm (z_getf (idx := 21) awX2 rfl (by decide) wd_1_39 rfl (by decide +kernel)) (
  fm (z_iload_n (j := 2) (by decide +kernel) rfl) (
  fm (z_iald (by decide +kernel)) (
  fm (z_aload_n (j := 1) (by decide +kernel) rfl) (
  fm (z_getf (idx := 21) awX2 rfl (by decide) wd_1_39 rfl (by decide +kernel)) (
  fm (z_iload_n (j := 2) (by decide +kernel) rfl) (
  fm (z_iald (by decide +kernel)) (
  fm (z_icmp_eq (off := 5) (by decide +kernel) (by decide)) (
  fm (z_iconst (n := 0) (by decide +kernel) (by decide)) (
  fm (z_zret rfl (by decide +kernel)) (
  fm (z_iinc (n := 1) (by decide +kernel) (by decide) (by decide)) (
  fm (z_goto (off := (-28)) (by decide +kernel) (by decide)) (
  fm (z_iconst (n := 1) (by decide +kernel) (by decide)) (
  fm (z_zret rfl (by decide +kernel)) (fn)))))))))))))))))))))
def kX2_stayers : Cd := [(0, s_pushi 0 1), (1, s_istore 1 2), (2, s_pushi 0 3), (3, s_istore 2 4), (4, s_iload 2 5), (5, s_aload 0 6), (6, s_getf 2 9 9), (9, s_icmp (fun x y => y ≤ x) 41 12), (12, s_aload 0 13), (13, s_getf 2 4 16), (16, s_iload 2 17), (17, s_iald 18), (18, s_if (fun x => x = 0) 29 21), (21, s_aload 0 22), (22, s_iload 2 23), (23, s_inv mX2_wouldGo 2 1 26), (26, s_if (fun x => x = 0) 29 35), (29, s_iload 1 30), (30, s_pushi 1 31), (31, s_iload 2 32), (32, s_bin (fun x y => x <<< (y &&& 31)) 33), (33, s_bin (fun x y => x ||| y) 34), (34, s_istore 1 35), (35, s_iinc 2 1 38), (38, s_goto 4), (41, s_iload 1 42), (42, s_iret)]
set_option maxRecDepth 20000 in
theorem zX2_stayers : ∀ q ∈ kX2_stayers, Snd RX2 cX2_stayers 3 (some .int) (rmM mX2_stayers) q.1 q.2 :=
  fm (z_iconst (n := 0) (by decide +kernel) (by decide)) (
  fm (z_istore_n (j := 1) (by decide +kernel) rfl (by decide)) (
  fm (z_iconst (n := 0) (by decide +kernel) (by decide)) (
  fm (z_istore_n (j := 2) (by decide +kernel) rfl (by decide)) (
  fm (z_iload_n (j := 2) (by decide +kernel) rfl) (
  fm (z_aload_n (j := 0) (by decide +kernel) rfl) (
  fm (z_getf (idx := 55) awX2 rfl (by decide) wd_1_53 rfl (by decide +kernel)) (
  fm (z_icmp_ge (off := 32) (by decide +kernel) (by decide)) (
  fm (z_aload_n (j := 0) (by decide +kernel) rfl) (
  fm (z_getf (idx := 24) awX2 rfl (by decide) wd_1_41 rfl (by decide +kernel)) (
  fm (z_iload_n (j := 2) (by decide +kernel) rfl) (
  fm (z_iald (by decide +kernel)) (
  fm (z_if_eq (off := 11) (by decide +kernel) (by decide)) (
  fm (z_aload_n (j := 0) (by decide +kernel) rfl) (
  fm (z_iload_n (j := 2) (by decide +kernel) rfl) (
  fm (z_inv (idx := 105) rfl (by decide +kernel) wd_2_51 wd_1_227 wd_1_228 wd_1_2 wd_1_229 (by decide +kernel) ⟨Nat.le_of_ble_eq_true rfl, Nat.le_of_ble_eq_true rfl⟩) (
  fm (z_if_ne (off := 9) (by decide +kernel) (by decide)) (
  fm (z_iload_n (j := 1) (by decide +kernel) rfl) (
  fm (z_iconst (n := 1) (by decide +kernel) (by decide)) (
  fm (z_iload_n (j := 2) (by decide +kernel) rfl) (
  fm (z_ishl (by decide +kernel)) (
  fm (z_ior (by decide +kernel)) (
  fm (z_istore_n (j := 1) (by decide +kernel) rfl (by decide)) (
  fm (z_iinc (n := 1) (by decide +kernel) (by decide) (by decide)) (
  fm (z_goto (off := (-34)) (by decide +kernel) (by decide)) (
  fm (z_iload_n (j := 1) (by decide +kernel) rfl) (
  fm (z_iret rfl (by decide +kernel)) (fn)))))))))))))))))))))))))))
def kX2_stepsFrom : Cd := [(0, s_pushi 1 1), (1, s_istore 3 2), (2, s_iload 3 3), (3, s_pushi 12 5), (5, s_icmp (fun x y => y ≤ x) 28 8), (8, s_iload 2 9), (9, s_iload 1 10), (10, s_iload 3 11), (11, s_bin (fun x y => x + y) 12), (12, s_pushi 12 14), (14, s_rem 15), (15, s_bin (fun x y => x >>> (y &&& 31)) 16), (16, s_pushi 1 17), (17, s_bin (fun x y => x &&& y) 18), (18, s_pushi 1 19), (19, s_icmp (fun x y => x = y) 22 28), (22, s_iinc 3 1 25), (25, s_goto 2), (28, s_iload 3 29), (29, s_iret)]
set_option maxRecDepth 20000 in
theorem zX2_stepsFrom : ∀ q ∈ kX2_stepsFrom, Snd RX2 cX2_stepsFrom 4 (some .int) (rmM mX2_stepsFrom) q.1 q.2 :=
  fm (z_iconst (n := 1) (by decide +kernel) (by decide)) (
  fm (z_istore_n (j := 3) (by decide +kernel) rfl (by decide)) (
  fm (z_iload_n (j := 3) (by decide +kernel) rfl) (
  fm (z_bipush (n := 12) (by decide +kernel) (by decide)) (
  fm (z_icmp_ge (off := 23) (by decide +kernel) (by decide)) (
  fm (z_iload_n (j := 2) (by decide +kernel) rfl) (
  fm (z_iload_n (j := 1) (by decide +kernel) rfl) (
  fm (z_iload_n (j := 3) (by decide +kernel) rfl) (
  fm (z_iadd (by decide +kernel)) (
  fm (z_bipush (n := 12) (by decide +kernel) (by decide)) (
  fm (z_irem (by decide +kernel)) (
  fm (z_ishr (by decide +kernel)) (
  fm (z_iconst (n := 1) (by decide +kernel) (by decide)) (
  fm (z_iand (by decide +kernel)) (
  fm (z_iconst (n := 1) (by decide +kernel) (by decide)) (
  fm (z_icmp_ne (off := 9) (by decide +kernel) (by decide)) (
  fm (z_iinc (n := 1) (by decide +kernel) (by decide) (by decide)) (
  fm (z_goto (off := (-23)) (by decide +kernel) (by decide)) (
  fm (z_iload_n (j := 3) (by decide +kernel) rfl) (
  fm (z_iret rfl (by decide +kernel)) (fn))))))))))))))))))))
def kX2_strike : Cd := [(0, s_aload 0 1), (1, s_inv mX2_stayers 2 0 4), (4, s_istore 1 5), (5, s_aload 0 6), (6, s_iload 1 7), (7, s_inv mX2_placesOf 2 1 10), (10, s_istore 2 11), (11, s_pushi 0 12), (12, s_istore 3 13), (13, s_iload 3 14), (14, s_aload 0 15), (15, s_getf 2 9 18), (18, s_icmp (fun x y => y ≤ x) 62 21), (21, s_iload 1 22), (22, s_iload 3 23), (23, s_bin (fun x y => x >>> (y &&& 31)) 24), (24, s_pushi 1 25), (25, s_bin (fun x y => x &&& y) 26), (26, s_if (fun x => x = 0) 29 56), (29, s_aload 0 30), (30, s_getf 2 3 33), (33, s_iload 3 34), (34, s_aload 0 35), (35, s_getf 2 3 38), (38, s_iload 3 39), (39, s_iald 40), (40, s_aload 0 41), (41, s_aload 0 42), (42, s_getf 2 3 45), (45, s_iload 3 46), (46, s_iald 47), (47, s_iload 2 48), (48, s_inv mX2_stepsFrom 2 2 51), (51, s_bin (fun x y => x + y) 52), (52, s_pushi 12 54), (54, s_rem 55), (55, s_iast 56), (56, s_iinc 3 1 59), (59, s_goto 13), (62, s_vret)]
set_option maxRecDepth 20000 in
theorem zX2_strike : ∀ q ∈ kX2_strike, Snd RX2 cX2_strike 4 none (rmM mX2_strike) q.1 q.2 :=
  fm (z_aload_n (j := 0) (by decide +kernel) rfl) (
  fm (z_inv (idx := 96) rfl (by decide +kernel) wd_2_47 wd_2_48 wd_2_49 wd_1_2 wd_2_50 (by decide +kernel) ⟨Nat.le_of_ble_eq_true rfl, Nat.le_of_ble_eq_true rfl⟩) (
  fm (z_istore_n (j := 1) (by decide +kernel) rfl (by decide)) (
  fm (z_aload_n (j := 0) (by decide +kernel) rfl) (
  fm (z_iload_n (j := 1) (by decide +kernel) rfl) (
  fm (z_inv (idx := 99) rfl (by decide +kernel) wd_2_52 wd_2_53 wd_2_54 wd_1_2 wd_2_55 (by decide +kernel) ⟨Nat.le_of_ble_eq_true rfl, Nat.le_of_ble_eq_true rfl⟩) (
  fm (z_istore_n (j := 2) (by decide +kernel) rfl (by decide)) (
  fm (z_iconst (n := 0) (by decide +kernel) (by decide)) (
  fm (z_istore_n (j := 3) (by decide +kernel) rfl (by decide)) (
  fm (z_iload_n (j := 3) (by decide +kernel) rfl) (
  fm (z_aload_n (j := 0) (by decide +kernel) rfl) (
  fm (z_getf (idx := 55) awX2 rfl (by decide) wd_1_53 rfl (by decide +kernel)) (
  fm (z_icmp_ge (off := 44) (by decide +kernel) (by decide)) (
  fm (z_iload_n (j := 1) (by decide +kernel) rfl) (
  fm (z_iload_n (j := 3) (by decide +kernel) rfl) (
  fm (z_ishr (by decide +kernel)) (
  fm (z_iconst (n := 1) (by decide +kernel) (by decide)) (
  fm (z_iand (by decide +kernel)) (
  fm (z_if_ne (off := 30) (by decide +kernel) (by decide)) (
  fm (z_aload_n (j := 0) (by decide +kernel) rfl) (
  fm (z_getf (idx := 21) awX2 rfl (by decide) wd_1_39 rfl (by decide +kernel)) (
  fm (z_iload_n (j := 3) (by decide +kernel) rfl) (
  fm (z_aload_n (j := 0) (by decide +kernel) rfl) (
  fm (z_getf (idx := 21) awX2 rfl (by decide) wd_1_39 rfl (by decide +kernel)) (
  fm (z_iload_n (j := 3) (by decide +kernel) rfl) (
  fm (z_iald (by decide +kernel)) (
  fm (z_aload_n (j := 0) (by decide +kernel) rfl) (
  fm (z_aload_n (j := 0) (by decide +kernel) rfl) (
  fm (z_getf (idx := 21) awX2 rfl (by decide) wd_1_39 rfl (by decide +kernel)) (
  fm (z_iload_n (j := 3) (by decide +kernel) rfl) (
  fm (z_iald (by decide +kernel)) (
  fm (z_iload_n (j := 2) (by decide +kernel) rfl) (
  fm (z_inv (idx := 102) rfl (by decide +kernel) wd_2_56 wd_2_57 wd_2_58 wd_1_2 wd_2_59 (by decide +kernel) ⟨Nat.le_of_ble_eq_true rfl, Nat.le_of_ble_eq_true rfl⟩) (
  fm (z_iadd (by decide +kernel)) (
  fm (z_bipush (n := 12) (by decide +kernel) (by decide)) (
  fm (z_irem (by decide +kernel)) (
  fm (z_iast (by decide +kernel)) (
  fm (z_iinc (n := 1) (by decide +kernel) (by decide) (by decide)) (
  fm (z_goto (off := (-46)) (by decide +kernel) (by decide)) (
  fm (z_vret rfl (by decide +kernel)) (fn))))))))))))))))))))))))))))))))))))))))
def kX2_twofoldVisits : Cd := [(0, s_aload 0 1), (1, s_getf 2 0 4), (4, s_iload 1 5), (5, s_iald 6), (6, s_aload 0 7), (7, s_getf 2 0 10), (10, s_iload 1 11), (11, s_pushi 1 12), (12, s_bin (fun x y => x + y) 13), (13, s_pushi 12 15), (15, s_rem 16), (16, s_iald 17), (17, s_bin (fun x y => x + y) 18), (18, s_iret)]
set_option maxRecDepth 20000 in
theorem zX2_twofoldVisits : ∀ q ∈ kX2_twofoldVisits, Snd RX2 cX2_twofoldVisits 2 (some .int) (rmM mX2_twofoldVisits) q.1 q.2 :=
  fm (z_aload_n (j := 0) (by decide +kernel) rfl) (
  fm (z_getf (idx := 9) awX2 rfl (by decide) wd_1_31 rfl (by decide +kernel)) (
  fm (z_iload_n (j := 1) (by decide +kernel) rfl) (
  fm (z_iald (by decide +kernel)) (
  fm (z_aload_n (j := 0) (by decide +kernel) rfl) (
  fm (z_getf (idx := 9) awX2 rfl (by decide) wd_1_31 rfl (by decide +kernel)) (
  fm (z_iload_n (j := 1) (by decide +kernel) rfl) (
  fm (z_iconst (n := 1) (by decide +kernel) (by decide)) (
  fm (z_iadd (by decide +kernel)) (
  fm (z_bipush (n := 12) (by decide +kernel) (by decide)) (
  fm (z_irem (by decide +kernel)) (
  fm (z_iald (by decide +kernel)) (
  fm (z_iadd (by decide +kernel)) (
  fm (z_iret rfl (by decide +kernel)) (fn))))))))))))))
def kX2_wouldGo : Cd := [(0, s_aload 0 1), (1, s_getf 2 2 4), (4, s_iload 1 5), (5, s_iald 6), (6, s_sw [(2, 32), (4, 47)] 71), (32, s_aload 0 33), (33, s_getf 2 10 36), (36, s_pushi 2 37), (37, s_rem 38), (38, s_if (fun x => x = 0) 41 45), (41, s_pushi 1 42), (42, s_goto 46), (45, s_pushi 0 46), (46, s_zret), (47, s_aload 0 48), (48, s_getf 2 10 51), (51, s_pushi 2 52), (52, s_rem 53), (53, s_if (fun x => x = 0) 56 69), (56, s_aload 0 57), (57, s_getf 2 10 60), (60, s_pushi 3 61), (61, s_rem 62), (62, s_if (fun x => x = 0) 65 69), (65, s_pushi 1 66), (66, s_goto 70), (69, s_pushi 0 70), (70, s_zret), (71, s_pushi 1 72), (72, s_zret)]
set_option maxRecDepth 20000 in
theorem zX2_wouldGo : ∀ q ∈ kX2_wouldGo, Snd RX2 cX2_wouldGo 2 (some .boolean) (rmM mX2_wouldGo) q.1 q.2 :=
  fm (z_aload_n (j := 0) (by decide +kernel) rfl) (
  fm (z_getf (idx := 18) awX2 rfl (by decide) wd_1_37 rfl (by decide +kernel)) (
  fm (z_iload_n (j := 1) (by decide +kernel) rfl) (
  fm (z_iald (by decide +kernel)) (
  fm (z_lsw (dflt := 65) (ps := #[(2, 26), (4, 41)]) (len := 26) (by decide +kernel) (by decide) (by decide +kernel) (by decide +kernel)) (
  fm (z_aload_n (j := 0) (by decide +kernel) rfl) (
  fm (z_getf (idx := 58) awX2 rfl (by decide) wd_1_56 rfl (by decide +kernel)) (
  fm (z_iconst (n := 2) (by decide +kernel) (by decide)) (
  fm (z_irem (by decide +kernel)) (
  fm (z_if_ne (off := 7) (by decide +kernel) (by decide)) (
  fm (z_iconst (n := 1) (by decide +kernel) (by decide)) (
  fm (z_goto (off := 4) (by decide +kernel) (by decide)) (
  fm (z_iconst (n := 0) (by decide +kernel) (by decide)) (
  fm (z_zret rfl (by decide +kernel)) (
  fm (z_aload_n (j := 0) (by decide +kernel) rfl) (
  fm (z_getf (idx := 58) awX2 rfl (by decide) wd_1_56 rfl (by decide +kernel)) (
  fm (z_iconst (n := 2) (by decide +kernel) (by decide)) (
  fm (z_irem (by decide +kernel)) (
  fm (z_if_ne (off := 16) (by decide +kernel) (by decide)) (
  fm (z_aload_n (j := 0) (by decide +kernel) rfl) (
  fm (z_getf (idx := 58) awX2 rfl (by decide) wd_1_56 rfl (by decide +kernel)) (
  fm (z_iconst (n := 3) (by decide +kernel) (by decide)) (
  fm (z_irem (by decide +kernel)) (
  fm (z_if_ne (off := 7) (by decide +kernel) (by decide)) (
  fm (z_iconst (n := 1) (by decide +kernel) (by decide)) (
  fm (z_goto (off := 4) (by decide +kernel) (by decide)) (
  fm (z_iconst (n := 0) (by decide +kernel) (by decide)) (
  fm (z_zret rfl (by decide +kernel)) (
  fm (z_iconst (n := 1) (by decide +kernel) (by decide)) (
  fm (z_zret rfl (by decide +kernel)) (fn))))))))))))))))))))))))))))))
end
section
/-! CODE of X3, by program -/
def kX3_isBetween : Cd := [(0, s_iload 1 1), (1, s_if (fun x => x < 0) 36 4), (4, s_iload 1 5), (5, s_aload 0 6), (6, s_getf 3 1 9), (9, s_icmp (fun x y => y ≤ x) 36 12), (12, s_aload 0 13), (13, s_getf 3 0 16), (16, s_iload 1 17), (17, s_iald 18), (18, s_iload 2 19), (19, s_icmp (fun x y => x < y) 36 22), (22, s_aload 0 23), (23, s_getf 3 0 26), (26, s_iload 1 27), (27, s_iald 28), (28, s_iload 3 29), (29, s_icmp (fun x y => y < x) 36 32), (32, s_pushi 1 33), (33, s_goto 37), (36, s_pushi 0 37), (37, s_zret)]
set_option maxRecDepth 20000 in
theorem zX3_isBetween : ∀ q ∈ kX3_isBetween, Snd RX3 cX3_isBetween 4 (some .boolean) (rmM mX3_isBetween) q.1 q.2 :=
  fm (z_iload_n (j := 1) (by decide +kernel) rfl) (
  fm (z_if_lt (off := 35) (by decide +kernel) (by decide)) (
  fm (z_iload_n (j := 1) (by decide +kernel) rfl) (
  fm (z_aload_n (j := 0) (by decide +kernel) rfl) (
  fm (z_getf (idx := 15) awX3 rfl (by decide) wd_1_107 rfl (by decide +kernel)) (
  fm (z_icmp_ge (off := 27) (by decide +kernel) (by decide)) (
  fm (z_aload_n (j := 0) (by decide +kernel) rfl) (
  fm (z_getf (idx := 9) awX3 rfl (by decide) wd_1_106 rfl (by decide +kernel)) (
  fm (z_iload_n (j := 1) (by decide +kernel) rfl) (
  fm (z_iald (by decide +kernel)) (
  fm (z_iload_n (j := 2) (by decide +kernel) rfl) (
  fm (z_icmp_lt (off := 17) (by decide +kernel) (by decide)) (
  fm (z_aload_n (j := 0) (by decide +kernel) rfl) (
  fm (z_getf (idx := 9) awX3 rfl (by decide) wd_1_106 rfl (by decide +kernel)) (
  fm (z_iload_n (j := 1) (by decide +kernel) rfl) (
  fm (z_iald (by decide +kernel)) (
  fm (z_iload_n (j := 3) (by decide +kernel) rfl) (
  fm (z_icmp_gt (off := 7) (by decide +kernel) (by decide)) (
  fm (z_iconst (n := 1) (by decide +kernel) (by decide)) (
  fm (z_goto (off := 4) (by decide +kernel) (by decide)) (
  fm (z_iconst (n := 0) (by decide +kernel) (by decide)) (
  fm (z_zret rfl (by decide +kernel)) (fn))))))))))))))))))))))
def kX3_isNumber : Cd := [(0, s_aload 0 1), (1, s_getf 3 2 4), (4, s_pushi 2 5), (5, s_icmp (fun x y => x = y) 8 28), (8, s_aload 0 9), (9, s_getf 3 5 12), (12, s_iload 1 13), (13, s_icmp (fun x y => x < y) 28 16), (16, s_aload 0 17), (17, s_getf 3 5 20), (20, s_iload 2 21), (21, s_icmp (fun x y => y < x) 28 24), (24, s_pushi 1 25), (25, s_goto 29), (28, s_pushi 0 29), (29, s_zret)]
set_option maxRecDepth 20000 in
theorem zX3_isNumber : ∀ q ∈ kX3_isNumber, Snd RX3 cX3_isNumber 3 (some .boolean) (rmM mX3_isNumber) q.1 q.2 :=
  fm (z_aload_n (j := 0) (by decide +kernel) rfl) (
  fm (z_getf (idx := 32) awX3 rfl (by decide) wd_1_109 rfl (by decide +kernel)) (
  fm (z_iconst (n := 2) (by decide +kernel) (by decide)) (
  fm (z_icmp_ne (off := 23) (by decide +kernel) (by decide)) (
  fm (z_aload_n (j := 0) (by decide +kernel) rfl) (
  fm (z_getf (idx := 47) awX3 rfl (by decide) wd_1_112 rfl (by decide +kernel)) (
  fm (z_iload_n (j := 1) (by decide +kernel) rfl) (
  fm (z_icmp_lt (off := 15) (by decide +kernel) (by decide)) (
  fm (z_aload_n (j := 0) (by decide +kernel) rfl) (
  fm (z_getf (idx := 47) awX3 rfl (by decide) wd_1_112 rfl (by decide +kernel)) (
  fm (z_iload_n (j := 2) (by decide +kernel) rfl) (
  fm (z_icmp_gt (off := 7) (by decide +kernel) (by decide)) (
  fm (z_iconst (n := 1) (by decide +kernel) (by decide)) (
  fm (z_goto (off := 4) (by decide +kernel) (by decide)) (
  fm (z_iconst (n := 0) (by decide +kernel) (by decide)) (
  fm (z_zret rfl (by decide +kernel)) (fn))))))))))))))))
def kX3_isWord : Cd := [(0, s_aload 0 1), (1, s_getf 3 2 4), (4, s_pushi 1 5), (5, s_icmp (fun x y => x = y) 8 35), (8, s_aload 0 9), (9, s_getf 3 4 12), (12, s_aload 0 13), (13, s_getf 3 1 16), (16, s_icmp (fun x y => y < x) 35 19), (19, s_aload 1 20), (20, s_invT mJ0_length_8abf5 0 23), (23, s_aload 0 24), (24, s_getf 3 4 27), (27, s_aload 0 28), (28, s_getf 3 3 31), (31, s_bin (fun x y => x - y) 32), (32, s_icmp (fun x y => x = y) 37 35), (35, s_pushi 0 36), (36, s_zret), (37, s_pushi 0 38), (38, s_istore 2 39), (39, s_iload 2 40), (40, s_aload 1 41), (41, s_invT mJ0_length_8abf5 0 44), (44, s_icmp (fun x y => y ≤ x) 74 47), (47, s_aload 0 48), (48, s_getf 3 0 51), (51, s_aload 0 52), (52, s_getf 3 3 55), (55, s_iload 2 56), (56, s_bin (fun x y => x + y) 57), (57, s_iald 58), (58, s_aload 1 59), (59, s_iload 2 60), (60, s_invT mJ0_charAt_5068e 1 63), (63, s_icmp (fun x y => x = y) 68 66), (66, s_pushi 0 67), (67, s_zret), (68, s_iinc 2 1 71), (71, s_goto 39), (74, s_pushi 1 75), (75, s_zret)]
set_option maxRecDepth 20000 in
theorem zX3_isWord : ∀ q ∈ kX3_isWord, Snd RX3 cX3_isWord 3 (some .boolean) (rmM mX3_isWord) q.1 q.2 :=
  fm (z_aload_n (j := 0) (by decide +kernel) rfl) (
  fm (z_getf (idx := 32) awX3 rfl (by decide) wd_1_109 rfl (by decide +kernel)) (
  fm (z_iconst (n := 1) (by decide +kernel) (by decide)) (
  fm (z_icmp_ne (off := 30) (by decide +kernel) (by decide)) (
  fm (z_aload_n (j := 0) (by decide +kernel) rfl) (
  fm (z_getf (idx := 19) awX3 rfl (by decide) wd_1_111 rfl (by decide +kernel)) (
  fm (z_aload_n (j := 0) (by decide +kernel) rfl) (
  fm (z_getf (idx := 15) awX3 rfl (by decide) wd_1_107 rfl (by decide +kernel)) (
  fm (z_icmp_gt (off := 19) (by decide +kernel) (by decide)) (
  fm (z_aload_n (j := 1) (by decide +kernel) rfl) (
  fm (z_invT (idx := 119) (by decide +kernel) wd_3_62 wd_3_63 wd_3_64 wd_1_10 wd_3_65 (by decide +kernel) ⟨Nat.le_of_ble_eq_true rfl, Nat.le_of_ble_eq_true rfl⟩) (
  fm (z_aload_n (j := 0) (by decide +kernel) rfl) (
  fm (z_getf (idx := 19) awX3 rfl (by decide) wd_1_111 rfl (by decide +kernel)) (
  fm (z_aload_n (j := 0) (by decide +kernel) rfl) (
  fm (z_getf (idx := 29) awX3 rfl (by decide) wd_1_110 rfl (by decide +kernel)) (
  fm (z_isub (by decide +kernel)) (
  fm (z_icmp_eq (off := 5) (by decide +kernel) (by decide)) (
  fm (z_iconst (n := 0) (by decide +kernel) (by decide)) (
  fm (z_zret rfl (by decide +kernel)) (
  fm (z_iconst (n := 0) (by decide +kernel) (by decide)) (
  fm (z_istore_n (j := 2) (by decide +kernel) rfl (by decide)) (
  fm (z_iload_n (j := 2) (by decide +kernel) rfl) (
  fm (z_aload_n (j := 1) (by decide +kernel) rfl) (
  fm (z_invT (idx := 119) (by decide +kernel) wd_3_62 wd_3_63 wd_3_64 wd_1_10 wd_3_65 (by decide +kernel) ⟨Nat.le_of_ble_eq_true rfl, Nat.le_of_ble_eq_true rfl⟩) (
  fm (z_icmp_ge (off := 30) (by decide +kernel) (by decide)) (
  fm (z_aload_n (j := 0) (by decide +kernel) rfl) (
  fm (z_getf (idx := 9) awX3 rfl (by decide) wd_1_106 rfl (by decide +kernel)) (
  fm (z_aload_n (j := 0) (by decide +kernel) rfl) (
  fm (z_getf (idx := 29) awX3 rfl (by decide) wd_1_110 rfl (by decide +kernel)) (
  fm (z_iload_n (j := 2) (by decide +kernel) rfl) (
  fm (z_iadd (by decide +kernel)) (
  fm (z_iald (by decide +kernel)) (
  fm (z_aload_n (j := 1) (by decide +kernel) rfl) (
  fm (z_iload_n (j := 2) (by decide +kernel) rfl) (
  fm (z_invT (idx := 123) (by decide +kernel) wd_3_72 wd_3_73 wd_3_74 wd_1_10 wd_3_75 (by decide +kernel) ⟨Nat.le_of_ble_eq_true rfl, Nat.le_of_ble_eq_true rfl⟩) (
  fm (z_icmp_eq (off := 5) (by decide +kernel) (by decide)) (
  fm (z_iconst (n := 0) (by decide +kernel) (by decide)) (
  fm (z_zret rfl (by decide +kernel)) (
  fm (z_iinc (n := 1) (by decide +kernel) (by decide) (by decide)) (
  fm (z_goto (off := (-32)) (by decide +kernel) (by decide)) (
  fm (z_iconst (n := 1) (by decide +kernel) (by decide)) (
  fm (z_zret rfl (by decide +kernel)) (fn))))))))))))))))))))))))))))))))))))))))))
def kX3_kindOfWord : Cd := [(0, s_pushi 0 1), (1, s_istore 1 2), (2, s_iload 1 3), (3, s_pushi 7 5), (5, s_icmp (fun x y => y ≤ x) 27 8), (8, s_aload 0 9), (9, s_iload 1 10), (10, s_invS mX3_wordOfKind 1 13), (13, s_inv mX3_isWord 3 1 16), (16, s_if (fun x => x = 0) 21 19), (19, s_iload 1 20), (20, s_iret), (21, s_iinc 1 1 24), (24, s_goto 2), (27, s_pushi (-1) 28), (28, s_iret)]
set_option maxRecDepth 20000 in
theorem zX3_kindOfWord : ∀ q ∈ kX3_kindOfWord, Snd RX3 cX3_kindOfWord 2 (some .int) (rmM mX3_kindOfWord) q.1 q.2 :=
  fm (z_iconst (n := 0) (by decide +kernel) (by decide)) (
  fm (z_istore_n (j := 1) (by decide +kernel) rfl (by decide)) (
  fm (z_iload_n (j := 1) (by decide +kernel) rfl) (
  fm (z_bipush (n := 7) (by decide +kernel) (by decide)) (
  fm (z_icmp_ge (off := 22) (by decide +kernel) (by decide)) (
  fm (z_aload_n (j := 0) (by decide +kernel) rfl) (
  fm (z_iload_n (j := 1) (by decide +kernel) rfl) (
  fm (z_invS (idx := 115) (by decide +kernel) wd_3_48 wd_3_49 wd_1_5 wd_3_50 (by decide +kernel) ⟨Nat.le_of_ble_eq_true rfl, Nat.le_of_ble_eq_true rfl⟩) (
  fm (z_inv (idx := 59) rfl (by decide +kernel) wd_3_58 wd_3_60 ws_19 wd_1_5 wd_3_61 (by decide +kernel) ⟨Nat.le_of_ble_eq_true rfl, Nat.le_of_ble_eq_true rfl⟩) (
  fm (z_if_eq (off := 5) (by decide +kernel) (by decide)) (
  fm (z_iload_n (j := 1) (by decide +kernel) rfl) (
  fm (z_iret rfl (by decide +kernel)) (
  fm (z_iinc (n := 1) (by decide +kernel) (by decide) (by decide)) (
  fm (z_goto (off := (-22)) (by decide +kernel) (by decide)) (
  fm (z_iconst (n := (-1)) (by decide +kernel) (by decide)) (
  fm (z_iret rfl (by decide +kernel)) (fn))))))))))))))))
def kX3_put : Cd := [(0, s_aload 0 1), (1, s_getf 3 1 4), (4, s_pushi 120 6), (6, s_icmp (fun x y => y ≤ x) 29 9), (9, s_aload 0 10), (10, s_getf 3 0 13), (13, s_aload 0 14), (14, s_getf 3 1 17), (17, s_iload 1 18), (18, s_iast 19), (19, s_aload 0 20), (20, s_dup 21), (21, s_getf 3 1 24), (24, s_pushi 1 25), (25, s_bin (fun x y => x + y) 26), (26, s_putf .int 3 1 29), (29, s_vret)]
set_option maxRecDepth 20000 in
theorem zX3_put : ∀ q ∈ kX3_put, Snd RX3 cX3_put 2 none (rmM mX3_put) q.1 q.2 :=
  fm (z_aload_n (j := 0) (by decide +kernel) rfl) (
  fm (z_getf (idx := 15) awX3 rfl (by decide) wd_1_107 rfl (by decide +kernel)) (
  fm (z_bipush (n := 120) (by decide +kernel) (by decide)) (
  fm (z_icmp_ge (off := 23) (by decide +kernel) (by decide)) (
  fm (z_aload_n (j := 0) (by decide +kernel) rfl) (
  fm (z_getf (idx := 9) awX3 rfl (by decide) wd_1_106 rfl (by decide +kernel)) (
  fm (z_aload_n (j := 0) (by decide +kernel) rfl) (
  fm (z_getf (idx := 15) awX3 rfl (by decide) wd_1_107 rfl (by decide +kernel)) (
  fm (z_iload_n (j := 1) (by decide +kernel) rfl) (
  fm (z_iast (by decide +kernel)) (
  fm (z_aload_n (j := 0) (by decide +kernel) rfl) (
  fm (z_dup (by decide +kernel)) (
  fm (z_getf (idx := 15) awX3 rfl (by decide) wd_1_107 rfl (by decide +kernel)) (
  fm (z_iconst (n := 1) (by decide +kernel) (by decide)) (
  fm (z_iadd (by decide +kernel)) (
  fm (z_putf (idx := 15) tyX3 tyX3_ok nmX3 awX3 rfl (by decide) wd_1_107 rfl rfl (by decide +kernel) (by decide +kernel)) (
  fm (z_vret rfl (by decide +kernel)) (fn)))))))))))))))))
def kX3_readItem : Cd := [(0, s_aload 0 1), (1, s_inv mX3_kindOfWord 3 0 4), (4, s_istore 2 5), (5, s_iload 2 6), (6, s_if (fun x => x < 0) 16 9), (9, s_aload 0 10), (10, s_aload 1 11), (11, s_iload 2 12), (12, s_inv mX3_readStall 3 2 15), (15, s_zret), (16, s_aload 0 17), (17, s_ldcs 9 19), (19, s_inv mX3_isWord 3 1 22), (22, s_if (fun x => x = 0) 31 25), (25, s_aload 0 26), (26, s_aload 1 27), (27, s_inv mX3_readVisits 3 1 30), (30, s_zret), (31, s_aload 0 32), (32, s_ldcs 12 34), (34, s_inv mX3_isWord 3 1 37), (37, s_if (fun x => x = 0) 47 40), (40, s_aload 0 41), (41, s_aload 1 42), (42, s_pushi 1 43), (43, s_inv mX3_readShade 3 2 46), (46, s_zret), (47, s_aload 0 48), (48, s_ldcs 13 50), (50, s_inv mX3_isWord 3 1 53), (53, s_if (fun x => x = 0) 63 56), (56, s_aload 0 57), (57, s_aload 1 58), (58, s_pushi 0 59), (59, s_inv mX3_readShade 3 2 62), (62, s_zret), (63, s_aload 0 64), (64, s_ldcs 14 66), (66, s_inv mX3_isWord 3 1 69), (69, s_if (fun x => x = 0) 84 72), (72, s_aload 0 73), (73, s_aload 1 74), (74, s_inv mX3_readSpring 3 1 77), (77, s_if (fun x => x = 0) 84 80), (80, s_pushi 1 81), (81, s_goto 85), (84, s_pushi 0 85), (85, s_zret)]
set_option maxRecDepth 20000 in
theorem zX3_readItem : ∀ q ∈ kX3_readItem, Snd RX3 cX3_readItem 3 (some .boolean) (rmM mX3_readItem) q.1 q.2 :=
  fm (z_aload_n (j := 0) (by decide +kernel) rfl) (
  fm (z_inv (idx := 50) rfl (by decide +kernel) wd_3_44 wd_3_46 ws_18 wd_1_5 wd_3_47 (by decide +kernel) ⟨Nat.le_of_ble_eq_true rfl, Nat.le_of_ble_eq_true rfl⟩) (
  fm (z_istore_n (j := 2) (by decide +kernel) rfl (by decide)) (
  fm (z_iload_n (j := 2) (by decide +kernel) rfl) (
  fm (z_if_lt (off := 10) (by decide +kernel) (by decide)) (
  fm (z_aload_n (j := 0) (by decide +kernel) rfl) (
  fm (z_aload_n (j := 1) (by decide +kernel) rfl) (
  fm (z_iload_n (j := 2) (by decide +kernel) rfl) (
  fm (z_inv (idx := 53) rfl (by decide +kernel) wd_3_110 wd_3_112 ws_20 wd_1_5 wd_3_113 (by decide +kernel) ⟨Nat.le_of_ble_eq_true rfl, Nat.le_of_ble_eq_true rfl⟩) (
  fm (z_zret rfl (by decide +kernel)) (
  fm (z_aload_n (j := 0) (by decide +kernel) rfl) (
  fm (z_ldcs (i := 9) (idx := 57) (by decide) rfl (by decide +kernel)) (
  fm (z_inv (idx := 59) rfl (by decide +kernel) wd_3_58 wd_3_60 ws_19 wd_1_5 wd_3_61 (by decide +kernel) ⟨Nat.le_of_ble_eq_true rfl, Nat.le_of_ble_eq_true rfl⟩) (
  fm (z_if_eq (off := 9) (by decide +kernel) (by decide)) (
  fm (z_aload_n (j := 0) (by decide +kernel) rfl) (
  fm (z_aload_n (j := 1) (by decide +kernel) rfl) (
  fm (z_inv (idx := 63) rfl (by decide +kernel) wd_3_123 wd_3_125 ws_22 wd_1_5 wd_3_126 (by decide +kernel) ⟨Nat.le_of_ble_eq_true rfl, Nat.le_of_ble_eq_true rfl⟩) (
  fm (z_zret rfl (by decide +kernel)) (
  fm (z_aload_n (j := 0) (by decide +kernel) rfl) (
  fm (z_ldcs (i := 12) (idx := 66) (by decide) rfl (by decide +kernel)) (
  fm (z_inv (idx := 59) rfl (by decide +kernel) wd_3_58 wd_3_60 ws_19 wd_1_5 wd_3_61 (by decide +kernel) ⟨Nat.le_of_ble_eq_true rfl, Nat.le_of_ble_eq_true rfl⟩) (
  fm (z_if_eq (off := 10) (by decide +kernel) (by decide)) (
  fm (z_aload_n (j := 0) (by decide +kernel) rfl) (
  fm (z_aload_n (j := 1) (by decide +kernel) rfl) (
  fm (z_iconst (n := 1) (by decide +kernel) (by decide)) (
  fm (z_inv (idx := 68) rfl (by decide +kernel) wd_3_130 wd_3_132 ws_23 wd_1_5 wd_3_133 (by decide +kernel) ⟨Nat.le_of_ble_eq_true rfl, Nat.le_of_ble_eq_true rfl⟩) (
  fm (z_zret rfl (by decide +kernel)) (
  fm (z_aload_n (j := 0) (by decide +kernel) rfl) (
  fm (z_ldcs (i := 13) (idx := 71) (by decide) rfl (by decide +kernel)) (
  fm (z_inv (idx := 59) rfl (by decide +kernel) wd_3_58 wd_3_60 ws_19 wd_1_5 wd_3_61 (by decide +kernel) ⟨Nat.le_of_ble_eq_true rfl, Nat.le_of_ble_eq_true rfl⟩) (
  fm (z_if_eq (off := 10) (by decide +kernel) (by decide)) (
  fm (z_aload_n (j := 0) (by decide +kernel) rfl) (
  fm (z_aload_n (j := 1) (by decide +kernel) rfl) (
  fm (z_iconst (n := 0) (by decide +kernel) (by decide)) (
  fm (z_inv (idx := 68) rfl (by decide +kernel) wd_3_130 wd_3_132 ws_23 wd_1_5 wd_3_133 (by decide +kernel) ⟨Nat.le_of_ble_eq_true rfl, Nat.le_of_ble_eq_true rfl⟩) (
  fm (z_zret rfl (by decide +kernel)) (
  fm (z_aload_n (j := 0) (by decide +kernel) rfl) (
  fm (z_ldcs (i := 14) (idx := 73) (by decide) rfl (by decide +kernel)) (
  fm (z_inv (idx := 59) rfl (by decide +kernel) wd_3_58 wd_3_60 ws_19 wd_1_5 wd_3_61 (by decide +kernel) ⟨Nat.le_of_ble_eq_true rfl, Nat.le_of_ble_eq_true rfl⟩) (
  fm (z_if_eq (off := 15) (by decide +kernel) (by decide)) (
  fm (z_aload_n (j := 0) (by decide +kernel) rfl) (
  fm (z_aload_n (j := 1) (by decide +kernel) rfl) (
  fm (z_inv (idx := 75) rfl (by decide +kernel) wd_3_136 wd_3_138 ws_24 wd_1_5 wd_3_139 (by decide +kernel) ⟨Nat.le_of_ble_eq_true rfl, Nat.le_of_ble_eq_true rfl⟩) (
  fm (z_if_eq (off := 7) (by decide +kernel) (by decide)) (
  fm (z_iconst (n := 1) (by decide +kernel) (by decide)) (
  fm (z_goto (off := 4) (by decide +kernel) (by decide)) (
  fm (z_iconst (n := 0) (by decide +kernel) (by decide)) (
  fm (z_zret rfl (by decide +kernel)) (fn))))))))))))))))))))))))))))))))))))))))))))))))
def kX3_readOn : Cd := [(0, s_aload 0 1), (1, s_aload 0 2), (2, s_getf 3 4 5), (5, s_putf .int 3 3 8), (8, s_aload 0 9), (9, s_getf 3 3 12), (12, s_aload 0 13), (13, s_getf 3 1 16), (16, s_icmp (fun x y => y ≤ x) 47 19), (19, s_aload 0 20), (20, s_aload 0 21), (21, s_getf 3 3 24), (24, s_pushi 32 26), (26, s_pushi 32 28), (28, s_inv mX3_isBetween 3 3 31), (31, s_if (fun x => x = 0) 47 34), (34, s_aload 0 35), (35, s_dup 36), (36, s_getf 3 3 39), (39, s_pushi 1 40), (40, s_bin (fun x y => x + y) 41), (41, s_putf .int 3 3 44), (44, s_goto 8), (47, s_aload 0 48), (48, s_aload 0 49), (49, s_getf 3 3 52), (52, s_putf .int 3 4 55), (55, s_aload 0 56), (56, s_getf 3 3 59), (59, s_aload 0 60), (60, s_getf 3 1 63), (63, s_icmp (fun x y => x < y) 74 66), (66, s_aload 0 67), (67, s_pushi 0 68), (68, s_putf .int 3 2 71), (71, s_goto 178), (74, s_aload 0 75), (75, s_aload 0 76), (76, s_getf 3 3 79), (79, s_pushi 97 81), (81, s_pushi 122 83), (83, s_inv mX3_isBetween 3 3 86), (86, s_if (fun x => x = 0) 105 89), (89, s_aload 0 90), (90, s_pushi 1 91), (91, s_putf .int 3 2 94), (94, s_aload 0 95), (95, s_pushi 97 97), (97, s_pushi 122 99), (99, s_inv mX3_readRun 3 2 102), (102, s_goto 178), (105, s_aload 0 106), (106, s_aload 0 107), (107, s_getf 3 3 110), (110, s_pushi 48 112), (112, s_pushi 57 114), (114, s_inv mX3_isBetween 3 3 117), (117, s_if (fun x => x = 0) 144 120), (120, s_aload 0 121), (121, s_pushi 2 122), (122, s_putf .int 3 2 125), (125, s_aload 0 126), (126, s_pushi 48 128), (128, s_pushi 57 130), (130, s_inv mX3_readRun 3 2 133), (133, s_aload 0 134), (134, s_aload 0 135), (135, s_inv mX3_valueOfRun 3 0 138), (138, s_putf .int 3 5 141), (141, s_goto 178), (144, s_aload 0 145), (145, s_aload 0 146), (146, s_aload 0 147), (147, s_getf 3 3 150), (150, s_pushi 59 152), (152, s_pushi 59 154), (154, s_inv mX3_isBetween 3 3 157), (157, s_if (fun x => x = 0) 164 160), (160, s_pushi 3 161), (161, s_goto 165), (164, s_pushi 4 165), (165, s_putf .int 3 2 168), (168, s_aload 0 169), (169, s_aload 0 170), (170, s_getf 3 3 173), (173, s_pushi 1 174), (174, s_bin (fun x y => x + y) 175), (175, s_putf .int 3 4 178), (178, s_vret)]
set_option maxRecDepth 20000 in
theorem zX3_readOn : ∀ q ∈ kX3_readOn, Snd RX3 cX3_readOn 1 none (rmM mX3_readOn) q.1 q.2 :=
  fm (z_aload_n (j := 0) (by decide +kernel) rfl) (
  fm (z_aload_n (j := 0) (by decide +kernel) rfl) (
  fm (z_getf (idx := 19) awX3 rfl (by decide) wd_1_111 rfl (by decide +kernel)) (
  fm (z_putf (idx := 29) tyX3 tyX3_ok nmX3 awX3 rfl (by decide) wd_1_110 rfl rfl (by decide +kernel) (by decide +kernel)) (
  fm (z_aload_n (j := 0) (by decide +kernel) rfl) (
  fm (z_getf (idx := 29) awX3 rfl (by decide) wd_1_110 rfl (by decide +kernel)) (
  fm (z_aload_n (j := 0) (by decide +kernel) rfl) (
  fm (z_getf (idx := 15) awX3 rfl (by decide) wd_1_107 rfl (by decide +kernel)) (
  fm (z_icmp_ge (off := 31) (by decide +kernel) (by decide)) (
  fm (z_aload_n (j := 0) (by decide +kernel) rfl) (
  fm (z_aload_n (j := 0) (by decide +kernel) rfl) (
  fm (z_getf (idx := 29) awX3 rfl (by decide) wd_1_110 rfl (by decide +kernel)) (
  fm (z_bipush (n := 32) (by decide +kernel) (by decide)) (
  fm (z_bipush (n := 32) (by decide +kernel) (by decide)) (
  fm (z_inv (idx := 35) rfl (by decide +kernel) wd_3_28 wd_3_30 ws_14 wd_1_5 wd_3_31 (by decide +kernel) ⟨Nat.le_of_ble_eq_true rfl, Nat.le_of_ble_eq_true rfl⟩) (
  fm (z_if_eq (off := 16) (by decide +kernel) (by decide)) (
  fm (z_aload_n (j := 0) (by decide +kernel) rfl) (
  fm (z_dup (by decide +kernel)) (
  fm (z_getf (idx := 29) awX3 rfl (by decide) wd_1_110 rfl (by decide +kernel)) (
  fm (z_iconst (n := 1) (by decide +kernel) (by decide)) (
  fm (z_iadd (by decide +kernel)) (
  fm (z_putf (idx := 29) tyX3 tyX3_ok nmX3 awX3 rfl (by decide) wd_1_110 rfl rfl (by decide +kernel) (by decide +kernel)) (
  fm (z_goto (off := (-36)) (by decide +kernel) (by decide)) (
  fm (z_aload_n (j := 0) (by decide +kernel) rfl) (
  fm (z_aload_n (j := 0) (by decide +kernel) rfl) (
  fm (z_getf (idx := 29) awX3 rfl (by decide) wd_1_110 rfl (by decide +kernel)) (
  fm (z_putf (idx := 19) tyX3 tyX3_ok nmX3 awX3 rfl (by decide) wd_1_111 rfl rfl (by decide +kernel) (by decide +kernel)) (
  fm (z_aload_n (j := 0) (by decide +kernel) rfl) (
  fm (z_getf (idx := 29) awX3 rfl (by decide) wd_1_110 rfl (by decide +kernel)) (
  fm (z_aload_n (j := 0) (by decide +kernel) rfl) (
  fm (z_getf (idx := 15) awX3 rfl (by decide) wd_1_107 rfl (by decide +kernel)) (
  fm (z_icmp_lt (off := 11) (by decide +kernel) (by decide)) (
  fm (z_aload_n (j := 0) (by decide +kernel) rfl) (
  fm (z_iconst (n := 0) (by decide +kernel) (by decide)) (
  fm (z_putf (idx := 32) tyX3 tyX3_ok nmX3 awX3 rfl (by decide) wd_1_109 rfl rfl (by decide +kernel) (by decide +kernel)) (
  fm (z_goto (off := 107) (by decide +kernel) (by decide)) (
  fm (z_aload_n (j := 0) (by decide +kernel) rfl) (
  fm (z_aload_n (j := 0) (by decide +kernel) rfl) (
  fm (z_getf (idx := 29) awX3 rfl (by decide) wd_1_110 rfl (by decide +kernel)) (
  fm (z_bipush (n := 97) (by decide +kernel) (by decide)) (
  fm (z_bipush (n := 122) (by decide +kernel) (by decide)) (
  fm (z_inv (idx := 35) rfl (by decide +kernel) wd_3_28 wd_3_30 ws_14 wd_1_5 wd_3_31 (by decide +kernel) ⟨Nat.le_of_ble_eq_true rfl, Nat.le_of_ble_eq_true rfl⟩) (
  fm (z_if_eq (off := 19) (by decide +kernel) (by decide)) (
  fm (z_aload_n (j := 0) (by decide +kernel) rfl) (
  fm (z_iconst (n := 1) (by decide +kernel) (by decide)) (
  fm (z_putf (idx := 32) tyX3 tyX3_ok nmX3 awX3 rfl (by decide) wd_1_109 rfl rfl (by decide +kernel) (by decide +kernel)) (
  fm (z_aload_n (j := 0) (by decide +kernel) rfl) (
  fm (z_bipush (n := 97) (by decide +kernel) (by decide)) (
  fm (z_bipush (n := 122) (by decide +kernel) (by decide)) (
  fm (z_inv (idx := 39) rfl (by decide +kernel) wd_3_32 wd_3_34 ws_15 wd_1_5 wd_3_35 (by decide +kernel) ⟨Nat.le_of_ble_eq_true rfl, Nat.le_of_ble_eq_true rfl⟩) (
  fm (z_goto (off := 76) (by decide +kernel) (by decide)) (
  fm (z_aload_n (j := 0) (by decide +kernel) rfl) (
  fm (z_aload_n (j := 0) (by decide +kernel) rfl) (
  fm (z_getf (idx := 29) awX3 rfl (by decide) wd_1_110 rfl (by decide +kernel)) (
  fm (z_bipush (n := 48) (by decide +kernel) (by decide)) (
  fm (z_bipush (n := 57) (by decide +kernel) (by decide)) (
  fm (z_inv (idx := 35) rfl (by decide +kernel) wd_3_28 wd_3_30 ws_14 wd_1_5 wd_3_31 (by decide +kernel) ⟨Nat.le_of_ble_eq_true rfl, Nat.le_of_ble_eq_true rfl⟩) (
  fm (z_if_eq (off := 27) (by decide +kernel) (by decide)) (
  fm (z_aload_n (j := 0) (by decide +kernel) rfl) (
  fm (z_iconst (n := 2) (by decide +kernel) (by decide)) (
  fm (z_putf (idx := 32) tyX3 tyX3_ok nmX3 awX3 rfl (by decide) wd_1_109 rfl rfl (by decide +kernel) (by decide +kernel)) (
  fm (z_aload_n (j := 0) (by decide +kernel) rfl) (
  fm (z_bipush (n := 48) (by decide +kernel) (by decide)) (
  fm (z_bipush (n := 57) (by decide +kernel) (by decide)) (
  fm (z_inv (idx := 39) rfl (by decide +kernel) wd_3_32 wd_3_34 ws_15 wd_1_5 wd_3_35 (by decide +kernel) ⟨Nat.le_of_ble_eq_true rfl, Nat.le_of_ble_eq_true rfl⟩) (
  fm (z_aload_n (j := 0) (by decide +kernel) rfl) (
  fm (z_aload_n (j := 0) (by decide +kernel) rfl) (
  fm (z_inv (idx := 43) rfl (by decide +kernel) wd_3_36 wd_3_38 ws_16 wd_1_5 wd_3_39 (by decide +kernel) ⟨Nat.le_of_ble_eq_true rfl, Nat.le_of_ble_eq_true rfl⟩) (
  fm (z_putf (idx := 47) tyX3 tyX3_ok nmX3 awX3 rfl (by decide) wd_1_112 rfl rfl (by decide +kernel) (by decide +kernel)) (
  fm (z_goto (off := 37) (by decide +kernel) (by decide)) (
  fm (z_aload_n (j := 0) (by decide +kernel) rfl) (
  fm (z_aload_n (j := 0) (by decide +kernel) rfl) (
  fm (z_aload_n (j := 0) (by decide +kernel) rfl) (
  fm (z_getf (idx := 29) awX3 rfl (by decide) wd_1_110 rfl (by decide +kernel)) (
  fm (z_bipush (n := 59) (by decide +kernel) (by decide)) (
  fm (z_bipush (n := 59) (by decide +kernel) (by decide)) (
  fm (z_inv (idx := 35) rfl (by decide +kernel) wd_3_28 wd_3_30 ws_14 wd_1_5 wd_3_31 (by decide +kernel) ⟨Nat.le_of_ble_eq_true rfl, Nat.le_of_ble_eq_true rfl⟩) (
  fm (z_if_eq (off := 7) (by decide +kernel) (by decide)) (
  fm (z_iconst (n := 3) (by decide +kernel) (by decide)) (
  fm (z_goto (off := 4) (by decide +kernel) (by decide)) (
  fm (z_iconst (n := 4) (by decide +kernel) (by decide)) (
  fm (z_putf (idx := 32) tyX3 tyX3_ok nmX3 awX3 rfl (by decide) wd_1_109 rfl rfl (by decide +kernel) (by decide +kernel)) (
  fm (z_aload_n (j := 0) (by decide +kernel) rfl) (
  fm (z_aload_n (j := 0) (by decide +kernel) rfl) (
  fm (z_getf (idx := 29) awX3 rfl (by decide) wd_1_110 rfl (by decide +kernel)) (
  fm (z_iconst (n := 1) (by decide +kernel) (by decide)) (
  fm (z_iadd (by decide +kernel)) (
  fm (z_putf (idx := 19) tyX3 tyX3_ok nmX3 awX3 rfl (by decide) wd_1_111 rfl rfl (by decide +kernel) (by decide +kernel)) (
  fm (z_vret rfl (by decide +kernel)) (fn)))))))))))))))))))))))))))))))))))))))))))))))))))))))))))))))))))))))))))))))))))))))))
def kX3_readRun : Cd := [(0, s_aload 0 1), (1, s_getf 3 4 4), (4, s_aload 0 5), (5, s_getf 3 1 8), (8, s_icmp (fun x y => y ≤ x) 37 11), (11, s_aload 0 12), (12, s_aload 0 13), (13, s_getf 3 4 16), (16, s_iload 1 17), (17, s_iload 2 18), (18, s_inv mX3_isBetween 3 3 21), (21, s_if (fun x => x = 0) 37 24), (24, s_aload 0 25), (25, s_dup 26), (26, s_getf 3 4 29), (29, s_pushi 1 30), (30, s_bin (fun x y => x + y) 31), (31, s_putf .int 3 4 34), (34, s_goto 0), (37, s_vret)]
set_option maxRecDepth 20000 in
theorem zX3_readRun : ∀ q ∈ kX3_readRun, Snd RX3 cX3_readRun 3 none (rmM mX3_readRun) q.1 q.2 :=
  fm (z_aload_n (j := 0) (by decide +kernel) rfl) (
  fm (z_getf (idx := 19) awX3 rfl (by decide) wd_1_111 rfl (by decide +kernel)) (
  fm (z_aload_n (j := 0) (by decide +kernel) rfl) (
  fm (z_getf (idx := 15) awX3 rfl (by decide) wd_1_107 rfl (by decide +kernel)) (
  fm (z_icmp_ge (off := 29) (by decide +kernel) (by decide)) (
  fm (z_aload_n (j := 0) (by decide +kernel) rfl) (
  fm (z_aload_n (j := 0) (by decide +kernel) rfl) (
  fm (z_getf (idx := 19) awX3 rfl (by decide) wd_1_111 rfl (by decide +kernel)) (
  fm (z_iload_n (j := 1) (by decide +kernel) rfl) (
  fm (z_iload_n (j := 2) (by decide +kernel) rfl) (
  fm (z_inv (idx := 35) rfl (by decide +kernel) wd_3_28 wd_3_30 ws_14 wd_1_5 wd_3_31 (by decide +kernel) ⟨Nat.le_of_ble_eq_true rfl, Nat.le_of_ble_eq_true rfl⟩) (
  fm (z_if_eq (off := 16) (by decide +kernel) (by decide)) (
  fm (z_aload_n (j := 0) (by decide +kernel) rfl) (
  fm (z_dup (by decide +kernel)) (
  fm (z_getf (idx := 19) awX3 rfl (by decide) wd_1_111 rfl (by decide +kernel)) (
  fm (z_iconst (n := 1) (by decide +kernel) (by decide)) (
  fm (z_iadd (by decide +kernel)) (
  fm (z_putf (idx := 19) tyX3 tyX3_ok nmX3 awX3 rfl (by decide) wd_1_111 rfl rfl (by decide +kernel) (by decide +kernel)) (
  fm (z_goto (off := (-34)) (by decide +kernel) (by decide)) (
  fm (z_vret rfl (by decide +kernel)) (fn))))))))))))))))))))
def kX3_readShade : Cd := [(0, s_aload 0 1), (1, s_inv mX3_readOn 3 0 4), (4, s_aload 0 5), (5, s_pushi 0 6), (6, s_pushi 11 8), (8, s_inv mX3_isNumber 3 2 11), (11, s_if (fun x => x = 0) 14 16), (14, s_pushi 0 15), (15, s_zret), (16, s_aload 1 17), (17, s_getf 2 1 20), (20, s_aload 0 21), (21, s_getf 3 5 24), (24, s_iload 2 25), (25, s_iast 26), (26, s_aload 0 27), (27, s_inv mX3_readOn 3 0 30), (30, s_pushi 1 31), (31, s_zret)]
set_option maxRecDepth 20000 in
theorem zX3_readShade : ∀ q ∈ kX3_readShade, Snd RX3 cX3_readShade 3 (some .boolean) (rmM mX3_readShade) q.1 q.2 :=
  fm (z_aload_n (j := 0) (by decide +kernel) rfl) (
  fm (z_inv (idx := 22) rfl (by decide +kernel) wd_3_24 wd_3_26 ws_13 wd_1_5 wd_3_27 (by decide +kernel) ⟨Nat.le_of_ble_eq_true rfl, Nat.le_of_ble_eq_true rfl⟩) (
  fm (z_aload_n (j := 0) (by decide +kernel) rfl) (
  fm (z_iconst (n := 0) (by decide +kernel) (by decide)) (
  fm (z_bipush (n := 11) (by decide +kernel) (by decide)) (
  fm (z_inv (idx := 85) rfl (by decide +kernel) wd_3_115 wd_3_117 ws_21 wd_1_5 wd_3_118 (by decide +kernel) ⟨Nat.le_of_ble_eq_true rfl, Nat.le_of_ble_eq_true rfl⟩) (
  fm (z_if_ne (off := 5) (by decide +kernel) (by decide)) (
  fm (z_iconst (n := 0) (by decide +kernel) (by decide)) (
  fm (z_zret rfl (by decide +kernel)) (
  fm (z_aload_n (j := 1) (by decide +kernel) rfl) (
  fm (z_getf (idx := 109) awX2 rfl (by decide) wd_1_36 rfl (by decide +kernel)) (
  fm (z_aload_n (j := 0) (by decide +kernel) rfl) (
  fm (z_getf (idx := 47) awX3 rfl (by decide) wd_1_112 rfl (by decide +kernel)) (
  fm (z_iload_n (j := 2) (by decide +kernel) rfl) (
  fm (z_iast (by decide +kernel)) (
  fm (z_aload_n (j := 0) (by decide +kernel) rfl) (
  fm (z_inv (idx := 22) rfl (by decide +kernel) wd_3_24 wd_3_26 ws_13 wd_1_5 wd_3_27 (by decide +kernel) ⟨Nat.le_of_ble_eq_true rfl, Nat.le_of_ble_eq_true rfl⟩) (
  fm (z_iconst (n := 1) (by decide +kernel) (by decide)) (
  fm (z_zret rfl (by decide +kernel)) (fn)))))))))))))))))))
def kX3_readSpring : Cd := [(0, s_aload 0 1), (1, s_inv mX3_readOn 3 0 4), (4, s_aload 0 5), (5, s_pushi 0 6), (6, s_pushi 11 8), (8, s_inv mX3_isNumber 3 2 11), (11, s_if (fun x => x = 0) 14 16), (14, s_pushi 0 15), (15, s_zret), (16, s_aload 1 17), (17, s_aload 0 18), (18, s_getf 3 5 21), (21, s_putf .int 2 8 24), (24, s_aload 0 25), (25, s_inv mX3_readOn 3 0 28), (28, s_pushi 1 29), (29, s_zret)]
set_option maxRecDepth 20000 in
theorem zX3_readSpring : ∀ q ∈ kX3_readSpring, Snd RX3 cX3_readSpring 2 (some .boolean) (rmM mX3_readSpring) q.1 q.2 :=
  fm (z_aload_n (j := 0) (by decide +kernel) rfl) (
  fm (z_inv (idx := 22) rfl (by decide +kernel) wd_3_24 wd_3_26 ws_13 wd_1_5 wd_3_27 (by decide +kernel) ⟨Nat.le_of_ble_eq_true rfl, Nat.le_of_ble_eq_true rfl⟩) (
  fm (z_aload_n (j := 0) (by decide +kernel) rfl) (
  fm (z_iconst (n := 0) (by decide +kernel) (by decide)) (
  fm (z_bipush (n := 11) (by decide +kernel) (by decide)) (
  fm (z_inv (idx := 85) rfl (by decide +kernel) wd_3_115 wd_3_117 ws_21 wd_1_5 wd_3_118 (by decide +kernel) ⟨Nat.le_of_ble_eq_true rfl, Nat.le_of_ble_eq_true rfl⟩) (
  fm (z_if_ne (off := 5) (by decide +kernel) (by decide)) (
  fm (z_iconst (n := 0) (by decide +kernel) (by decide)) (
  fm (z_zret rfl (by decide +kernel)) (
  fm (z_aload_n (j := 1) (by decide +kernel) rfl) (
  fm (z_aload_n (j := 0) (by decide +kernel) rfl) (
  fm (z_getf (idx := 47) awX3 rfl (by decide) wd_1_112 rfl (by decide +kernel)) (
  fm (z_putf (idx := 112) tyX2 tyX2_ok nmX2 awX2 rfl (by decide) wd_1_52 rfl rfl (by decide +kernel) (by decide +kernel)) (
  fm (z_aload_n (j := 0) (by decide +kernel) rfl) (
  fm (z_inv (idx := 22) rfl (by decide +kernel) wd_3_24 wd_3_26 ws_13 wd_1_5 wd_3_27 (by decide +kernel) ⟨Nat.le_of_ble_eq_true rfl, Nat.le_of_ble_eq_true rfl⟩) (
  fm (z_iconst (n := 1) (by decide +kernel) (by decide)) (
  fm (z_zret rfl (by decide +kernel)) (fn)))))))))))))))))
def kX3_readStall : Cd := [(0, s_aload 1 1), (1, s_getf 2 9 4), (4, s_pushi 8 6), (6, s_icmp (fun x y => x < y) 11 9), (9, s_pushi 0 10), (10, s_zret), (11, s_aload 0 12), (12, s_inv mX3_readOn 3 0 15), (15, s_aload 0 16), (16, s_ldcs 7 18), (18, s_inv mX3_isWord 3 1 21), (21, s_if (fun x => x = 0) 24 26), (24, s_pushi 0 25), (25, s_zret), (26, s_aload 0 27), (27, s_inv mX3_readOn 3 0 30), (30, s_aload 0 31), (31, s_pushi 0 32), (32, s_pushi 11 34), (34, s_inv mX3_isNumber 3 2 37), (37, s_if (fun x => x = 0) 51 40), (40, s_aload 1 41), (41, s_aload 0 42), (42, s_getf 3 5 45), (45, s_inv mX2_stallAt 2 1 48), (48, s_if (fun x => x < 0) 53 51), (51, s_pushi 0 52), (52, s_zret), (53, s_aload 1 54), (54, s_iload 2 55), (55, s_aload 0 56), (56, s_getf 3 5 59), (59, s_inv mX2_addStall 2 2 62), (62, s_istore 3 63), (63, s_aload 0 64), (64, s_inv mX3_readOn 3 0 67), (67, s_aload 0 68), (68, s_ldcs 8 70), (70, s_inv mX3_isWord 3 1 73), (73, s_if (fun x => x = 0) 76 78), (76, s_pushi 1 77), (77, s_zret), (78, s_aload 0 79), (79, s_inv mX3_readOn 3 0 82), (82, s_aload 0 83), (83, s_pushi 0 84), (84, s_pushi 99 86), (86, s_inv mX3_isNumber 3 2 89), (89, s_if (fun x => x = 0) 92 94), (92, s_pushi 0 93), (93, s_zret), (94, s_aload 1 95), (95, s_getf 2 4 98), (98, s_iload 3 99), (99, s_aload 0 100), (100, s_getf 3 5 103), (103, s_iast 104), (104, s_aload 0 105), (105, s_inv mX3_readOn 3 0 108), (108, s_pushi 1 109), (109, s_zret)]
set_option maxRecDepth 20000 in
theorem zX3_readStall : ∀ q ∈ kX3_readStall, Snd RX3 cX3_readStall 4 (some .boolean) (rmM mX3_readStall) q.1 q.2 :=
  fm (z_aload_n (j := 1) (by decide +kernel) rfl) (
  fm (z_getf (idx := 78) awX2 rfl (by decide) wd_1_55 rfl (by decide +kernel)) (
  fm (z_bipush (n := 8) (by decide +kernel) (by decide)) (
  fm (z_icmp_lt (off := 5) (by decide +kernel) (by decide)) (
  fm (z_iconst (n := 0) (by decide +kernel) (by decide)) (
  fm (z_zret rfl (by decide +kernel)) (
  fm (z_aload_n (j := 0) (by decide +kernel) rfl) (
  fm (z_inv (idx := 22) rfl (by decide +kernel) wd_3_24 wd_3_26 ws_13 wd_1_5 wd_3_27 (by decide +kernel) ⟨Nat.le_of_ble_eq_true rfl, Nat.le_of_ble_eq_true rfl⟩) (
  fm (z_aload_n (j := 0) (by decide +kernel) rfl) (
  fm (z_ldcs (i := 7) (idx := 83) (by decide) rfl (by decide +kernel)) (
  fm (z_inv (idx := 59) rfl (by decide +kernel) wd_3_58 wd_3_60 ws_19 wd_1_5 wd_3_61 (by decide +kernel) ⟨Nat.le_of_ble_eq_true rfl, Nat.le_of_ble_eq_true rfl⟩) (
  fm (z_if_ne (off := 5) (by decide +kernel) (by decide)) (
  fm (z_iconst (n := 0) (by decide +kernel) (by decide)) (
  fm (z_zret rfl (by decide +kernel)) (
  fm (z_aload_n (j := 0) (by decide +kernel) rfl) (
  fm (z_inv (idx := 22) rfl (by decide +kernel) wd_3_24 wd_3_26 ws_13 wd_1_5 wd_3_27 (by decide +kernel) ⟨Nat.le_of_ble_eq_true rfl, Nat.le_of_ble_eq_true rfl⟩) (
  fm (z_aload_n (j := 0) (by decide +kernel) rfl) (
  fm (z_iconst (n := 0) (by decide +kernel) (by decide)) (
  fm (z_bipush (n := 11) (by decide +kernel) (by decide)) (
  fm (z_inv (idx := 85) rfl (by decide +kernel) wd_3_115 wd_3_117 ws_21 wd_1_5 wd_3_118 (by decide +kernel) ⟨Nat.le_of_ble_eq_true rfl, Nat.le_of_ble_eq_true rfl⟩) (
  fm (z_if_eq (off := 14) (by decide +kernel) (by decide)) (
  fm (z_aload_n (j := 1) (by decide +kernel) rfl) (
  fm (z_aload_n (j := 0) (by decide +kernel) rfl) (
  fm (z_getf (idx := 47) awX3 rfl (by decide) wd_1_112 rfl (by decide +kernel)) (
  fm (z_inv (idx := 89) rfl (by decide +kernel) wd_3_119 wd_1_205 wd_1_206 wd_1_2 wd_1_207 (by decide +kernel) ⟨Nat.le_of_ble_eq_true rfl, Nat.le_of_ble_eq_true rfl⟩) (
  fm (z_if_lt (off := 5) (by decide +kernel) (by decide)) (
  fm (z_iconst (n := 0) (by decide +kernel) (by decide)) (
  fm (z_zret rfl (by decide +kernel)) (
  fm (z_aload_n (j := 1) (by decide +kernel) rfl) (
  fm (z_iload_n (j := 2) (by decide +kernel) rfl) (
  fm (z_aload_n (j := 0) (by decide +kernel) rfl) (
  fm (z_getf (idx := 47) awX3 rfl (by decide) wd_1_112 rfl (by decide +kernel)) (
  fm (z_inv (idx := 93) rfl (by decide +kernel) wd_3_120 wd_1_209 wd_1_210 wd_1_2 wd_1_211 (by decide +kernel) ⟨Nat.le_of_ble_eq_true rfl, Nat.le_of_ble_eq_true rfl⟩) (
  fm (z_istore_n (j := 3) (by decide +kernel) rfl (by decide)) (
  fm (z_aload_n (j := 0) (by decide +kernel) rfl) (
  fm (z_inv (idx := 22) rfl (by decide +kernel) wd_3_24 wd_3_26 ws_13 wd_1_5 wd_3_27 (by decide +kernel) ⟨Nat.le_of_ble_eq_true rfl, Nat.le_of_ble_eq_true rfl⟩) (
  fm (z_aload_n (j := 0) (by decide +kernel) rfl) (
  fm (z_ldcs (i := 8) (idx := 97) (by decide) rfl (by decide +kernel)) (
  fm (z_inv (idx := 59) rfl (by decide +kernel) wd_3_58 wd_3_60 ws_19 wd_1_5 wd_3_61 (by decide +kernel) ⟨Nat.le_of_ble_eq_true rfl, Nat.le_of_ble_eq_true rfl⟩) (
  fm (z_if_ne (off := 5) (by decide +kernel) (by decide)) (
  fm (z_iconst (n := 1) (by decide +kernel) (by decide)) (
  fm (z_zret rfl (by decide +kernel)) (
  fm (z_aload_n (j := 0) (by decide +kernel) rfl) (
  fm (z_inv (idx := 22) rfl (by decide +kernel) wd_3_24 wd_3_26 ws_13 wd_1_5 wd_3_27 (by decide +kernel) ⟨Nat.le_of_ble_eq_true rfl, Nat.le_of_ble_eq_true rfl⟩) (
  fm (z_aload_n (j := 0) (by decide +kernel) rfl) (
  fm (z_iconst (n := 0) (by decide +kernel) (by decide)) (
  fm (z_bipush (n := 99) (by decide +kernel) (by decide)) (
  fm (z_inv (idx := 85) rfl (by decide +kernel) wd_3_115 wd_3_117 ws_21 wd_1_5 wd_3_118 (by decide +kernel) ⟨Nat.le_of_ble_eq_true rfl, Nat.le_of_ble_eq_true rfl⟩) (
  fm (z_if_ne (off := 5) (by decide +kernel) (by decide)) (
  fm (z_iconst (n := 0) (by decide +kernel) (by decide)) (
  fm (z_zret rfl (by decide +kernel)) (
  fm (z_aload_n (j := 1) (by decide +kernel) rfl) (
  fm (z_getf (idx := 99) awX2 rfl (by decide) wd_1_43 rfl (by decide +kernel)) (
  fm (z_iload_n (j := 3) (by decide +kernel) rfl) (
  fm (z_aload_n (j := 0) (by decide +kernel) rfl) (
  fm (z_getf (idx := 47) awX3 rfl (by decide) wd_1_112 rfl (by decide +kernel)) (
  fm (z_iast (by decide +kernel)) (
  fm (z_aload_n (j := 0) (by decide +kernel) rfl) (
  fm (z_inv (idx := 22) rfl (by decide +kernel) wd_3_24 wd_3_26 ws_13 wd_1_5 wd_3_27 (by decide +kernel) ⟨Nat.le_of_ble_eq_true rfl, Nat.le_of_ble_eq_true rfl⟩) (
  fm (z_iconst (n := 1) (by decide +kernel) (by decide)) (
  fm (z_zret rfl (by decide +kernel)) (fn)))))))))))))))))))))))))))))))))))))))))))))))))))))))))))))
def kX3_readText : Cd := [(0, s_aload 0 1), (1, s_pushi 0 2), (2, s_putf .int 3 4 5), (5, s_pushi 1 6), (6, s_istore 2 7), (7, s_iload 2 8), (8, s_pushi 120 10), (10, s_icmp (fun x y => y < x) 62 13), (13, s_aload 0 14), (14, s_inv mX3_readOn 3 0 17), (17, s_aload 0 18), (18, s_aload 1 19), (19, s_inv mX3_readItem 3 1 22), (22, s_if (fun x => x = 0) 25 32), (25, s_pushi (-1) 26), (26, s_aload 0 27), (27, s_getf 3 3 30), (30, s_bin (fun x y => x - y) 31), (31, s_iret), (32, s_aload 0 33), (33, s_getf 3 2 36), (36, s_if (fun x => x = 0) 39 41), (39, s_iload 2 40), (40, s_iret), (41, s_aload 0 42), (42, s_getf 3 2 45), (45, s_pushi 3 46), (46, s_icmp (fun x y => x = y) 56 49), (49, s_pushi (-1) 50), (50, s_aload 0 51), (51, s_getf 3 3 54), (54, s_bin (fun x y => x - y) 55), (55, s_iret), (56, s_iinc 2 1 59), (59, s_goto 7), (62, s_pushi (-1) 63), (63, s_aload 0 64), (64, s_getf 3 3 67), (67, s_bin (fun x y => x - y) 68), (68, s_iret)]
set_option maxRecDepth 20000 in
theorem zX3_readText : ∀ q ∈ kX3_readText, Snd RX3 cX3_readText 3 (some .int) (rmM mX3_readText) q.1 q.2 :=
  fm (z_aload_n (j := 0) (by decide +kernel) rfl) (
  fm (z_iconst (n := 0) (by decide +kernel) (by decide)) (
  fm (z_putf (idx := 19) tyX3 tyX3_ok nmX3 awX3 rfl (by decide) wd_1_111 rfl rfl (by decide +kernel) (by decide +kernel)) (
  fm (z_iconst (n := 1) (by decide +kernel) (by decide)) (
  fm (z_istore_n (j := 2) (by decide +kernel) rfl (by decide)) (
  fm (z_iload_n (j := 2) (by decide +kernel) rfl) (
  fm (z_bipush (n := 120) (by decide +kernel) (by decide)) (
  fm (z_icmp_gt (off := 52) (by decide +kernel) (by decide)) (
  fm (z_aload_n (j := 0) (by decide +kernel) rfl) (
  fm (z_inv (idx := 22) rfl (by decide +kernel) wd_3_24 wd_3_26 ws_13 wd_1_5 wd_3_27 (by decide +kernel) ⟨Nat.le_of_ble_eq_true rfl, Nat.le_of_ble_eq_true rfl⟩) (
  fm (z_aload_n (j := 0) (by decide +kernel) rfl) (
  fm (z_aload_n (j := 1) (by decide +kernel) rfl) (
  fm (z_inv (idx := 25) rfl (by decide +kernel) wd_3_40 wd_3_42 ws_17 wd_1_5 wd_3_43 (by decide +kernel) ⟨Nat.le_of_ble_eq_true rfl, Nat.le_of_ble_eq_true rfl⟩) (
  fm (z_if_ne (off := 10) (by decide +kernel) (by decide)) (
  fm (z_iconst (n := (-1)) (by decide +kernel) (by decide)) (
  fm (z_aload_n (j := 0) (by decide +kernel) rfl) (
  fm (z_getf (idx := 29) awX3 rfl (by decide) wd_1_110 rfl (by decide +kernel)) (
  fm (z_isub (by decide +kernel)) (
  fm (z_iret rfl (by decide +kernel)) (
  fm (z_aload_n (j := 0) (by decide +kernel) rfl) (
  fm (z_getf (idx := 32) awX3 rfl (by decide) wd_1_109 rfl (by decide +kernel)) (
  fm (z_if_ne (off := 5) (by decide +kernel) (by decide)) (
  fm (z_iload_n (j := 2) (by decide +kernel) rfl) (
  fm (z_iret rfl (by decide +kernel)) (
  fm (z_aload_n (j := 0) (by decide +kernel) rfl) (
  fm (z_getf (idx := 32) awX3 rfl (by decide) wd_1_109 rfl (by decide +kernel)) (
  fm (z_iconst (n := 3) (by decide +kernel) (by decide)) (
  fm (z_icmp_eq (off := 10) (by decide +kernel) (by decide)) (
  fm (z_iconst (n := (-1)) (by decide +kernel) (by decide)) (
  fm (z_aload_n (j := 0) (by decide +kernel) rfl) (
  fm (z_getf (idx := 29) awX3 rfl (by decide) wd_1_110 rfl (by decide +kernel)) (
  fm (z_isub (by decide +kernel)) (
  fm (z_iret rfl (by decide +kernel)) (
  fm (z_iinc (n := 1) (by decide +kernel) (by decide) (by decide)) (
  fm (z_goto (off := (-52)) (by decide +kernel) (by decide)) (
  fm (z_iconst (n := (-1)) (by decide +kernel) (by decide)) (
  fm (z_aload_n (j := 0) (by decide +kernel) rfl) (
  fm (z_getf (idx := 29) awX3 rfl (by decide) wd_1_110 rfl (by decide +kernel)) (
  fm (z_isub (by decide +kernel)) (
  fm (z_iret rfl (by decide +kernel)) (fn))))))))))))))))))))))))))))))))))))))))
def kX3_readVisits : Cd := [(0, s_aload 0 1), (1, s_inv mX3_readOn 3 0 4), (4, s_aload 0 5), (5, s_pushi 0 6), (6, s_pushi 11 8), (8, s_inv mX3_isNumber 3 2 11), (11, s_if (fun x => x = 0) 14 16), (14, s_pushi 0 15), (15, s_zret), (16, s_aload 0 17), (17, s_getf 3 5 20), (20, s_istore 2 21), (21, s_aload 0 22), (22, s_getf 3 5 25), (25, s_istore 3 26), (26, s_aload 0 27), (27, s_inv mX3_readOn 3 0 30), (30, s_aload 0 31), (31, s_ldcs 10 33), (33, s_inv mX3_isWord 3 1 36), (36, s_if (fun x => x = 0) 64 39), (39, s_aload 0 40), (40, s_inv mX3_readOn 3 0 43), (43, s_aload 0 44), (44, s_iload 2 45), (45, s_pushi 11 47), (47, s_inv mX3_isNumber 3 2 50), (50, s_if (fun x => x = 0) 53 55), (53, s_pushi 0 54), (54, s_zret), (55, s_aload 0 56), (56, s_getf 3 5 59), (59, s_istore 3 60), (60, s_aload 0 61), (61, s_inv mX3_readOn 3 0 64), (64, s_aload 0 65), (65, s_ldcs 11 67), (67, s_inv mX3_isWord 3 1 70), (70, s_if (fun x => x = 0) 73 75), (73, s_pushi 0 74), (74, s_zret), (75, s_aload 0 76), (76, s_inv mX3_readOn 3 0 79), (79, s_aload 0 80), (80, s_pushi 0 81), (81, s_pushi 20 83), (83, s_inv mX3_isNumber 3 2 86), (86, s_if (fun x => x = 0) 89 91), (89, s_pushi 0 90), (90, s_zret), (91, s_iload 2 92), (92, s_istore 4 94), (94, s_iload 4 96), (96, s_iload 3 97), (97, s_icmp (fun x y => y < x) 117 100), (100, s_aload 1 101), (101, s_getf 2 0 104), (104, s_iload 4 106), (106, s_aload 0 107), (107, s_getf 3 5 110), (110, s_iast 111), (111, s_iinc 4 1 114), (114, s_goto 94), (117, s_aload 0 118), (118, s_inv mX3_readOn 3 0 121), (121, s_pushi 1 122), (122, s_zret)]
set_option maxRecDepth 20000 in
theorem zX3_readVisits : ∀ q ∈ kX3_readVisits, Snd RX3 cX3_readVisits 5 (some .boolean) (rmM mX3_readVisits) q.1 q.2 :=
  fm (z_aload_n (j := 0) (by decide +kernel) rfl) (
  fm (z_inv (idx := 22) rfl (by decide +kernel) wd_3_24 wd_3_26 ws_13 wd_1_5 wd_3_27 (by decide +kernel) ⟨Nat.le_of_ble_eq_true rfl, Nat.le_of_ble_eq_true rfl⟩) (
  fm (z_aload_n (j := 0) (by decide +kernel) rfl) (
  fm (z_iconst (n := 0) (by decide +kernel) (by decide)) (
  fm (z_bipush (n := 11) (by decide +kernel) (by decide)) (
  fm (z_inv (idx := 85) rfl (by decide +kernel) wd_3_115 wd_3_117 ws_21 wd_1_5 wd_3_118 (by decide +kernel) ⟨Nat.le_of_ble_eq_true rfl, Nat.le_of_ble_eq_true rfl⟩) (
  fm (z_if_ne (off := 5) (by decide +kernel) (by decide)) (
  fm (z_iconst (n := 0) (by decide +kernel) (by decide)) (
  fm (z_zret rfl (by decide +kernel)) (
  fm (z_aload_n (j := 0) (by decide +kernel) rfl) (
  fm (z_getf (idx := 47) awX3 rfl (by decide) wd_1_112 rfl (by decide +kernel)) (
  fm (z_istore_n (j := 2) (by decide +kernel) rfl (by decide)) (
  fm (z_aload_n (j := 0) (by decide +kernel) rfl) (
  fm (z_getf (idx := 47) awX3 rfl (by decide) wd_1_112 rfl (by decide +kernel)) (
  fm (z_istore_n (j := 3) (by decide +kernel) rfl (by decide)) (
  fm (z_aload_n (j := 0) (by decide +kernel) rfl) (
  fm (z_inv (idx := 22) rfl (by decide +kernel) wd_3_24 wd_3_26 ws_13 wd_1_5 wd_3_27 (by decide +kernel) ⟨Nat.le_of_ble_eq_true rfl, Nat.le_of_ble_eq_true rfl⟩) (
  fm (z_aload_n (j := 0) (by decide +kernel) rfl) (
  fm (z_ldcs (i := 10) (idx := 102) (by decide) rfl (by decide +kernel)) (
  fm (z_inv (idx := 59) rfl (by decide +kernel) wd_3_58 wd_3_60 ws_19 wd_1_5 wd_3_61 (by decide +kernel) ⟨Nat.le_of_ble_eq_true rfl, Nat.le_of_ble_eq_true rfl⟩) (
  fm (z_if_eq (off := 28) (by decide +kernel) (by decide)) (
  fm (z_aload_n (j := 0) (by decide +kernel) rfl) (
  fm (z_inv (idx := 22) rfl (by decide +kernel) wd_3_24 wd_3_26 ws_13 wd_1_5 wd_3_27 (by decide +kernel) ⟨Nat.le_of_ble_eq_true rfl, Nat.le_of_ble_eq_true rfl⟩) (
  fm (z_aload_n (j := 0) (by decide +kernel) rfl) (
  fm (z_iload_n (j := 2) (by decide +kernel) rfl) (
  fm (z_bipush (n := 11) (by decide +kernel) (by decide)) (
  fm (z_inv (idx := 85) rfl (by decide +kernel) wd_3_115 wd_3_117 ws_21 wd_1_5 wd_3_118 (by decide +kernel) ⟨Nat.le_of_ble_eq_true rfl, Nat.le_of_ble_eq_true rfl⟩) (
  fm (z_if_ne (off := 5) (by decide +kernel) (by decide)) (
  fm (z_iconst (n := 0) (by decide +kernel) (by decide)) (
  fm (z_zret rfl (by decide +kernel)) (
  fm (z_aload_n (j := 0) (by decide +kernel) rfl) (
  fm (z_getf (idx := 47) awX3 rfl (by decide) wd_1_112 rfl (by decide +kernel)) (
  fm (z_istore_n (j := 3) (by decide +kernel) rfl (by decide)) (
  fm (z_aload_n (j := 0) (by decide +kernel) rfl) (
  fm (z_inv (idx := 22) rfl (by decide +kernel) wd_3_24 wd_3_26 ws_13 wd_1_5 wd_3_27 (by decide +kernel) ⟨Nat.le_of_ble_eq_true rfl, Nat.le_of_ble_eq_true rfl⟩) (
  fm (z_aload_n (j := 0) (by decide +kernel) rfl) (
  fm (z_ldcs (i := 11) (idx := 104) (by decide) rfl (by decide +kernel)) (
  fm (z_inv (idx := 59) rfl (by decide +kernel) wd_3_58 wd_3_60 ws_19 wd_1_5 wd_3_61 (by decide +kernel) ⟨Nat.le_of_ble_eq_true rfl, Nat.le_of_ble_eq_true rfl⟩) (
  fm (z_if_ne (off := 5) (by decide +kernel) (by decide)) (
  fm (z_iconst (n := 0) (by decide +kernel) (by decide)) (
  fm (z_zret rfl (by decide +kernel)) (
  fm (z_aload_n (j := 0) (by decide +kernel) rfl) (
  fm (z_inv (idx := 22) rfl (by decide +kernel) wd_3_24 wd_3_26 ws_13 wd_1_5 wd_3_27 (by decide +kernel) ⟨Nat.le_of_ble_eq_true rfl, Nat.le_of_ble_eq_true rfl⟩) (
  fm (z_aload_n (j := 0) (by decide +kernel) rfl) (
  fm (z_iconst (n := 0) (by decide +kernel) (by decide)) (
  fm (z_bipush (n := 20) (by decide +kernel) (by decide)) (
  fm (z_inv (idx := 85) rfl (by decide +kernel) wd_3_115 wd_3_117 ws_21 wd_1_5 wd_3_118 (by decide +kernel) ⟨Nat.le_of_ble_eq_true rfl, Nat.le_of_ble_eq_true rfl⟩) (
  fm (z_if_ne (off := 5) (by decide +kernel) (by decide)) (
  fm (z_iconst (n := 0) (by decide +kernel) (by decide)) (
  fm (z_zret rfl (by decide +kernel)) (
  fm (z_iload_n (j := 2) (by decide +kernel) rfl) (
  fm (z_istore (i := 4) (by decide +kernel) (by decide)) (
  fm (z_iload (i := 4) (by decide +kernel)) (
  fm (z_iload_n (j := 3) (by decide +kernel) rfl) (
  fm (z_icmp_gt (off := 20) (by decide +kernel) (by decide)) (
  fm (z_aload_n (j := 1) (by decide +kernel) rfl) (
  fm (z_getf (idx := 106) awX2 rfl (by decide) wd_1_33 rfl (by decide +kernel)) (
  fm (z_iload (i := 4) (by decide +kernel)) (
  fm (z_aload_n (j := 0) (by decide +kernel) rfl) (
  fm (z_getf (idx := 47) awX3 rfl (by decide) wd_1_112 rfl (by decide +kernel)) (
  fm (z_iast (by decide +kernel)) (
  fm (z_iinc (n := 1) (by decide +kernel) (by decide) (by decide)) (
  fm (z_goto (off := (-20)) (by decide +kernel) (by decide)) (
  fm (z_aload_n (j := 0) (by decide +kernel) rfl) (
  fm (z_inv (idx := 22) rfl (by decide +kernel) wd_3_24 wd_3_26 ws_13 wd_1_5 wd_3_27 (by decide +kernel) ⟨Nat.le_of_ble_eq_true rfl, Nat.le_of_ble_eq_true rfl⟩) (
  fm (z_iconst (n := 1) (by decide +kernel) (by decide)) (
  fm (z_zret rfl (by decide +kernel)) (fn)))))))))))))))))))))))))))))))))))))))))))))))))))))))))))))))))))
def kX3_valueOfRun : Cd := [(0, s_pushi 0 1), (1, s_istore 1 2), (2, s_aload 0 3), (3, s_getf 3 3 6), (6, s_istore 2 7), (7, s_iload 2 8), (8, s_aload 0 9), (9, s_getf 3 4 12), (12, s_icmp (fun x y => y ≤ x) 43 15), (15, s_iload 1 16), (16, s_pushi 999 19), (19, s_icmp (fun x y => y < x) 43 22), (22, s_iload 1 23), (23, s_pushi 10 25), (25, s_bin (fun x y => x * y) 26), (26, s_aload 0 27), (27, s_getf 3 0 30), (30, s_iload 2 31), (31, s_iald 32), (32, s_pushi 48 34), (34, s_bin (fun x y => x - y) 35), (35, s_bin (fun x y => x + y) 36), (36, s_istore 1 37), (37, s_iinc 2 1 40), (40, s_goto 7), (43, s_iload 1 44), (44, s_iret)]
set_option maxRecDepth 20000 in
theorem zX3_valueOfRun : ∀ q ∈ kX3_valueOfRun, Snd RX3 cX3_valueOfRun 3 (some .int) (rmM mX3_valueOfRun) q.1 q.2 :=
  fm (z_iconst (n := 0) (by decide +kernel) (by decide)) (
  fm (z_istore_n (j := 1) (by decide +kernel) rfl (by decide)) (
  fm (z_aload_n (j := 0) (by decide +kernel) rfl) (
  fm (z_getf (idx := 29) awX3 rfl (by decide) wd_1_110 rfl (by decide +kernel)) (
  fm (z_istore_n (j := 2) (by decide +kernel) rfl (by decide)) (
  fm (z_iload_n (j := 2) (by decide +kernel) rfl) (
  fm (z_aload_n (j := 0) (by decide +kernel) rfl) (
  fm (z_getf (idx := 19) awX3 rfl (by decide) wd_1_111 rfl (by decide +kernel)) (
  fm (z_icmp_ge (off := 31) (by decide +kernel) (by decide)) (
  fm (z_iload_n (j := 1) (by decide +kernel) rfl) (
  fm (z_sipush (n := 999) (by decide +kernel) (by decide)) (
  fm (z_icmp_gt (off := 24) (by decide +kernel) (by decide)) (
  fm (z_iload_n (j := 1) (by decide +kernel) rfl) (
  fm (z_bipush (n := 10) (by decide +kernel) (by decide)) (
  fm (z_imul (by decide +kernel)) (
  fm (z_aload_n (j := 0) (by decide +kernel) rfl) (
  fm (z_getf (idx := 9) awX3 rfl (by decide) wd_1_106 rfl (by decide +kernel)) (
  fm (z_iload_n (j := 2) (by decide +kernel) rfl) (
  fm (z_iald (by decide +kernel)) (
  fm (z_bipush (n := 48) (by decide +kernel) (by decide)) (
  fm (z_isub (by decide +kernel)) (
  fm (z_iadd (by decide +kernel)) (
  fm (z_istore_n (j := 1) (by decide +kernel) rfl (by decide)) (
  fm (z_iinc (n := 1) (by decide +kernel) (by decide) (by decide)) (
  fm (z_goto (off := (-33)) (by decide +kernel) (by decide)) (
  fm (z_iload_n (j := 1) (by decide +kernel) rfl) (
  fm (z_iret rfl (by decide +kernel)) (fn)))))))))))))))))))))))))))
def kX3_wordOfKind : Cd := [(0, s_iload 0 1), (1, s_sw [(1, 40), (2, 43), (3, 46), (4, 49), (5, 52), (6, 55)] 58), (40, s_ldcs 0 42), (42, s_aret), (43, s_ldcs 1 45), (45, s_aret), (46, s_ldcs 2 48), (48, s_aret), (49, s_ldcs 3 51), (51, s_aret), (52, s_ldcs 4 54), (54, s_aret), (55, s_ldcs 5 57), (57, s_aret), (58, s_ldcs 6 60), (60, s_aret)]
set_option maxRecDepth 20000 in
theorem zX3_wordOfKind : ∀ q ∈ kX3_wordOfKind, Snd RX3 cX3_wordOfKind 1 (some (.object "java/lang/String")) (rmM mX3_wordOfKind) q.1 q.2 :=
  fm (z_iload_n (j := 0) (by decide +kernel) rfl) (
  fm (z_tsw (dflt := 57) (lo := 1) (hi := 6) (offs := #[39, 42, 45, 48, 51, 54]) (len := 39) (by decide +kernel) (by decide) rfl (by decide) (by decide +kernel)) (
  fm (z_ldcs (i := 0) (idx := 127) (by decide) rfl (by decide +kernel)) (
  fm (z_aret rfl (by decide +kernel)) (
  fm (z_ldcs (i := 1) (idx := 129) (by decide) rfl (by decide +kernel)) (
  fm (z_aret rfl (by decide +kernel)) (
  fm (z_ldcs (i := 2) (idx := 131) (by decide) rfl (by decide +kernel)) (
  fm (z_aret rfl (by decide +kernel)) (
  fm (z_ldcs (i := 3) (idx := 133) (by decide) rfl (by decide +kernel)) (
  fm (z_aret rfl (by decide +kernel)) (
  fm (z_ldcs (i := 4) (idx := 135) (by decide) rfl (by decide +kernel)) (
  fm (z_aret rfl (by decide +kernel)) (
  fm (z_ldcs (i := 5) (idx := 137) (by decide) rfl (by decide +kernel)) (
  fm (z_aret rfl (by decide +kernel)) (
  fm (z_ldcs (i := 6) (idx := 139) (by decide) rfl (by decide +kernel)) (
  fm (z_aret rfl (by decide +kernel)) (fn))))))))))))))))
end
section
/-! CODE of X4, by program -/
def kX4_again : Cd := [(0, s_aload 0 1), (1, s_pushi 1 2), (2, s_pushi 96 4), (4, s_pushi 0 5), (5, s_pushi 96 7), (7, s_inv mX4_aheadFinding 4 4 10), (10, s_istore 1 11), (11, s_iload 1 12), (12, s_if (fun x => x = 0) 17 15), (15, s_iload 1 16), (16, s_iret), (17, s_aload 0 18), (18, s_getf 4 1 21), (21, s_aload 0 22), (22, s_getf 4 0 25), (25, s_inv mX2_become 2 1 28), (28, s_pushi 1 29), (29, s_istore 2 30), (30, s_iload 2 31), (31, s_pushi 96 33), (33, s_icmp (fun x y => y < x) 66 36), (36, s_aload 0 37), (37, s_getf 4 1 40), (40, s_inv mX2_passHour 2 0 43), (43, s_pop 44), (44, s_aload 0 45), (45, s_getf 4 1 48), (48, s_aload 0 49), (49, s_getf 4 0 52), (52, s_inv mX2_standsLike 2 1 55), (55, s_if (fun x => x = 0) 60 58), (58, s_iload 2 59), (59, s_iret), (60, s_iinc 2 1 63), (63, s_goto 30), (66, s_aload 0 67), (67, s_pushi 3 68), (68, s_inv mX4_finding 4 1 71), (71, s_iret)]
set_option maxRecDepth 20000 in
theorem zX4_again : ∀ q ∈ kX4_again, Snd RX4 cX4_again 3 (some .int) (rmM mX4_again) q.1 q.2 :=
  fm (z_aload_n (j := 0) (by decide +kernel) rfl) (
  fm (z_iconst (n := 1) (by decide +kernel) (by decide)) (
  fm (z_bipush (n := 96) (by decide +kernel) (by decide)) (
  fm (z_iconst (n := 0) (by decide +kernel) (by decide)) (
  fm (z_bipush (n := 96) (by decide +kernel) (by decide)) (
  fm (z_inv (idx := 115) rfl (by decide +kernel) wd_2_22 wd_2_24 ws_3 wd_1_1 wd_2_25 (by decide +kernel) ⟨Nat.le_of_ble_eq_true rfl, Nat.le_of_ble_eq_true rfl⟩) (
  fm (z_istore_n (j := 1) (by decide +kernel) rfl (by decide)) (
  fm (z_iload_n (j := 1) (by decide +kernel) rfl) (
  fm (z_if_eq (off := 5) (by decide +kernel) (by decide)) (
  fm (z_iload_n (j := 1) (by decide +kernel) rfl) (
  fm (z_iret rfl (by decide +kernel)) (
  fm (z_aload_n (j := 0) (by decide +kernel) rfl) (
  fm (z_getf (idx := 16) awX4 rfl (by decide) wd_1_147 rfl (by decide +kernel)) (
  fm (z_aload_n (j := 0) (by decide +kernel) rfl) (
  fm (z_getf (idx := 10) awX4 rfl (by decide) wd_1_146 rfl (by decide +kernel)) (
  fm (z_inv (idx := 122) rfl (by decide +kernel) wd_2_64 wd_2_65 wd_2_66 wd_1_2 wd_2_67 (by decide +kernel) ⟨Nat.le_of_ble_eq_true rfl, Nat.le_of_ble_eq_true rfl⟩) (
  fm (z_iconst (n := 1) (by decide +kernel) (by decide)) (
  fm (z_istore_n (j := 2) (by decide +kernel) rfl (by decide)) (
  fm (z_iload_n (j := 2) (by decide +kernel) rfl) (
  fm (z_bipush (n := 96) (by decide +kernel) (by decide)) (
  fm (z_icmp_gt (off := 33) (by decide +kernel) (by decide)) (
  fm (z_aload_n (j := 0) (by decide +kernel) rfl) (
  fm (z_getf (idx := 16) awX4 rfl (by decide) wd_1_147 rfl (by decide +kernel)) (
  fm (z_inv (idx := 142) rfl (by decide +kernel) wd_2_93 wd_2_31 wd_2_32 wd_1_2 wd_2_33 (by decide +kernel) ⟨Nat.le_of_ble_eq_true rfl, Nat.le_of_ble_eq_true rfl⟩) (
  fm (z_pop (by decide +kernel)) (
  fm (z_aload_n (j := 0) (by decide +kernel) rfl) (
  fm (z_getf (idx := 16) awX4 rfl (by decide) wd_1_147 rfl (by decide +kernel)) (
  fm (z_aload_n (j := 0) (by decide +kernel) rfl) (
  fm (z_getf (idx := 10) awX4 rfl (by decide) wd_1_146 rfl (by decide +kernel)) (
  fm (z_inv (idx := 145) rfl (by decide +kernel) wd_2_102 wd_2_103 wd_2_104 wd_1_2 wd_2_105 (by decide +kernel) ⟨Nat.le_of_ble_eq_true rfl, Nat.le_of_ble_eq_true rfl⟩) (
  fm (z_if_eq (off := 5) (by decide +kernel) (by decide)) (
  fm (z_iload_n (j := 2) (by decide +kernel) rfl) (
  fm (z_iret rfl (by decide +kernel)) (
  fm (z_iinc (n := 1) (by decide +kernel) (by decide) (by decide)) (
  fm (z_goto (off := (-33)) (by decide +kernel) (by decide)) (
  fm (z_aload_n (j := 0) (by decide +kernel) rfl) (
  fm (z_iconst (n := 3) (by decide +kernel) (by decide)) (
  fm (z_inv (idx := 57) rfl (by decide +kernel) wd_1_184 wd_1_186 ws_0 wd_1_1 wd_1_187 (by decide +kernel) ⟨Nat.le_of_ble_eq_true rfl, Nat.le_of_ble_eq_true rfl⟩) (
  fm (z_iret rfl (by decide +kernel)) (fn)))))))))))))))))))))))))))))))))))))))
def kX4_ahead : Cd := [(0, s_aload 0 1), (1, s_iload 2 2), (2, s_if (fun x => x < 0) 22 5), (5, s_iload 2 6), (6, s_pushi 4 7), (7, s_aload 0 8), (8, s_getf 4 0 11), (11, s_getf 2 9 14), (14, s_bin (fun x y => x + y) 15), (15, s_icmp (fun x y => y ≤ x) 22 18), (18, s_pushi 1 19), (19, s_goto 23), (22, s_pushi 0 23), (23, s_iload 1 24), (24, s_pushi 0 25), (25, s_pushi 96 27), (27, s_inv mX4_aheadFinding 4 4 30), (30, s_istore 3 31), (31, s_iload 3 32), (32, s_if (fun x => x = 0) 37 35), (35, s_iload 3 36), (36, s_iret), (37, s_aload 0 38), (38, s_getf 4 1 41), (41, s_aload 0 42), (42, s_getf 4 0 45), (45, s_inv mX2_become 2 1 48), (48, s_aload 0 49), (49, s_getf 4 1 52), (52, s_iload 1 53), (53, s_inv mX2_passHours 2 1 56), (56, s_istore 4 58), (58, s_iload 2 59), (59, s_sw [(0, 88), (1, 91), (2, 99), (3, 107)] 115), (88, s_iload 4 90), (90, s_iret), (91, s_aload 0 92), (92, s_getf 4 1 95), (95, s_inv mX2_soldOut 2 0 98), (98, s_iret), (99, s_aload 0 100), (100, s_getf 4 1 103), (103, s_inv mX2_freePlaces 2 0 106), (106, s_iret), (107, s_aload 0 108), (108, s_getf 4 1 111), (111, s_inv mX2_allCoin 2 0 114), (114, s_iret), (115, s_aload 0 116), (116, s_getf 4 1 119), (119, s_getf 2 3 122), (122, s_iload 2 123), (123, s_pushi 4 124), (124, s_bin (fun x y => x - y) 125), (125, s_iald 126), (126, s_iret)]
set_option maxRecDepth 20000 in
theorem zX4_ahead : ∀ q ∈ kX4_ahead, Snd RX4 cX4_ahead 5 (some .int) (rmM mX4_ahead) q.1 q.2 :=
  fm (z_aload_n (j := 0) (by decide +kernel) rfl) (
  fm (z_iload_n (j := 2) (by decide +kernel) rfl) (
  fm (z_if_lt (off := 20) (by decide +kernel) (by decide)) (
  fm (z_iload_n (j := 2) (by decide +kernel) rfl) (
  fm (z_iconst (n := 4) (by decide +kernel) (by decide)) (
  fm (z_aload_n (j := 0) (by decide +kernel) rfl) (
  fm (z_getf (idx := 10) awX4 rfl (by decide) wd_1_146 rfl (by decide +kernel)) (
  fm (z_getf (idx := 77) awX2 rfl (by decide) wd_1_54 rfl (by decide +kernel)) (
  fm (z_iadd (by decide +kernel)) (
  fm (z_icmp_ge (off := 7) (by decide +kernel) (by decide)) (
  fm (z_iconst (n := 1) (by decide +kernel) (by decide)) (
  fm (z_goto (off := 4) (by decide +kernel) (by decide)) (
  fm (z_iconst (n := 0) (by decide +kernel) (by decide)) (
  fm (z_iload_n (j := 1) (by decide +kernel) rfl) (
  fm (z_iconst (n := 0) (by decide +kernel) (by decide)) (
  fm (z_bipush (n := 96) (by decide +kernel) (by decide)) (
  fm (z_inv (idx := 115) rfl (by decide +kernel) wd_2_22 wd_2_24 ws_3 wd_1_1 wd_2_25 (by decide +kernel) ⟨Nat.le_of_ble_eq_true rfl, Nat.le_of_ble_eq_true rfl⟩) (
  fm (z_istore_n (j := 3) (by decide +kernel) rfl (by decide)) (
  fm (z_iload_n (j := 3) (by decide +kernel) rfl) (
  fm (z_if_eq (off := 5) (by decide +kernel) (by decide)) (
  fm (z_iload_n (j := 3) (by decide +kernel) rfl) (
  fm (z_iret rfl (by decide +kernel)) (
  fm (z_aload_n (j := 0) (by decide +kernel) rfl) (
  fm (z_getf (idx := 16) awX4 rfl (by decide) wd_1_147 rfl (by decide +kernel)) (
  fm (z_aload_n (j := 0) (by decide +kernel) rfl) (
  fm (z_getf (idx := 10) awX4 rfl (by decide) wd_1_146 rfl (by decide +kernel)) (
  fm (z_inv (idx := 122) rfl (by decide +kernel) wd_2_64 wd_2_65 wd_2_66 wd_1_2 wd_2_67 (by decide +kernel) ⟨Nat.le_of_ble_eq_true rfl, Nat.le_of_ble_eq_true rfl⟩) (
  fm (z_aload_n (j := 0) (by decide +kernel) rfl) (
  fm (z_getf (idx := 16) awX4 rfl (by decide) wd_1_147 rfl (by decide +kernel)) (
  fm (z_iload_n (j := 1) (by decide +kernel) rfl) (
  fm (z_inv (idx := 119) rfl (by decide +kernel) wd_2_26 wd_2_27 wd_2_28 wd_1_2 wd_2_29 (by decide +kernel) ⟨Nat.le_of_ble_eq_true rfl, Nat.le_of_ble_eq_true rfl⟩) (
  fm (z_istore (i := 4) (by decide +kernel) (by decide)) (
  fm (z_iload_n (j := 2) (by decide +kernel) rfl) (
  fm (z_tsw (dflt := 56) (lo := 0) (hi := 3) (offs := #[29, 32, 40, 48]) (len := 29) (by decide +kernel) (by decide) rfl (by decide) (by decide +kernel)) (
  fm (z_iload (i := 4) (by decide +kernel)) (
  fm (z_iret rfl (by decide +kernel)) (
  fm (z_aload_n (j := 0) (by decide +kernel) rfl) (
  fm (z_getf (idx := 16) awX4 rfl (by decide) wd_1_147 rfl (by decide +kernel)) (
  fm (z_inv (idx := 133) rfl (by decide +kernel) wd_2_77 wd_2_78 wd_2_79 wd_1_2 wd_2_80 (by decide +kernel) ⟨Nat.le_of_ble_eq_true rfl, Nat.le_of_ble_eq_true rfl⟩) (
  fm (z_iret rfl (by decide +kernel)) (
  fm (z_aload_n (j := 0) (by decide +kernel) rfl) (
  fm (z_getf (idx := 16) awX4 rfl (by decide) wd_1_147 rfl (by decide +kernel)) (
  fm (z_inv (idx := 136) rfl (by decide +kernel) wd_2_81 wd_2_82 wd_2_83 wd_1_2 wd_2_84 (by decide +kernel) ⟨Nat.le_of_ble_eq_true rfl, Nat.le_of_ble_eq_true rfl⟩) (
  fm (z_iret rfl (by decide +kernel)) (
  fm (z_aload_n (j := 0) (by decide +kernel) rfl) (
  fm (z_getf (idx := 16) awX4 rfl (by decide) wd_1_147 rfl (by decide +kernel)) (
  fm (z_inv (idx := 139) rfl (by decide +kernel) wd_2_85 wd_2_86 wd_2_87 wd_1_2 wd_2_88 (by decide +kernel) ⟨Nat.le_of_ble_eq_true rfl, Nat.le_of_ble_eq_true rfl⟩) (
  fm (z_iret rfl (by decide +kernel)) (
  fm (z_aload_n (j := 0) (by decide +kernel) rfl) (
  fm (z_getf (idx := 16) awX4 rfl (by decide) wd_1_147 rfl (by decide +kernel)) (
  fm (z_getf (idx := 90) awX2 rfl (by decide) wd_1_40 rfl (by decide +kernel)) (
  fm (z_iload_n (j := 2) (by decide +kernel) rfl) (
  fm (z_iconst (n := 4) (by decide +kernel) (by decide)) (
  fm (z_isub (by decide +kernel)) (
  fm (z_iald (by decide +kernel)) (
  fm (z_iret rfl (by decide +kernel)) (fn))))))))))))))))))))))))))))))))))))))))))))))))))))))))
def kX4_aheadFinding : Cd := [(0, s_iload 1 1), (1, s_if (fun x => x = 0) 15 4), (4, s_iload 2 5), (5, s_iload 3 6), (6, s_icmp (fun x y => x < y) 15 9), (9, s_iload 2 10), (10, s_iload 4 12), (12, s_icmp (fun x y => x ≤ y) 21 15), (15, s_aload 0 16), (16, s_pushi 0 17), (17, s_inv mX4_finding 4 1 20), (20, s_iret), (21, s_aload 0 22), (22, s_getf 4 0 25), (25, s_getf 2 10 28), (28, s_iload 2 29), (29, s_bin (fun x y => x + y) 30), (30, s_pushi 999 33), (33, s_icmp (fun x y => x ≤ y) 44 36), (36, s_aload 0 37), (37, s_pushi 4 38), (38, s_inv mX4_finding 4 1 41), (41, s_goto 45), (44, s_pushi 0 45), (45, s_iret)]
set_option maxRecDepth 20000 in
theorem zX4_aheadFinding : ∀ q ∈ kX4_aheadFinding, Snd RX4 cX4_aheadFinding 5 (some .int) (rmM mX4_aheadFinding) q.1 q.2 :=
  fm (z_iload_n (j := 1) (by decide +kernel) rfl) (
  fm (z_if_eq (off := 14) (by decide +kernel) (by decide)) (
  fm (z_iload_n (j := 2) (by decide +kernel) rfl) (
  fm (z_iload_n (j := 3) (by decide +kernel) rfl) (
  fm (z_icmp_lt (off := 9) (by decide +kernel) (by decide)) (
  fm (z_iload_n (j := 2) (by decide +kernel) rfl) (
  fm (z_iload (i := 4) (by decide +kernel)) (
  fm (z_icmp_le (off := 9) (by decide +kernel) (by decide)) (
  fm (z_aload_n (j := 0) (by decide +kernel) rfl) (
  fm (z_iconst (n := 0) (by decide +kernel) (by decide)) (
  fm (z_inv (idx := 57) rfl (by decide +kernel) wd_1_184 wd_1_186 ws_0 wd_1_1 wd_1_187 (by decide +kernel) ⟨Nat.le_of_ble_eq_true rfl, Nat.le_of_ble_eq_true rfl⟩) (
  fm (z_iret rfl (by decide +kernel)) (
  fm (z_aload_n (j := 0) (by decide +kernel) rfl) (
  fm (z_getf (idx := 10) awX4 rfl (by decide) wd_1_146 rfl (by decide +kernel)) (
  fm (z_getf (idx := 261) awX2 rfl (by decide) wd_1_57 rfl (by decide +kernel)) (
  fm (z_iload_n (j := 2) (by decide +kernel) rfl) (
  fm (z_iadd (by decide +kernel)) (
  fm (z_sipush (n := 999) (by decide +kernel) (by decide)) (
  fm (z_icmp_le (off := 11) (by decide +kernel) (by decide)) (
  fm (z_aload_n (j := 0) (by decide +kernel) rfl) (
  fm (z_iconst (n := 4) (by decide +kernel) (by decide)) (
  fm (z_inv (idx := 57) rfl (by decide +kernel) wd_1_184 wd_1_186 ws_0 wd_1_1 wd_1_187 (by decide +kernel) ⟨Nat.le_of_ble_eq_true rfl, Nat.le_of_ble_eq_true rfl⟩) (
  fm (z_goto (off := 4) (by decide +kernel) (by decide)) (
  fm (z_iconst (n := 0) (by decide +kernel) (by decide)) (
  fm (z_iret rfl (by decide +kernel)) (fn)))))))))))))))))))))))))
def kX4_as : Cd := [(0, s_iload 1 1), (1, s_invS mX4_isSpot 1 4), (4, s_if (fun x => x = 0) 14 7), (7, s_iload 2 8), (8, s_invS mX4_isKind 1 11), (11, s_if (fun x => x = 0) 14 20), (14, s_aload 0 15), (15, s_pushi 0 16), (16, s_inv mX4_finding 4 1 19), (19, s_iret), (20, s_aload 0 21), (21, s_getf 4 0 24), (24, s_getf 2 7 27), (27, s_iload 1 28), (28, s_iald 29), (29, s_istore 3 30), (30, s_aload 0 31), (31, s_iload 3 32), (32, s_inv mX4_isStall 4 1 35), (35, s_if (fun x => x = 0) 38 44), (38, s_aload 0 39), (39, s_pushi 5 40), (40, s_inv mX4_finding 4 1 43), (43, s_iret), (44, s_aload 0 45), (45, s_getf 4 0 48), (48, s_iload 3 49), (49, s_iload 2 50), (50, s_inv mX2_isOfKind 2 2 53), (53, s_if (fun x => x = 0) 60 56), (56, s_iload 3 57), (57, s_goto 65), (60, s_aload 0 61), (61, s_pushi 2 62), (62, s_inv mX4_finding 4 1 65), (65, s_iret)]
set_option maxRecDepth 20000 in
theorem zX4_as : ∀ q ∈ kX4_as, Snd RX4 cX4_as 4 (some .int) (rmM mX4_as) q.1 q.2 :=
  fm (z_iload_n (j := 1) (by decide +kernel) rfl) (
  fm (z_invS (idx := 215) (by decide +kernel) wd_3_145 wd_3_146 wd_1_1 wd_3_147 (by decide +kernel) ⟨Nat.le_of_ble_eq_true rfl, Nat.le_of_ble_eq_true rfl⟩) (
  fm (z_if_eq (off := 10) (by decide +kernel) (by decide)) (
  fm (z_iload_n (j := 2) (by decide +kernel) rfl) (
  fm (z_invS (idx := 71) (by decide +kernel) wd_1_201 wd_1_202 wd_1_1 wd_1_203 (by decide +kernel) ⟨Nat.le_of_ble_eq_true rfl, Nat.le_of_ble_eq_true rfl⟩) (
  fm (z_if_ne (off := 9) (by decide +kernel) (by decide)) (
  fm (z_aload_n (j := 0) (by decide +kernel) rfl) (
  fm (z_iconst (n := 0) (by decide +kernel) (by decide)) (
  fm (z_inv (idx := 57) rfl (by decide +kernel) wd_1_184 wd_1_186 ws_0 wd_1_1 wd_1_187 (by decide +kernel) ⟨Nat.le_of_ble_eq_true rfl, Nat.le_of_ble_eq_true rfl⟩) (
  fm (z_iret rfl (by decide +kernel)) (
  fm (z_aload_n (j := 0) (by decide +kernel) rfl) (
  fm (z_getf (idx := 10) awX4 rfl (by decide) wd_1_146 rfl (by decide +kernel)) (
  fm (z_getf (idx := 218) awX2 rfl (by decide) wd_1_49 rfl (by decide +kernel)) (
  fm (z_iload_n (j := 1) (by decide +kernel) rfl) (
  fm (z_iald (by decide +kernel)) (
  fm (z_istore_n (j := 3) (by decide +kernel) rfl (by decide)) (
  fm (z_aload_n (j := 0) (by decide +kernel) rfl) (
  fm (z_iload_n (j := 3) (by decide +kernel) rfl) (
  fm (z_inv (idx := 84) rfl (by decide +kernel) wd_1_216 wd_1_218 ws_1 wd_1_1 wd_1_219 (by decide +kernel) ⟨Nat.le_of_ble_eq_true rfl, Nat.le_of_ble_eq_true rfl⟩) (
  fm (z_if_ne (off := 9) (by decide +kernel) (by decide)) (
  fm (z_aload_n (j := 0) (by decide +kernel) rfl) (
  fm (z_iconst (n := 5) (by decide +kernel) (by decide)) (
  fm (z_inv (idx := 57) rfl (by decide +kernel) wd_1_184 wd_1_186 ws_0 wd_1_1 wd_1_187 (by decide +kernel) ⟨Nat.le_of_ble_eq_true rfl, Nat.le_of_ble_eq_true rfl⟩) (
  fm (z_iret rfl (by decide +kernel)) (
  fm (z_aload_n (j := 0) (by decide +kernel) rfl) (
  fm (z_getf (idx := 10) awX4 rfl (by decide) wd_1_146 rfl (by decide +kernel)) (
  fm (z_iload_n (j := 3) (by decide +kernel) rfl) (
  fm (z_iload_n (j := 2) (by decide +kernel) rfl) (
  fm (z_inv (idx := 221) rfl (by decide +kernel) wd_3_152 wd_3_153 wd_3_154 wd_1_2 wd_3_155 (by decide +kernel) ⟨Nat.le_of_ble_eq_true rfl, Nat.le_of_ble_eq_true rfl⟩) (
  fm (z_if_eq (off := 7) (by decide +kernel) (by decide)) (
  fm (z_iload_n (j := 3) (by decide +kernel) rfl) (
  fm (z_goto (off := 8) (by decide +kernel) (by decide)) (
  fm (z_aload_n (j := 0) (by decide +kernel) rfl) (
  fm (z_iconst (n := 2) (by decide +kernel) (by decide)) (
  fm (z_inv (idx := 57) rfl (by decide +kernel) wd_1_184 wd_1_186 ws_0 wd_1_1 wd_1_187 (by decide +kernel) ⟨Nat.le_of_ble_eq_true rfl, Nat.le_of_ble_eq_true rfl⟩) (
  fm (z_iret rfl (by decide +kernel)) (fn))))))))))))))))))))))))))))))))))))
def kX4_beside : Cd := [(0, s_aload 0 1), (1, s_iload 1 2), (2, s_inv mX4_isStall 4 1 5), (5, s_if (fun x => x = 0) 8 14), (8, s_aload 0 9), (9, s_pushi 0 10), (10, s_inv mX4_finding 4 1 13), (13, s_iret), (14, s_aload 0 15), (15, s_getf 4 0 18), (18, s_iload 1 19), (19, s_inv mX2_besideSet 2 1 22), (22, s_iret)]
set_option maxRecDepth 20000 in
theorem zX4_beside : ∀ q ∈ kX4_beside, Snd RX4 cX4_beside 2 (some .int) (rmM mX4_beside) q.1 q.2 :=
  fm (z_aload_n (j := 0) (by decide +kernel) rfl) (
  fm (z_iload_n (j := 1) (by decide +kernel) rfl) (
  fm (z_inv (idx := 84) rfl (by decide +kernel) wd_1_216 wd_1_218 ws_1 wd_1_1 wd_1_219 (by decide +kernel) ⟨Nat.le_of_ble_eq_true rfl, Nat.le_of_ble_eq_true rfl⟩) (
  fm (z_if_ne (off := 9) (by decide +kernel) (by decide)) (
  fm (z_aload_n (j := 0) (by decide +kernel) rfl) (
  fm (z_iconst (n := 0) (by decide +kernel) (by decide)) (
  fm (z_inv (idx := 57) rfl (by decide +kernel) wd_1_184 wd_1_186 ws_0 wd_1_1 wd_1_187 (by decide +kernel) ⟨Nat.le_of_ble_eq_true rfl, Nat.le_of_ble_eq_true rfl⟩) (
  fm (z_iret rfl (by decide +kernel)) (
  fm (z_aload_n (j := 0) (by decide +kernel) rfl) (
  fm (z_getf (idx := 10) awX4 rfl (by decide) wd_1_146 rfl (by decide +kernel)) (
  fm (z_iload_n (j := 1) (by decide +kernel) rfl) (
  fm (z_inv (idx := 184) rfl (by decide +kernel) wd_2_178 wd_2_179 wd_2_180 wd_1_2 wd_2_181 (by decide +kernel) ⟨Nat.le_of_ble_eq_true rfl, Nat.le_of_ble_eq_true rfl⟩) (
  fm (z_iret rfl (by decide +kernel)) (fn)))))))))))))
def kX4_best : Cd := [(0, s_aload 0 1), (1, s_aload 0 2), (2, s_iload 1 3), (3, s_inv mX4_isStall 4 1 6), (6, s_iload 2 7), (7, s_pushi 1 8), (8, s_pushi 48 10), (10, s_inv mX4_aheadFinding 4 4 13), (13, s_istore 3 14), (14, s_iload 3 15), (15, s_if (fun x => x = 0) 20 18), (18, s_iload 3 19), (19, s_iret), (20, s_pushi 0 21), (21, s_istore 4 23), (23, s_pushi (-1) 24), (24, s_istore 5 26), (26, s_pushi 0 27), (27, s_istore 6 29), (29, s_iload 6 31), (31, s_pushi 12 33), (33, s_icmp (fun x y => y ≤ x) 67 36), (36, s_aload 0 37), (37, s_iload 1 38), (38, s_iload 6 40), (40, s_iload 2 41), (41, s_inv mX4_coinFrom 4 3 44), (44, s_istore 7 46), (46, s_iload 7 48), (48, s_iload 5 50), (50, s_icmp (fun x y => x ≤ y) 61 53), (53, s_iload 7 55), (55, s_istore 5 57), (57, s_iload 6 59), (59, s_istore 4 61), (61, s_iinc 6 1 64), (64, s_goto 29), (67, s_iload 4 69), (69, s_iret)]
set_option maxRecDepth 20000 in
theorem zX4_best : ∀ q ∈ kX4_best, Snd RX4 cX4_best 8 (some .int) (rmM mX4_best) q.1 q.2 :=
  fm (z_aload_n (j := 0) (by decide +kernel) rfl) (
  fm (z_aload_n (j := 0) (by decide +kernel) rfl) (
  fm (z_iload_n (j := 1) (by decide +kernel) rfl) (
  fm (z_inv (idx := 84) rfl (by decide +kernel) wd_1_216 wd_1_218 ws_1 wd_1_1 wd_1_219 (by decide +kernel) ⟨Nat.le_of_ble_eq_true rfl, Nat.le_of_ble_eq_true rfl⟩) (
  fm (z_iload_n (j := 2) (by decide +kernel) rfl) (
  fm (z_iconst (n := 1) (by decide +kernel) (by decide)) (
  fm (z_bipush (n := 48) (by decide +kernel) (by decide)) (
  fm (z_inv (idx := 115) rfl (by decide +kernel) wd_2_22 wd_2_24 ws_3 wd_1_1 wd_2_25 (by decide +kernel) ⟨Nat.le_of_ble_eq_true rfl, Nat.le_of_ble_eq_true rfl⟩) (
  fm (z_istore_n (j := 3) (by decide +kernel) rfl (by decide)) (
  fm (z_iload_n (j := 3) (by decide +kernel) rfl) (
  fm (z_if_eq (off := 5) (by decide +kernel) (by decide)) (
  fm (z_iload_n (j := 3) (by decide +kernel) rfl) (
  fm (z_iret rfl (by decide +kernel)) (
  fm (z_iconst (n := 0) (by decide +kernel) (by decide)) (
  fm (z_istore (i := 4) (by decide +kernel) (by decide)) (
  fm (z_iconst (n := (-1)) (by decide +kernel) (by decide)) (
  fm (z_istore (i := 5) (by decide +kernel) (by decide)) (
  fm (z_iconst (n := 0) (by decide +kernel) (by decide)) (
  fm (z_istore (i := 6) (by decide +kernel) (by decide)) (
  fm (z_iload (i := 6) (by decide +kernel)) (
  fm (z_bipush (n := 12) (by decide +kernel) (by decide)) (
  fm (z_icmp_ge (off := 34) (by decide +kernel) (by decide)) (
  fm (z_aload_n (j := 0) (by decide +kernel) rfl) (
  fm (z_iload_n (j := 1) (by decide +kernel) rfl) (
  fm (z_iload (i := 6) (by decide +kernel)) (
  fm (z_iload_n (j := 2) (by decide +kernel) rfl) (
  fm (z_inv (idx := 195) rfl (by decide +kernel) wd_2_214 wd_2_216 ws_12 wd_1_1 wd_2_217 (by decide +kernel) ⟨Nat.le_of_ble_eq_true rfl, Nat.le_of_ble_eq_true rfl⟩) (
  fm (z_istore (i := 7) (by decide +kernel) (by decide)) (
  fm (z_iload (i := 7) (by decide +kernel)) (
  fm (z_iload (i := 5) (by decide +kernel)) (
  fm (z_icmp_le (off := 11) (by decide +kernel) (by decide)) (
  fm (z_iload (i := 7) (by decide +kernel)) (
  fm (z_istore (i := 5) (by decide +kernel) (by decide)) (
  fm (z_iload (i := 6) (by decide +kernel)) (
  fm (z_istore (i := 4) (by decide +kernel) (by decide)) (
  fm (z_iinc (n := 1) (by decide +kernel) (by decide) (by decide)) (
  fm (z_goto (off := (-35)) (by decide +kernel) (by decide)) (
  fm (z_iload (i := 4) (by decide +kernel)) (
  fm (z_iret rfl (by decide +kernel)) (fn)))))))))))))))))))))))))))))))))))))))
def kX4_change : Cd := [(0, s_aload 0 1), (1, s_iload 1 2), (2, s_inv mX4_isStall 4 1 5), (5, s_if (fun x => x = 0) 8 14), (8, s_aload 0 9), (9, s_pushi 0 10), (10, s_inv mX4_finding 4 1 13), (13, s_iret), (14, s_iload 2 15), (15, s_if (fun x => x = 0) 18 49), (18, s_iload 3 19), (19, s_invS mX4_isKind 1 22), (22, s_if (fun x => x = 0) 49 25), (25, s_aload 0 26), (26, s_getf 4 0 29), (29, s_getf 2 2 32), (32, s_iload 1 33), (33, s_iald 34), (34, s_istore 4 36), (36, s_aload 0 37), (37, s_getf 4 0 40), (40, s_getf 2 2 43), (43, s_iload 1 44), (44, s_iload 3 45), (45, s_iast 46), (46, s_iload 4 48), (48, s_iret), (49, s_iload 2 50), (50, s_pushi 2 51), (51, s_icmp (fun x y => x = y) 54 88), (54, s_iload 3 55), (55, s_if (fun x => x < 0) 88 58), (58, s_iload 3 59), (59, s_pushi 99 61), (61, s_icmp (fun x y => y < x) 88 64), (64, s_aload 0 65), (65, s_getf 4 0 68), (68, s_getf 2 4 71), (71, s_iload 1 72), (72, s_iald 73), (73, s_istore 4 75), (75, s_aload 0 76), (76, s_getf 4 0 79), (79, s_getf 2 4 82), (82, s_iload 1 83), (83, s_iload 3 84), (84, s_iast 85), (85, s_iload 4 87), (87, s_iret), (88, s_aload 0 89), (89, s_pushi 0 90), (90, s_inv mX4_finding 4 1 93), (93, s_iret)]
set_option maxRecDepth 20000 in
theorem zX4_change : ∀ q ∈ kX4_change, Snd RX4 cX4_change 5 (some .int) (rmM mX4_change) q.1 q.2 :=
  fm (z_aload_n (j := 0) (by decide +kernel) rfl) (
  fm (z_iload_n (j := 1) (by decide +kernel) rfl) (
  fm (z_inv (idx := 84) rfl (by decide +kernel) wd_1_216 wd_1_218 ws_1 wd_1_1 wd_1_219 (by decide +kernel) ⟨Nat.le_of_ble_eq_true rfl, Nat.le_of_ble_eq_true rfl⟩) (
  fm (z_if_ne (off := 9) (by decide +kernel) (by decide)) (
  fm (z_aload_n (j := 0) (by decide +kernel) rfl) (
  fm (z_iconst (n := 0) (by decide +kernel) (by decide)) (
  fm (z_inv (idx := 57) rfl (by decide +kernel) wd_1_184 wd_1_186 ws_0 wd_1_1 wd_1_187 (by decide +kernel) ⟨Nat.le_of_ble_eq_true rfl, Nat.le_of_ble_eq_true rfl⟩) (
  fm (z_iret rfl (by decide +kernel)) (
  fm (z_iload_n (j := 2) (by decide +kernel) rfl) (
  fm (z_if_ne (off := 34) (by decide +kernel) (by decide)) (
  fm (z_iload_n (j := 3) (by decide +kernel) rfl) (
  fm (z_invS (idx := 71) (by decide +kernel) wd_1_201 wd_1_202 wd_1_1 wd_1_203 (by decide +kernel) ⟨Nat.le_of_ble_eq_true rfl, Nat.le_of_ble_eq_true rfl⟩) (
  fm (z_if_eq (off := 27) (by decide +kernel) (by decide)) (
  fm (z_aload_n (j := 0) (by decide +kernel) rfl) (
  fm (z_getf (idx := 10) awX4 rfl (by decide) wd_1_146 rfl (by decide +kernel)) (
  fm (z_getf (idx := 87) awX2 rfl (by decide) wd_1_38 rfl (by decide +kernel)) (
  fm (z_iload_n (j := 1) (by decide +kernel) rfl) (
  fm (z_iald (by decide +kernel)) (
  fm (z_istore (i := 4) (by decide +kernel) (by decide)) (
  fm (z_aload_n (j := 0) (by decide +kernel) rfl) (
  fm (z_getf (idx := 10) awX4 rfl (by decide) wd_1_146 rfl (by decide +kernel)) (
  fm (z_getf (idx := 87) awX2 rfl (by decide) wd_1_38 rfl (by decide +kernel)) (
  fm (z_iload_n (j := 1) (by decide +kernel) rfl) (
  fm (z_iload_n (j := 3) (by decide +kernel) rfl) (
  fm (z_iast (by decide +kernel)) (
  fm (z_iload (i := 4) (by decide +kernel)) (
  fm (z_iret rfl (by decide +kernel)) (
  fm (z_iload_n (j := 2) (by decide +kernel) rfl) (
  fm (z_iconst (n := 2) (by decide +kernel) (by decide)) (
  fm (z_icmp_ne (off := 37) (by decide +kernel) (by decide)) (
  fm (z_iload_n (j := 3) (by decide +kernel) rfl) (
  fm (z_if_lt (off := 33) (by decide +kernel) (by decide)) (
  fm (z_iload_n (j := 3) (by decide +kernel) rfl) (
  fm (z_bipush (n := 99) (by decide +kernel) (by decide)) (
  fm (z_icmp_gt (off := 27) (by decide +kernel) (by decide)) (
  fm (z_aload_n (j := 0) (by decide +kernel) rfl) (
  fm (z_getf (idx := 10) awX4 rfl (by decide) wd_1_146 rfl (by decide +kernel)) (
  fm (z_getf (idx := 93) awX2 rfl (by decide) wd_1_42 rfl (by decide +kernel)) (
  fm (z_iload_n (j := 1) (by decide +kernel) rfl) (
  fm (z_iald (by decide +kernel)) (
  fm (z_istore (i := 4) (by decide +kernel) (by decide)) (
  fm (z_aload_n (j := 0) (by decide +kernel) rfl) (
  fm (z_getf (idx := 10) awX4 rfl (by decide) wd_1_146 rfl (by decide +kernel)) (
  fm (z_getf (idx := 93) awX2 rfl (by decide) wd_1_42 rfl (by decide +kernel)) (
  fm (z_iload_n (j := 1) (by decide +kernel) rfl) (
  fm (z_iload_n (j := 3) (by decide +kernel) rfl) (
  fm (z_iast (by decide +kernel)) (
  fm (z_iload (i := 4) (by decide +kernel)) (
  fm (z_iret rfl (by decide +kernel)) (
  fm (z_aload_n (j := 0) (by decide +kernel) rfl) (
  fm (z_iconst (n := 0) (by decide +kernel) (by decide)) (
  fm (z_inv (idx := 57) rfl (by decide +kernel) wd_1_184 wd_1_186 ws_0 wd_1_1 wd_1_187 (by decide +kernel) ⟨Nat.le_of_ble_eq_true rfl, Nat.le_of_ble_eq_true rfl⟩) (
  fm (z_iret rfl (by decide +kernel)) (fn)))))))))))))))))))))))))))))))))))))))))))))))))))))
def kX4_coinFrom : Cd := [(0, s_aload 0 1), (1, s_getf 4 1 4), (4, s_aload 0 5), (5, s_getf 4 0 8), (8, s_inv mX2_become 2 1 11), (11, s_aload 0 12), (12, s_getf 4 1 15), (15, s_iload 1 16), (16, s_iload 2 17), (17, s_inv mX2_bring 2 2 20), (20, s_aload 0 21), (21, s_getf 4 1 24), (24, s_iload 3 25), (25, s_inv mX2_passHours 2 1 28), (28, s_pop 29), (29, s_aload 0 30), (30, s_getf 4 1 33), (33, s_getf 2 5 36), (36, s_iload 1 37), (37, s_iald 38), (38, s_iret)]
set_option maxRecDepth 20000 in
theorem zX4_coinFrom : ∀ q ∈ kX4_coinFrom, Snd RX4 cX4_coinFrom 4 (some .int) (rmM mX4_coinFrom) q.1 q.2 :=
  fm (z_aload_n (j := 0) (by decide +kernel) rfl) (
  fm (z_getf (idx := 16) awX4 rfl (by decide) wd_1_147 rfl (by decide +kernel)) (
  fm (z_aload_n (j := 0) (by decide +kernel) rfl) (
  fm (z_getf (idx := 10) awX4 rfl (by decide) wd_1_146 rfl (by decide +kernel)) (
  fm (z_inv (idx := 122) rfl (by decide +kernel) wd_2_64 wd_2_65 wd_2_66 wd_1_2 wd_2_67 (by decide +kernel) ⟨Nat.le_of_ble_eq_true rfl, Nat.le_of_ble_eq_true rfl⟩) (
  fm (z_aload_n (j := 0) (by decide +kernel) rfl) (
  fm (z_getf (idx := 16) awX4 rfl (by decide) wd_1_147 rfl (by decide +kernel)) (
  fm (z_iload_n (j := 1) (by decide +kernel) rfl) (
  fm (z_iload_n (j := 2) (by decide +kernel) rfl) (
  fm (z_inv (idx := 277) rfl (by decide +kernel) wd_2_218 wd_2_219 wd_2_220 wd_1_2 wd_2_221 (by decide +kernel) ⟨Nat.le_of_ble_eq_true rfl, Nat.le_of_ble_eq_true rfl⟩) (
  fm (z_aload_n (j := 0) (by decide +kernel) rfl) (
  fm (z_getf (idx := 16) awX4 rfl (by decide) wd_1_147 rfl (by decide +kernel)) (
  fm (z_iload_n (j := 3) (by decide +kernel) rfl) (
  fm (z_inv (idx := 119) rfl (by decide +kernel) wd_2_26 wd_2_27 wd_2_28 wd_1_2 wd_2_29 (by decide +kernel) ⟨Nat.le_of_ble_eq_true rfl, Nat.le_of_ble_eq_true rfl⟩) (
  fm (z_pop (by decide +kernel)) (
  fm (z_aload_n (j := 0) (by decide +kernel) rfl) (
  fm (z_getf (idx := 16) awX4 rfl (by decide) wd_1_147 rfl (by decide +kernel)) (
  fm (z_getf (idx := 96) awX2 rfl (by decide) wd_1_45 rfl (by decide +kernel)) (
  fm (z_iload_n (j := 1) (by decide +kernel) rfl) (
  fm (z_iald (by decide +kernel)) (
  fm (z_iret rfl (by decide +kernel)) (fn)))))))))))))))))))))
def kX4_copy : Cd := [(0, s_iload 1 1), (1, s_invS mX4_isSheet 1 4), (4, s_if (fun x => x = 0) 14 7), (7, s_iload 3 8), (8, s_invS mX4_isSheet 1 11), (11, s_if (fun x => x = 0) 14 20), (14, s_aload 0 15), (15, s_pushi 0 16), (16, s_inv mX4_finding 4 1 19), (19, s_iret), (20, s_aload 0 21), (21, s_getf 4 6 24), (24, s_iload 1 25), (25, s_aald 26), (26, s_astore 6 28), (28, s_aload 0 29), (29, s_getf 4 6 32), (32, s_iload 3 33), (33, s_aald 34), (34, s_astore 7 36), (36, s_aload 6 38), (38, s_getf 1 1 41), (41, s_if (fun x => x = 0) 52 44), (44, s_aload 7 46), (46, s_getf 1 1 49), (49, s_if (fun x => x = 0) 52 58), (52, s_aload 0 53), (53, s_pushi 5 54), (54, s_inv mX4_finding 4 1 57), (57, s_iret), (58, s_aload 6 60), (60, s_getf 1 1 63), (63, s_aload 7 65), (65, s_getf 1 1 68), (68, s_icmp (fun x y => x = y) 77 71), (71, s_aload 0 72), (72, s_pushi 2 73), (73, s_inv mX4_finding 4 1 76), (76, s_iret), (77, s_aload 6 79), (79, s_iload 2 80), (80, s_iload 5 82), (82, s_inv mX1_hasPart 1 2 85), (85, s_if (fun x => x = 0) 100 88), (88, s_aload 7 90), (90, s_iload 4 92), (92, s_iload 5 94), (94, s_inv mX1_hasPart 1 2 97), (97, s_if (fun x => x = 0) 100 106), (100, s_aload 0 101), (101, s_pushi 0 102), (102, s_inv mX4_finding 4 1 105), (105, s_iret), (106, s_aload 6 108), (108, s_getf 1 0 111), (111, s_iload 2 112), (112, s_aload 7 114), (114, s_getf 1 0 117), (117, s_iload 4 119), (119, s_iload 5 121), (121, s_copy 124), (124, s_iload 5 126), (126, s_iret)]
set_option maxRecDepth 20000 in
theorem zX4_copy : ∀ q ∈ kX4_copy, Snd RX4 cX4_copy 8 (some .int) (rmM mX4_copy) q.1 q.2 :=
  fm (z_iload_n (j := 1) (by decide +kernel) rfl) (
  fm (z_invS (idx := 224) (by decide +kernel) wd_3_162 wd_3_163 wd_1_1 wd_3_164 (by decide +kernel) ⟨Nat.le_of_ble_eq_true rfl, Nat.le_of_ble_eq_true rfl⟩) (
  fm (z_if_eq (off := 10) (by decide +kernel) (by decide)) (
  fm (z_iload_n (j := 3) (by decide +kernel) rfl) (
  fm (z_invS (idx := 224) (by decide +kernel) wd_3_162 wd_3_163 wd_1_1 wd_3_164 (by decide +kernel) ⟨Nat.le_of_ble_eq_true rfl, Nat.le_of_ble_eq_true rfl⟩) (
  fm (z_if_ne (off := 9) (by decide +kernel) (by decide)) (
  fm (z_aload_n (j := 0) (by decide +kernel) rfl) (
  fm (z_iconst (n := 0) (by decide +kernel) (by decide)) (
  fm (z_inv (idx := 57) rfl (by decide +kernel) wd_1_184 wd_1_186 ws_0 wd_1_1 wd_1_187 (by decide +kernel) ⟨Nat.le_of_ble_eq_true rfl, Nat.le_of_ble_eq_true rfl⟩) (
  fm (z_iret rfl (by decide +kernel)) (
  fm (z_aload_n (j := 0) (by decide +kernel) rfl) (
  fm (z_getf (idx := 41) awX4 rfl (by decide) wd_1_152 rfl (by decide +kernel)) (
  fm (z_iload_n (j := 1) (by decide +kernel) rfl) (
  fm (z_aald (by decide +kernel)) (
  fm (z_astore (i := 6) (by decide +kernel) (by decide)) (
  fm (z_aload_n (j := 0) (by decide +kernel) rfl) (
  fm (z_getf (idx := 41) awX4 rfl (by decide) wd_1_152 rfl (by decide +kernel)) (
  fm (z_iload_n (j := 3) (by decide +kernel) rfl) (
  fm (z_aald (by decide +kernel)) (
  fm (z_astore (i := 7) (by decide +kernel) (by decide)) (
  fm (z_aload (i := 6) (by decide +kernel)) (
  fm (z_getf (idx := 235) awX1 rfl (by decide) wd_1_136 rfl (by decide +kernel)) (
  fm (z_if_eq (off := 11) (by decide +kernel) (by decide)) (
  fm (z_aload (i := 7) (by decide +kernel)) (
  fm (z_getf (idx := 235) awX1 rfl (by decide) wd_1_136 rfl (by decide +kernel)) (
  fm (z_if_ne (off := 9) (by decide +kernel) (by decide)) (
  fm (z_aload_n (j := 0) (by decide +kernel) rfl) (
  fm (z_iconst (n := 5) (by decide +kernel) (by decide)) (
  fm (z_inv (idx := 57) rfl (by decide +kernel) wd_1_184 wd_1_186 ws_0 wd_1_1 wd_1_187 (by decide +kernel) ⟨Nat.le_of_ble_eq_true rfl, Nat.le_of_ble_eq_true rfl⟩) (
  fm (z_iret rfl (by decide +kernel)) (
  fm (z_aload (i := 6) (by decide +kernel)) (
  fm (z_getf (idx := 235) awX1 rfl (by decide) wd_1_136 rfl (by decide +kernel)) (
  fm (z_aload (i := 7) (by decide +kernel)) (
  fm (z_getf (idx := 235) awX1 rfl (by decide) wd_1_136 rfl (by decide +kernel)) (
  fm (z_icmp_eq (off := 9) (by decide +kernel) (by decide)) (
  fm (z_aload_n (j := 0) (by decide +kernel) rfl) (
  fm (z_iconst (n := 2) (by decide +kernel) (by decide)) (
  fm (z_inv (idx := 57) rfl (by decide +kernel) wd_1_184 wd_1_186 ws_0 wd_1_1 wd_1_187 (by decide +kernel) ⟨Nat.le_of_ble_eq_true rfl, Nat.le_of_ble_eq_true rfl⟩) (
  fm (z_iret rfl (by decide +kernel)) (
  fm (z_aload (i := 6) (by decide +kernel)) (
  fm (z_iload_n (j := 2) (by decide +kernel) rfl) (
  fm (z_iload (i := 5) (by decide +kernel)) (
  fm (z_inv (idx := 238) rfl (by decide +kernel) wd_3_186 wd_3_187 wd_3_188 wd_1_6 wd_3_189 (by decide +kernel) ⟨Nat.le_of_ble_eq_true rfl, Nat.le_of_ble_eq_true rfl⟩) (
  fm (z_if_eq (off := 15) (by decide +kernel) (by decide)) (
  fm (z_aload (i := 7) (by decide +kernel)) (
  fm (z_iload (i := 4) (by decide +kernel)) (
  fm (z_iload (i := 5) (by decide +kernel)) (
  fm (z_inv (idx := 238) rfl (by decide +kernel) wd_3_186 wd_3_187 wd_3_188 wd_1_6 wd_3_189 (by decide +kernel) ⟨Nat.le_of_ble_eq_true rfl, Nat.le_of_ble_eq_true rfl⟩) (
  fm (z_if_ne (off := 9) (by decide +kernel) (by decide)) (
  fm (z_aload_n (j := 0) (by decide +kernel) rfl) (
  fm (z_iconst (n := 0) (by decide +kernel) (by decide)) (
  fm (z_inv (idx := 57) rfl (by decide +kernel) wd_1_184 wd_1_186 ws_0 wd_1_1 wd_1_187 (by decide +kernel) ⟨Nat.le_of_ble_eq_true rfl, Nat.le_of_ble_eq_true rfl⟩) (
  fm (z_iret rfl (by decide +kernel)) (
  fm (z_aload (i := 6) (by decide +kernel)) (
  fm (z_getf (idx := 241) awX1 rfl (by decide) wd_1_134 rfl (by decide +kernel)) (
  fm (z_iload_n (j := 2) (by decide +kernel) rfl) (
  fm (z_aload (i := 7) (by decide +kernel)) (
  fm (z_getf (idx := 241) awX1 rfl (by decide) wd_1_134 rfl (by decide +kernel)) (
  fm (z_iload (i := 4) (by decide +kernel)) (
  fm (z_iload (i := 5) (by decide +kernel)) (
  fm (z_copy (idx := 178) (by decide +kernel) wd_2_173 wd_2_70 wd_2_69 wd_1_9 (by decide)) (
  fm (z_iload (i := 5) (by decide +kernel)) (
  fm (z_iret rfl (by decide +kernel)) (fn)))))))))))))))))))))))))))))))))))))))))))))))))))))))))))))))
def kX4_count : Cd := [(0, s_iload 1 1), (1, s_sw [(0, 48), (1, 56), (2, 64), (3, 72), (4, 80), (5, 88), (6, 96), (7, 104)] 112), (48, s_aload 0 49), (49, s_getf 4 0 52), (52, s_getf 2 10 55), (55, s_iret), (56, s_aload 0 57), (57, s_getf 4 0 60), (60, s_getf 2 9 63), (63, s_iret), (64, s_aload 0 65), (65, s_getf 4 0 68), (68, s_inv mX2_allGoods 2 0 71), (71, s_iret), (72, s_aload 0 73), (73, s_getf 4 0 76), (76, s_inv mX2_allCoin 2 0 79), (79, s_iret), (80, s_aload 0 81), (81, s_getf 4 0 84), (84, s_inv mX2_allVisits 2 0 87), (87, s_iret), (88, s_aload 0 89), (89, s_getf 4 5 92), (92, s_getf 3 1 95), (95, s_iret), (96, s_aload 0 97), (97, s_getf 4 0 100), (100, s_getf 2 11 103), (103, s_iret), (104, s_aload 0 105), (105, s_getf 4 0 108), (108, s_inv mX2_spotsInUse 2 0 111), (111, s_iret), (112, s_aload 0 113), (113, s_pushi 0 114), (114, s_inv mX4_finding 4 1 117), (117, s_iret)]
set_option maxRecDepth 20000 in
theorem zX4_count : ∀ q ∈ kX4_count, Snd RX4 cX4_count 2 (some .int) (rmM mX4_count) q.1 q.2 :=
  fm (z_iload_n (j := 1) (by decide +kernel) rfl) (
  fm (z_tsw (dflt := 111) (lo := 0) (hi := 7) (offs := #[47, 55, 63, 71, 79, 87, 95, 103]) (len := 47) (by decide +kernel) (by decide) rfl (by decide) (by decide +kernel)) (
  fm (z_aload_n (j := 0) (by decide +kernel) rfl) (
  fm (z_getf (idx := 10) awX4 rfl (by decide) wd_1_146 rfl (by decide +kernel)) (
  fm (z_getf (idx := 261) awX2 rfl (by decide) wd_1_57 rfl (by decide +kernel)) (
  fm (z_iret rfl (by decide +kernel)) (
  fm (z_aload_n (j := 0) (by decide +kernel) rfl) (
  fm (z_getf (idx := 10) awX4 rfl (by decide) wd_1_146 rfl (by decide +kernel)) (
  fm (z_getf (idx := 77) awX2 rfl (by decide) wd_1_54 rfl (by decide +kernel)) (
  fm (z_iret rfl (by decide +kernel)) (
  fm (z_aload_n (j := 0) (by decide +kernel) rfl) (
  fm (z_getf (idx := 10) awX4 rfl (by decide) wd_1_146 rfl (by decide +kernel)) (
  fm (z_inv (idx := 264) rfl (by decide +kernel) wd_3_230 wd_3_231 wd_3_232 wd_1_2 wd_3_233 (by decide +kernel) ⟨Nat.le_of_ble_eq_true rfl, Nat.le_of_ble_eq_true rfl⟩) (
  fm (z_iret rfl (by decide +kernel)) (
  fm (z_aload_n (j := 0) (by decide +kernel) rfl) (
  fm (z_getf (idx := 10) awX4 rfl (by decide) wd_1_146 rfl (by decide +kernel)) (
  fm (z_inv (idx := 139) rfl (by decide +kernel) wd_2_85 wd_2_86 wd_2_87 wd_1_2 wd_2_88 (by decide +kernel) ⟨Nat.le_of_ble_eq_true rfl, Nat.le_of_ble_eq_true rfl⟩) (
  fm (z_iret rfl (by decide +kernel)) (
  fm (z_aload_n (j := 0) (by decide +kernel) rfl) (
  fm (z_getf (idx := 10) awX4 rfl (by decide) wd_1_146 rfl (by decide +kernel)) (
  fm (z_inv (idx := 267) rfl (by decide +kernel) wd_3_234 wd_3_235 wd_3_236 wd_1_2 wd_3_237 (by decide +kernel) ⟨Nat.le_of_ble_eq_true rfl, Nat.le_of_ble_eq_true rfl⟩) (
  fm (z_iret rfl (by decide +kernel)) (
  fm (z_aload_n (j := 0) (by decide +kernel) rfl) (
  fm (z_getf (idx := 35) awX4 rfl (by decide) wd_1_151 rfl (by decide +kernel)) (
  fm (z_getf (idx := 204) awX3 rfl (by decide) wd_1_108 rfl (by decide +kernel)) (
  fm (z_iret rfl (by decide +kernel)) (
  fm (z_aload_n (j := 0) (by decide +kernel) rfl) (
  fm (z_getf (idx := 10) awX4 rfl (by decide) wd_1_146 rfl (by decide +kernel)) (
  fm (z_getf (idx := 201) awX2 rfl (by decide) wd_1_59 rfl (by decide +kernel)) (
  fm (z_iret rfl (by decide +kernel)) (
  fm (z_aload_n (j := 0) (by decide +kernel) rfl) (
  fm (z_getf (idx := 10) awX4 rfl (by decide) wd_1_146 rfl (by decide +kernel)) (
  fm (z_inv (idx := 270) rfl (by decide +kernel) wd_3_238 wd_3_239 wd_4_0 wd_1_2 wd_4_1 (by decide +kernel) ⟨Nat.le_of_ble_eq_true rfl, Nat.le_of_ble_eq_true rfl⟩) (
  fm (z_iret rfl (by decide +kernel)) (
  fm (z_aload_n (j := 0) (by decide +kernel) rfl) (
  fm (z_iconst (n := 0) (by decide +kernel) (by decide)) (
  fm (z_inv (idx := 57) rfl (by decide +kernel) wd_1_184 wd_1_186 ws_0 wd_1_1 wd_1_187 (by decide +kernel) ⟨Nat.le_of_ble_eq_true rfl, Nat.le_of_ble_eq_true rfl⟩) (
  fm (z_iret rfl (by decide +kernel)) (fn))))))))))))))))))))))))))))))))))))))
def kX4_dawn : Cd := [(0, s_aload 0 1), (1, s_aload 0 2), (2, s_iload 1 3), (3, s_inv mX4_isStall 4 1 6), (6, s_if (fun x => x = 0) 20 9), (9, s_iload 2 10), (10, s_invS mX4_isPlace 1 13), (13, s_if (fun x => x = 0) 20 16), (16, s_pushi 1 17), (17, s_goto 21), (20, s_pushi 0 21), (21, s_iload 3 22), (22, s_pushi 0 23), (23, s_inv mX4_orderFinding 4 3 26), (26, s_istore 4 28), (28, s_iload 4 30), (30, s_if (fun x => x = 0) 36 33), (33, s_iload 4 35), (35, s_iret), (36, s_aload 0 37), (37, s_getf 4 3 40), (40, s_aload 0 41), (41, s_getf 4 0 44), (44, s_getf 2 9 47), (47, s_inv mX0_begin 0 1 50), (50, s_istore 5 52), (52, s_pushi 0 53), (53, s_istore 6 55), (55, s_iload 6 57), (57, s_iload 5 59), (59, s_icmp (fun x y => y ≤ x) 111 62), (62, s_aload 0 63), (63, s_inv mX4_tryOrder 4 0 66), (66, s_aload 0 67), (67, s_getf 4 1 70), (70, s_iload 3 71), (71, s_inv mX2_passHours 2 1 74), (74, s_pop 75), (75, s_aload 0 76), (76, s_getf 4 1 79), (79, s_getf 2 3 82), (82, s_iload 1 83), (83, s_iald 84), (84, s_iload 2 85), (85, s_icmp (fun x y => x = y) 88 98), (88, s_aload 0 89), (89, s_getf 4 3 92), (92, s_getf 0 0 95), (95, s_iload 1 96), (96, s_iald 97), (97, s_iret), (98, s_aload 0 99), (99, s_getf 4 3 102), (102, s_inv mX0_advance 0 0 105), (105, s_iinc 6 1 108), (108, s_goto 55), (111, s_aload 0 112), (112, s_pushi 3 113), (113, s_inv mX4_finding 4 1 116), (116, s_iret)]
set_option maxRecDepth 20000 in
theorem zX4_dawn : ∀ q ∈ kX4_dawn, Snd RX4 cX4_dawn 7 (some .int) (rmM mX4_dawn) q.1 q.2 :=
  fm (z_aload_n (j := 0) (by decide +kernel) rfl) (
  fm (z_aload_n (j := 0) (by decide +kernel) rfl) (
  fm (z_iload_n (j := 1) (by decide +kernel) rfl) (
  fm (z_inv (idx := 84) rfl (by decide +kernel) wd_1_216 wd_1_218 ws_1 wd_1_1 wd_1_219 (by decide +kernel) ⟨Nat.le_of_ble_eq_true rfl, Nat.le_of_ble_eq_true rfl⟩) (
  fm (z_if_eq (off := 14) (by decide +kernel) (by decide)) (
  fm (z_iload_n (j := 2) (by decide +kernel) rfl) (
  fm (z_invS (idx := 53) (by decide +kernel) wd_1_181 wd_1_182 wd_1_1 wd_1_183 (by decide +kernel) ⟨Nat.le_of_ble_eq_true rfl, Nat.le_of_ble_eq_true rfl⟩) (
  fm (z_if_eq (off := 7) (by decide +kernel) (by decide)) (
  fm (z_iconst (n := 1) (by decide +kernel) (by decide)) (
  fm (z_goto (off := 4) (by decide +kernel) (by decide)) (
  fm (z_iconst (n := 0) (by decide +kernel) (by decide)) (
  fm (z_iload_n (j := 3) (by decide +kernel) rfl) (
  fm (z_iconst (n := 0) (by decide +kernel) (by decide)) (
  fm (z_inv (idx := 155) rfl (by decide +kernel) wd_2_120 wd_2_122 ws_5 wd_1_1 wd_2_123 (by decide +kernel) ⟨Nat.le_of_ble_eq_true rfl, Nat.le_of_ble_eq_true rfl⟩) (
  fm (z_istore (i := 4) (by decide +kernel) (by decide)) (
  fm (z_iload (i := 4) (by decide +kernel)) (
  fm (z_if_eq (off := 6) (by decide +kernel) (by decide)) (
  fm (z_iload (i := 4) (by decide +kernel)) (
  fm (z_iret rfl (by decide +kernel)) (
  fm (z_aload_n (j := 0) (by decide +kernel) rfl) (
  fm (z_getf (idx := 25) awX4 rfl (by decide) wd_1_149 rfl (by decide +kernel)) (
  fm (z_aload_n (j := 0) (by decide +kernel) rfl) (
  fm (z_getf (idx := 10) awX4 rfl (by decide) wd_1_146 rfl (by decide +kernel)) (
  fm (z_getf (idx := 77) awX2 rfl (by decide) wd_1_54 rfl (by decide +kernel)) (
  fm (z_inv (idx := 165) rfl (by decide +kernel) wd_2_128 wd_2_129 wd_2_130 wd_1_4 wd_2_131 (by decide +kernel) ⟨Nat.le_of_ble_eq_true rfl, Nat.le_of_ble_eq_true rfl⟩) (
  fm (z_istore (i := 5) (by decide +kernel) (by decide)) (
  fm (z_iconst (n := 0) (by decide +kernel) (by decide)) (
  fm (z_istore (i := 6) (by decide +kernel) (by decide)) (
  fm (z_iload (i := 6) (by decide +kernel)) (
  fm (z_iload (i := 5) (by decide +kernel)) (
  fm (z_icmp_ge (off := 52) (by decide +kernel) (by decide)) (
  fm (z_aload_n (j := 0) (by decide +kernel) rfl) (
  fm (z_inv (idx := 168) rfl (by decide +kernel) wd_2_132 wd_2_134 ws_7 wd_1_1 wd_2_135 (by decide +kernel) ⟨Nat.le_of_ble_eq_true rfl, Nat.le_of_ble_eq_true rfl⟩) (
  fm (z_aload_n (j := 0) (by decide +kernel) rfl) (
  fm (z_getf (idx := 16) awX4 rfl (by decide) wd_1_147 rfl (by decide +kernel)) (
  fm (z_iload_n (j := 3) (by decide +kernel) rfl) (
  fm (z_inv (idx := 119) rfl (by decide +kernel) wd_2_26 wd_2_27 wd_2_28 wd_1_2 wd_2_29 (by decide +kernel) ⟨Nat.le_of_ble_eq_true rfl, Nat.le_of_ble_eq_true rfl⟩) (
  fm (z_pop (by decide +kernel)) (
  fm (z_aload_n (j := 0) (by decide +kernel) rfl) (
  fm (z_getf (idx := 16) awX4 rfl (by decide) wd_1_147 rfl (by decide +kernel)) (
  fm (z_getf (idx := 90) awX2 rfl (by decide) wd_1_40 rfl (by decide +kernel)) (
  fm (z_iload_n (j := 1) (by decide +kernel) rfl) (
  fm (z_iald (by decide +kernel)) (
  fm (z_iload_n (j := 2) (by decide +kernel) rfl) (
  fm (z_icmp_ne (off := 13) (by decide +kernel) (by decide)) (
  fm (z_aload_n (j := 0) (by decide +kernel) rfl) (
  fm (z_getf (idx := 25) awX4 rfl (by decide) wd_1_149 rfl (by decide +kernel)) (
  fm (z_getf (idx := 162) awX0 rfl (by decide) wd_1_93 rfl (by decide +kernel)) (
  fm (z_iload_n (j := 1) (by decide +kernel) rfl) (
  fm (z_iald (by decide +kernel)) (
  fm (z_iret rfl (by decide +kernel)) (
  fm (z_aload_n (j := 0) (by decide +kernel) rfl) (
  fm (z_getf (idx := 25) awX4 rfl (by decide) wd_1_149 rfl (by decide +kernel)) (
  fm (z_inv (idx := 171) rfl (by decide +kernel) wd_2_141 wd_2_142 wd_2_143 wd_1_4 wd_2_144 (by decide +kernel) ⟨Nat.le_of_ble_eq_true rfl, Nat.le_of_ble_eq_true rfl⟩) (
  fm (z_iinc (n := 1) (by decide +kernel) (by decide) (by decide)) (
  fm (z_goto (off := (-53)) (by decide +kernel) (by decide)) (
  fm (z_aload_n (j := 0) (by decide +kernel) rfl) (
  fm (z_iconst (n := 3) (by decide +kernel) (by decide)) (
  fm (z_inv (idx := 57) rfl (by decide +kernel) wd_1_184 wd_1_186 ws_0 wd_1_1 wd_1_187 (by decide +kernel) ⟨Nat.le_of_ble_eq_true rfl, Nat.le_of_ble_eq_true rfl⟩) (
  fm (z_iret rfl (by decide +kernel)) (fn))))))))))))))))))))))))))))))))))))))))))))))))))))))))))))
def kX4_deal : Cd := [(0, s_aload 0 1), (1, s_pushi 1 2), (2, s_iload 1 3), (3, s_pushi 1 4), (4, s_pushi 48 6), (6, s_inv mX4_aheadFinding 4 4 9), (9, s_istore 2 10), (10, s_iload 2 11), (11, s_if (fun x => x = 0) 16 14), (14, s_iload 2 15), (15, s_iret), (16, s_aload 0 17), (17, s_getf 4 1 20), (20, s_aload 0 21), (21, s_getf 4 0 24), (24, s_inv mX2_become 2 1 27), (27, s_aload 0 28), (28, s_getf 4 1 31), (31, s_iload 1 32), (32, s_inv mX2_passHours 2 1 35), (35, s_pop 36), (36, s_aload 0 37), (37, s_getf 4 1 40), (40, s_getf 2 5 43), (43, s_pushi 0 44), (44, s_aload 0 45), (45, s_getf 4 7 48), (48, s_pushi 0 49), (49, s_pushi 8 51), (51, s_copy 54), (54, s_pushi 0 55), (55, s_istore 3 56), (56, s_iload 3 57), (57, s_aload 0 58), (58, s_getf 4 0 61), (61, s_getf 2 9 64), (64, s_icmp (fun x y => y ≤ x) 150 67), (67, s_iload 3 68), (68, s_pushi 1 69), (69, s_bin (fun x y => x + y) 70), (70, s_istore 4 72), (72, s_iload 4 74), (74, s_aload 0 75), (75, s_getf 4 0 78), (78, s_getf 2 9 81), (81, s_icmp (fun x y => y ≤ x) 144 84), (84, s_aload 0 85), (85, s_iload 3 86), (86, s_iload 4 88), (88, s_iload 1 89), (89, s_inv mX4_swapAhead 4 3 92), (92, s_aload 0 93), (93, s_getf 4 1 96), (96, s_getf 2 5 99), (99, s_iload 3 100), (100, s_iald 101), (101, s_aload 0 102), (102, s_getf 4 7 105), (105, s_iload 3 106), (106, s_iald 107), (107, s_icmp (fun x y => x ≤ y) 138 110), (110, s_aload 0 111), (111, s_getf 4 1 114), (114, s_getf 2 5 117), (117, s_iload 4 119), (119, s_iald 120), (120, s_aload 0 121), (121, s_getf 4 7 124), (124, s_iload 4 126), (126, s_iald 127), (127, s_icmp (fun x y => x ≤ y) 138 130), (130, s_pushi 10 132), (132, s_iload 3 133), (133, s_bin (fun x y => x * y) 134), (134, s_iload 4 136), (136, s_bin (fun x y => x + y) 137), (137, s_iret), (138, s_iinc 4 1 141), (141, s_goto 72), (144, s_iinc 3 1 147), (147, s_goto 56), (150, s_aload 0 151), (151, s_pushi 3 152), (152, s_inv mX4_finding 4 1 155), (155, s_iret)]
set_option maxRecDepth 20000 in
theorem zX4_deal : ∀ q ∈ kX4_deal, Snd RX4 cX4_deal 5 (some .int) (rmM mX4_deal) q.1 q.2 :=
  fm (z_aload_n (j := 0) (by decide +kernel) rfl) (
  fm (z_iconst (n := 1) (by decide +kernel) (by decide)) (
  fm (z_iload_n (j := 1) (by decide +kernel) rfl) (
  fm (z_iconst (n := 1) (by decide +kernel) (by decide)) (
  fm (z_bipush (n := 48) (by decide +kernel) (by decide)) (
  fm (z_inv (idx := 115) rfl (by decide +kernel) wd_2_22 wd_2_24 ws_3 wd_1_1 wd_2_25 (by decide +kernel) ⟨Nat.le_of_ble_eq_true rfl, Nat.le_of_ble_eq_true rfl⟩) (
  fm (z_istore_n (j := 2) (by decide +kernel) rfl (by decide)) (
  fm (z_iload_n (j := 2) (by decide +kernel) rfl) (
  fm (z_if_eq (off := 5) (by decide +kernel) (by decide)) (
  fm (z_iload_n (j := 2) (by decide +kernel) rfl) (
  fm (z_iret rfl (by decide +kernel)) (
  fm (z_aload_n (j := 0) (by decide +kernel) rfl) (
  fm (z_getf (idx := 16) awX4 rfl (by decide) wd_1_147 rfl (by decide +kernel)) (
  fm (z_aload_n (j := 0) (by decide +kernel) rfl) (
  fm (z_getf (idx := 10) awX4 rfl (by decide) wd_1_146 rfl (by decide +kernel)) (
  fm (z_inv (idx := 122) rfl (by decide +kernel) wd_2_64 wd_2_65 wd_2_66 wd_1_2 wd_2_67 (by decide +kernel) ⟨Nat.le_of_ble_eq_true rfl, Nat.le_of_ble_eq_true rfl⟩) (
  fm (z_aload_n (j := 0) (by decide +kernel) rfl) (
  fm (z_getf (idx := 16) awX4 rfl (by decide) wd_1_147 rfl (by decide +kernel)) (
  fm (z_iload_n (j := 1) (by decide +kernel) rfl) (
  fm (z_inv (idx := 119) rfl (by decide +kernel) wd_2_26 wd_2_27 wd_2_28 wd_1_2 wd_2_29 (by decide +kernel) ⟨Nat.le_of_ble_eq_true rfl, Nat.le_of_ble_eq_true rfl⟩) (
  fm (z_pop (by decide +kernel)) (
  fm (z_aload_n (j := 0) (by decide +kernel) rfl) (
  fm (z_getf (idx := 16) awX4 rfl (by decide) wd_1_147 rfl (by decide +kernel)) (
  fm (z_getf (idx := 96) awX2 rfl (by decide) wd_1_45 rfl (by decide +kernel)) (
  fm (z_iconst (n := 0) (by decide +kernel) (by decide)) (
  fm (z_aload_n (j := 0) (by decide +kernel) rfl) (
  fm (z_getf (idx := 45) awX4 rfl (by decide) wd_1_153 rfl (by decide +kernel)) (
  fm (z_iconst (n := 0) (by decide +kernel) (by decide)) (
  fm (z_bipush (n := 8) (by decide +kernel) (by decide)) (
  fm (z_copy (idx := 178) (by decide +kernel) wd_2_173 wd_2_70 wd_2_69 wd_1_9 (by decide)) (
  fm (z_iconst (n := 0) (by decide +kernel) (by decide)) (
  fm (z_istore_n (j := 3) (by decide +kernel) rfl (by decide)) (
  fm (z_iload_n (j := 3) (by decide +kernel) rfl) (
  fm (z_aload_n (j := 0) (by decide +kernel) rfl) (
  fm (z_getf (idx := 10) awX4 rfl (by decide) wd_1_146 rfl (by decide +kernel)) (
  fm (z_getf (idx := 77) awX2 rfl (by decide) wd_1_54 rfl (by decide +kernel)) (
  fm (z_icmp_ge (off := 86) (by decide +kernel) (by decide)) (
  fm (z_iload_n (j := 3) (by decide +kernel) rfl) (
  fm (z_iconst (n := 1) (by decide +kernel) (by decide)) (
  fm (z_iadd (by decide +kernel)) (
  fm (z_istore (i := 4) (by decide +kernel) (by decide)) (
  fm (z_iload (i := 4) (by decide +kernel)) (
  fm (z_aload_n (j := 0) (by decide +kernel) rfl) (
  fm (z_getf (idx := 10) awX4 rfl (by decide) wd_1_146 rfl (by decide +kernel)) (
  fm (z_getf (idx := 77) awX2 rfl (by decide) wd_1_54 rfl (by decide +kernel)) (
  fm (z_icmp_ge (off := 63) (by decide +kernel) (by decide)) (
  fm (z_aload_n (j := 0) (by decide +kernel) rfl) (
  fm (z_iload_n (j := 3) (by decide +kernel) rfl) (
  fm (z_iload (i := 4) (by decide +kernel)) (
  fm (z_iload_n (j := 1) (by decide +kernel) rfl) (
  fm (z_inv (idx := 174) rfl (by decide +kernel) wd_2_165 wd_2_167 ws_9 wd_1_1 wd_2_168 (by decide +kernel) ⟨Nat.le_of_ble_eq_true rfl, Nat.le_of_ble_eq_true rfl⟩) (
  fm (z_aload_n (j := 0) (by decide +kernel) rfl) (
  fm (z_getf (idx := 16) awX4 rfl (by decide) wd_1_147 rfl (by decide +kernel)) (
  fm (z_getf (idx := 96) awX2 rfl (by decide) wd_1_45 rfl (by decide +kernel)) (
  fm (z_iload_n (j := 3) (by decide +kernel) rfl) (
  fm (z_iald (by decide +kernel)) (
  fm (z_aload_n (j := 0) (by decide +kernel) rfl) (
  fm (z_getf (idx := 45) awX4 rfl (by decide) wd_1_153 rfl (by decide +kernel)) (
  fm (z_iload_n (j := 3) (by decide +kernel) rfl) (
  fm (z_iald (by decide +kernel)) (
  fm (z_icmp_le (off := 31) (by decide +kernel) (by decide)) (
  fm (z_aload_n (j := 0) (by decide +kernel) rfl) (
  fm (z_getf (idx := 16) awX4 rfl (by decide) wd_1_147 rfl (by decide +kernel)) (
  fm (z_getf (idx := 96) awX2 rfl (by decide) wd_1_45 rfl (by decide +kernel)) (
  fm (z_iload (i := 4) (by decide +kernel)) (
  fm (z_iald (by decide +kernel)) (
  fm (z_aload_n (j := 0) (by decide +kernel) rfl) (
  fm (z_getf (idx := 45) awX4 rfl (by decide) wd_1_153 rfl (by decide +kernel)) (
  fm (z_iload (i := 4) (by decide +kernel)) (
  fm (z_iald (by decide +kernel)) (
  fm (z_icmp_le (off := 11) (by decide +kernel) (by decide)) (
  fm (z_bipush (n := 10) (by decide +kernel) (by decide)) (
  fm (z_iload_n (j := 3) (by decide +kernel) rfl) (
  fm (z_imul (by decide +kernel)) (
  fm (z_iload (i := 4) (by decide +kernel)) (
  fm (z_iadd (by decide +kernel)) (
  fm (z_iret rfl (by decide +kernel)) (
  fm (z_iinc (n := 1) (by decide +kernel) (by decide) (by decide)) (
  fm (z_goto (off := (-69)) (by decide +kernel) (by decide)) (
  fm (z_iinc (n := 1) (by decide +kernel) (by decide) (by decide)) (
  fm (z_goto (off := (-91)) (by decide +kernel) (by decide)) (
  fm (z_aload_n (j := 0) (by decide +kernel) rfl) (
  fm (z_iconst (n := 3) (by decide +kernel) (by decide)) (
  fm (z_inv (idx := 57) rfl (by decide +kernel) wd_1_184 wd_1_186 ws_0 wd_1_1 wd_1_187 (by decide +kernel) ⟨Nat.le_of_ble_eq_true rfl, Nat.le_of_ble_eq_true rfl⟩) (
  fm (z_iret rfl (by decide +kernel)) (fn)))))))))))))))))))))))))))))))))))))))))))))))))))))))))))))))))))))))))))))))))))))
def kX4_empty : Cd := [(0, s_aload 0 1), (1, s_aload 0 2), (2, s_iload 1 3), (3, s_inv mX4_isStall 4 1 6), (6, s_pushi 96 8), (8, s_pushi 0 9), (9, s_pushi 96 11), (11, s_inv mX4_aheadFinding 4 4 14), (14, s_istore 2 15), (15, s_iload 2 16), (16, s_if (fun x => x = 0) 21 19), (19, s_iload 2 20), (20, s_iret), (21, s_aload 0 22), (22, s_getf 4 1 25), (25, s_aload 0 26), (26, s_getf 4 0 29), (29, s_inv mX2_become 2 1 32), (32, s_pushi 0 33), (33, s_istore 3 34), (34, s_iload 3 35), (35, s_pushi 96 37), (37, s_icmp (fun x y => y < x) 68 40), (40, s_aload 0 41), (41, s_getf 4 1 44), (44, s_getf 2 4 47), (47, s_iload 1 48), (48, s_iald 49), (49, s_if (fun x => x = 0) 52 54), (52, s_iload 3 53), (53, s_iret), (54, s_aload 0 55), (55, s_getf 4 1 58), (58, s_inv mX2_passHour 2 0 61), (61, s_pop 62), (62, s_iinc 3 1 65), (65, s_goto 34), (68, s_aload 0 69), (69, s_pushi 3 70), (70, s_inv mX4_finding 4 1 73), (73, s_iret)]
set_option maxRecDepth 20000 in
theorem zX4_empty : ∀ q ∈ kX4_empty, Snd RX4 cX4_empty 4 (some .int) (rmM mX4_empty) q.1 q.2 :=
  fm (z_aload_n (j := 0) (by decide +kernel) rfl) (
  fm (z_aload_n (j := 0) (by decide +kernel) rfl) (
  fm (z_iload_n (j := 1) (by decide +kernel) rfl) (
  fm (z_inv (idx := 84) rfl (by decide +kernel) wd_1_216 wd_1_218 ws_1 wd_1_1 wd_1_219 (by decide +kernel) ⟨Nat.le_of_ble_eq_true rfl, Nat.le_of_ble_eq_true rfl⟩) (
  fm (z_bipush (n := 96) (by decide +kernel) (by decide)) (
  fm (z_iconst (n := 0) (by decide +kernel) (by decide)) (
  fm (z_bipush (n := 96) (by decide +kernel) (by decide)) (
  fm (z_inv (idx := 115) rfl (by decide +kernel) wd_2_22 wd_2_24 ws_3 wd_1_1 wd_2_25 (by decide +kernel) ⟨Nat.le_of_ble_eq_true rfl, Nat.le_of_ble_eq_true rfl⟩) (
  fm (z_istore_n (j := 2) (by decide +kernel) rfl (by decide)) (
  fm (z_iload_n (j := 2) (by decide +kernel) rfl) (
  fm (z_if_eq (off := 5) (by decide +kernel) (by decide)) (
  fm (z_iload_n (j := 2) (by decide +kernel) rfl) (
  fm (z_iret rfl (by decide +kernel)) (
  fm (z_aload_n (j := 0) (by decide +kernel) rfl) (
  fm (z_getf (idx := 16) awX4 rfl (by decide) wd_1_147 rfl (by decide +kernel)) (
  fm (z_aload_n (j := 0) (by decide +kernel) rfl) (
  fm (z_getf (idx := 10) awX4 rfl (by decide) wd_1_146 rfl (by decide +kernel)) (
  fm (z_inv (idx := 122) rfl (by decide +kernel) wd_2_64 wd_2_65 wd_2_66 wd_1_2 wd_2_67 (by decide +kernel) ⟨Nat.le_of_ble_eq_true rfl, Nat.le_of_ble_eq_true rfl⟩) (
  fm (z_iconst (n := 0) (by decide +kernel) (by decide)) (
  fm (z_istore_n (j := 3) (by decide +kernel) rfl (by decide)) (
  fm (z_iload_n (j := 3) (by decide +kernel) rfl) (
  fm (z_bipush (n := 96) (by decide +kernel) (by decide)) (
  fm (z_icmp_gt (off := 31) (by decide +kernel) (by decide)) (
  fm (z_aload_n (j := 0) (by decide +kernel) rfl) (
  fm (z_getf (idx := 16) awX4 rfl (by decide) wd_1_147 rfl (by decide +kernel)) (
  fm (z_getf (idx := 93) awX2 rfl (by decide) wd_1_42 rfl (by decide +kernel)) (
  fm (z_iload_n (j := 1) (by decide +kernel) rfl) (
  fm (z_iald (by decide +kernel)) (
  fm (z_if_ne (off := 5) (by decide +kernel) (by decide)) (
  fm (z_iload_n (j := 3) (by decide +kernel) rfl) (
  fm (z_iret rfl (by decide +kernel)) (
  fm (z_aload_n (j := 0) (by decide +kernel) rfl) (
  fm (z_getf (idx := 16) awX4 rfl (by decide) wd_1_147 rfl (by decide +kernel)) (
  fm (z_inv (idx := 142) rfl (by decide +kernel) wd_2_93 wd_2_31 wd_2_32 wd_1_2 wd_2_33 (by decide +kernel) ⟨Nat.le_of_ble_eq_true rfl, Nat.le_of_ble_eq_true rfl⟩) (
  fm (z_pop (by decide +kernel)) (
  fm (z_iinc (n := 1) (by decide +kernel) (by decide) (by decide)) (
  fm (z_goto (off := (-31)) (by decide +kernel) (by decide)) (
  fm (z_aload_n (j := 0) (by decide +kernel) rfl) (
  fm (z_iconst (n := 3) (by decide +kernel) (by decide)) (
  fm (z_inv (idx := 57) rfl (by decide +kernel) wd_1_184 wd_1_186 ws_0 wd_1_1 wd_1_187 (by decide +kernel) ⟨Nat.le_of_ble_eq_true rfl, Nat.le_of_ble_eq_true rfl⟩) (
  fm (z_iret rfl (by decide +kernel)) (fn)))))))))))))))))))))))))))))))))))))))))
def kX4_ever : Cd := [(0, s_aload 0 1), (1, s_aload 0 2), (2, s_iload 1 3), (3, s_inv mX4_isStall 4 1 6), (6, s_iload 2 7), (7, s_pushi 0 8), (8, s_pushi 96 10), (10, s_inv mX4_aheadFinding 4 4 13), (13, s_istore 3 14), (14, s_iload 3 15), (15, s_if (fun x => x = 0) 20 18), (18, s_iload 3 19), (19, s_iret), (20, s_aload 0 21), (21, s_getf 4 1 24), (24, s_aload 0 25), (25, s_getf 4 0 28), (28, s_inv mX2_become 2 1 31), (31, s_aload 0 32), (32, s_getf 4 1 35), (35, s_iload 1 36), (36, s_inv mX2_besideSet 2 1 39), (39, s_istore 4 41), (41, s_pushi 1 42), (42, s_istore 5 44), (44, s_iload 5 46), (46, s_iload 2 47), (47, s_icmp (fun x y => y < x) 77 50), (50, s_aload 0 51), (51, s_getf 4 1 54), (54, s_inv mX2_passHour 2 0 57), (57, s_pop 58), (58, s_iload 4 60), (60, s_aload 0 61), (61, s_getf 4 1 64), (64, s_iload 1 65), (65, s_inv mX2_besideSet 2 1 68), (68, s_bin (fun x y => x ||| y) 69), (69, s_istore 4 71), (71, s_iinc 5 1 74), (74, s_goto 44), (77, s_iload 4 79), (79, s_iret)]
set_option maxRecDepth 20000 in
theorem zX4_ever : ∀ q ∈ kX4_ever, Snd RX4 cX4_ever 6 (some .int) (rmM mX4_ever) q.1 q.2 :=
  fm (z_aload_n (j := 0) (by decide +kernel) rfl) (
  fm (z_aload_n (j := 0) (by decide +kernel) rfl) (
  fm (z_iload_n (j := 1) (by decide +kernel) rfl) (
  fm (z_inv (idx := 84) rfl (by decide +kernel) wd_1_216 wd_1_218 ws_1 wd_1_1 wd_1_219 (by decide +kernel) ⟨Nat.le_of_ble_eq_true rfl, Nat.le_of_ble_eq_true rfl⟩) (
  fm (z_iload_n (j := 2) (by decide +kernel) rfl) (
  fm (z_iconst (n := 0) (by decide +kernel) (by decide)) (
  fm (z_bipush (n := 96) (by decide +kernel) (by decide)) (
  fm (z_inv (idx := 115) rfl (by decide +kernel) wd_2_22 wd_2_24 ws_3 wd_1_1 wd_2_25 (by decide +kernel) ⟨Nat.le_of_ble_eq_true rfl, Nat.le_of_ble_eq_true rfl⟩) (
  fm (z_istore_n (j := 3) (by decide +kernel) rfl (by decide)) (
  fm (z_iload_n (j := 3) (by decide +kernel) rfl) (
  fm (z_if_eq (off := 5) (by decide +kernel) (by decide)) (
  fm (z_iload_n (j := 3) (by decide +kernel) rfl) (
  fm (z_iret rfl (by decide +kernel)) (
  fm (z_aload_n (j := 0) (by decide +kernel) rfl) (
  fm (z_getf (idx := 16) awX4 rfl (by decide) wd_1_147 rfl (by decide +kernel)) (
  fm (z_aload_n (j := 0) (by decide +kernel) rfl) (
  fm (z_getf (idx := 10) awX4 rfl (by decide) wd_1_146 rfl (by decide +kernel)) (
  fm (z_inv (idx := 122) rfl (by decide +kernel) wd_2_64 wd_2_65 wd_2_66 wd_1_2 wd_2_67 (by decide +kernel) ⟨Nat.le_of_ble_eq_true rfl, Nat.le_of_ble_eq_true rfl⟩) (
  fm (z_aload_n (j := 0) (by decide +kernel) rfl) (
  fm (z_getf (idx := 16) awX4 rfl (by decide) wd_1_147 rfl (by decide +kernel)) (
  fm (z_iload_n (j := 1) (by decide +kernel) rfl) (
  fm (z_inv (idx := 184) rfl (by decide +kernel) wd_2_178 wd_2_179 wd_2_180 wd_1_2 wd_2_181 (by decide +kernel) ⟨Nat.le_of_ble_eq_true rfl, Nat.le_of_ble_eq_true rfl⟩) (
  fm (z_istore (i := 4) (by decide +kernel) (by decide)) (
  fm (z_iconst (n := 1) (by decide +kernel) (by decide)) (
  fm (z_istore (i := 5) (by decide +kernel) (by decide)) (
  fm (z_iload (i := 5) (by decide +kernel)) (
  fm (z_iload_n (j := 2) (by decide +kernel) rfl) (
  fm (z_icmp_gt (off := 30) (by decide +kernel) (by decide)) (
  fm (z_aload_n (j := 0) (by decide +kernel) rfl) (
  fm (z_getf (idx := 16) awX4 rfl (by decide) wd_1_147 rfl (by decide +kernel)) (
  fm (z_inv (idx := 142) rfl (by decide +kernel) wd_2_93 wd_2_31 wd_2_32 wd_1_2 wd_2_33 (by decide +kernel) ⟨Nat.le_of_ble_eq_true rfl, Nat.le_of_ble_eq_true rfl⟩) (
  fm (z_pop (by decide +kernel)) (
  fm (z_iload (i := 4) (by decide +kernel)) (
  fm (z_aload_n (j := 0) (by decide +kernel) rfl) (
  fm (z_getf (idx := 16) awX4 rfl (by decide) wd_1_147 rfl (by decide +kernel)) (
  fm (z_iload_n (j := 1) (by decide +kernel) rfl) (
  fm (z_inv (idx := 184) rfl (by decide +kernel) wd_2_178 wd_2_179 wd_2_180 wd_1_2 wd_2_181 (by decide +kernel) ⟨Nat.le_of_ble_eq_true rfl, Nat.le_of_ble_eq_true rfl⟩) (
  fm (z_ior (by decide +kernel)) (
  fm (z_istore (i := 4) (by decide +kernel) (by decide)) (
  fm (z_iinc (n := 1) (by decide +kernel) (by decide) (by decide)) (
  fm (z_goto (off := (-30)) (by decide +kernel) (by decide)) (
  fm (z_iload (i := 4) (by decide +kernel)) (
  fm (z_iret rfl (by decide +kernel)) (fn)))))))))))))))))))))))))))))))))))))))))))
def kX4_feed : Cd := [(0, s_iload 2 1), (1, s_pushi 1 2), (2, s_icmp (fun x y => x < y) 10 5), (5, s_iload 2 6), (6, s_pushi 4 7), (7, s_icmp (fun x y => x ≤ y) 16 10), (10, s_aload 0 11), (11, s_pushi 0 12), (12, s_inv mX4_finding 4 1 15), (15, s_iret), (16, s_aload 0 17), (17, s_getf 4 5 20), (20, s_getf 3 1 23), (23, s_iload 2 24), (24, s_bin (fun x y => x + y) 25), (25, s_pushi 120 27), (27, s_icmp (fun x y => x ≤ y) 36 30), (30, s_aload 0 31), (31, s_pushi 1 32), (32, s_inv mX4_finding 4 1 35), (35, s_iret), (36, s_iload 2 37), (37, s_pushi 1 38), (38, s_bin (fun x y => x - y) 39), (39, s_istore 3 40), (40, s_iload 3 41), (41, s_if (fun x => x < 0) 67 44), (44, s_aload 0 45), (45, s_getf 4 5 48), (48, s_iload 1 49), (49, s_pushi 8 51), (51, s_iload 3 52), (52, s_bin (fun x y => x * y) 53), (53, s_bin (fun x y => (x.toUInt32 >>> (y.toUInt32 &&& Int32.toUInt32 31)).toInt32) 54), (54, s_pushi 255 57), (57, s_bin (fun x y => x &&& y) 58), (58, s_inv mX3_put 3 1 61), (61, s_iinc 3 (-1) 64), (64, s_goto 40), (67, s_aload 0 68), (68, s_getf 4 5 71), (71, s_getf 3 1 74), (74, s_iret)]
set_option maxRecDepth 20000 in
theorem zX4_feed : ∀ q ∈ kX4_feed, Snd RX4 cX4_feed 4 (some .int) (rmM mX4_feed) q.1 q.2 :=
  fm (z_iload_n (j := 2) (by decide +kernel) rfl) (
  fm (z_iconst (n := 1) (by decide +kernel) (by decide)) (
  fm (z_icmp_lt (off := 8) (by decide +kernel) (by decide)) (
  fm (z_iload_n (j := 2) (by decide +kernel) rfl) (
  fm (z_iconst (n := 4) (by decide +kernel) (by decide)) (
  fm (z_icmp_le (off := 9) (by decide +kernel) (by decide)) (
  fm (z_aload_n (j := 0) (by decide +kernel) rfl) (
  fm (z_iconst (n := 0) (by decide +kernel) (by decide)) (
  fm (z_inv (idx := 57) rfl (by decide +kernel) wd_1_184 wd_1_186 ws_0 wd_1_1 wd_1_187 (by decide +kernel) ⟨Nat.le_of_ble_eq_true rfl, Nat.le_of_ble_eq_true rfl⟩) (
  fm (z_iret rfl (by decide +kernel)) (
  fm (z_aload_n (j := 0) (by decide +kernel) rfl) (
  fm (z_getf (idx := 35) awX4 rfl (by decide) wd_1_151 rfl (by decide +kernel)) (
  fm (z_getf (idx := 204) awX3 rfl (by decide) wd_1_108 rfl (by decide +kernel)) (
  fm (z_iload_n (j := 2) (by decide +kernel) rfl) (
  fm (z_iadd (by decide +kernel)) (
  fm (z_bipush (n := 120) (by decide +kernel) (by decide)) (
  fm (z_icmp_le (off := 9) (by decide +kernel) (by decide)) (
  fm (z_aload_n (j := 0) (by decide +kernel) rfl) (
  fm (z_iconst (n := 1) (by decide +kernel) (by decide)) (
  fm (z_inv (idx := 57) rfl (by decide +kernel) wd_1_184 wd_1_186 ws_0 wd_1_1 wd_1_187 (by decide +kernel) ⟨Nat.le_of_ble_eq_true rfl, Nat.le_of_ble_eq_true rfl⟩) (
  fm (z_iret rfl (by decide +kernel)) (
  fm (z_iload_n (j := 2) (by decide +kernel) rfl) (
  fm (z_iconst (n := 1) (by decide +kernel) (by decide)) (
  fm (z_isub (by decide +kernel)) (
  fm (z_istore_n (j := 3) (by decide +kernel) rfl (by decide)) (
  fm (z_iload_n (j := 3) (by decide +kernel) rfl) (
  fm (z_if_lt (off := 26) (by decide +kernel) (by decide)) (
  fm (z_aload_n (j := 0) (by decide +kernel) rfl) (
  fm (z_getf (idx := 35) awX4 rfl (by decide) wd_1_151 rfl (by decide +kernel)) (
  fm (z_iload_n (j := 1) (by decide +kernel) rfl) (
  fm (z_bipush (n := 8) (by decide +kernel) (by decide)) (
  fm (z_iload_n (j := 3) (by decide +kernel) rfl) (
  fm (z_imul (by decide +kernel)) (
  fm (z_iushr (by decide +kernel)) (
  fm (z_sipush (n := 255) (by decide +kernel) (by decide)) (
  fm (z_iand (by decide +kernel)) (
  fm (z_inv (idx := 207) rfl (by decide +kernel) wd_3_8 wd_3_9 wd_3_10 wd_1_5 wd_3_11 (by decide +kernel) ⟨Nat.le_of_ble_eq_true rfl, Nat.le_of_ble_eq_true rfl⟩) (
  fm (z_iinc (n := (-1)) (by decide +kernel) (by decide) (by decide)) (
  fm (z_goto (off := (-24)) (by decide +kernel) (by decide)) (
  fm (z_aload_n (j := 0) (by decide +kernel) rfl) (
  fm (z_getf (idx := 35) awX4 rfl (by decide) wd_1_151 rfl (by decide +kernel)) (
  fm (z_getf (idx := 204) awX3 rfl (by decide) wd_1_108 rfl (by decide +kernel)) (
  fm (z_iret rfl (by decide +kernel)) (fn)))))))))))))))))))))))))))))))))))))))))))
def kX4_finding : Cd := [(0, s_aload 0 1), (1, s_getf 4 8 4), (4, s_iload 1 5), (5, s_dup2 6), (6, s_iald 7), (7, s_pushi 1 8), (8, s_bin (fun x y => x + y) 9), (9, s_iast 10), (10, s_pushi (-1000001) 13), (13, s_iload 1 14), (14, s_bin (fun x y => x - y) 15), (15, s_iret)]
set_option maxRecDepth 20000 in
theorem zX4_finding : ∀ q ∈ kX4_finding, Snd RX4 cX4_finding 2 (some .int) (rmM mX4_finding) q.1 q.2 :=
  fm (z_aload_n (j := 0) (by decide +kernel) rfl) (
  fm (z_getf (idx := 49) awX4 rfl (by decide) wd_1_154 rfl (by decide +kernel)) (
  fm (z_iload_n (j := 1) (by decide +kernel) rfl) (
  fm (z_dup2 (by decide +kernel)) (
  fm (z_iald (by decide +kernel)) (
  fm (z_iconst (n := 1) (by decide +kernel) (by decide)) (
  fm (z_iadd (by decide +kernel)) (
  fm (z_iast (by decide +kernel)) (
  fm (z_ldcw (i := 273) (by decide +kernel) wd_1_188) (
  fm (z_iload_n (j := 1) (by decide +kernel) rfl) (
  fm (z_isub (by decide +kernel)) (
  fm (z_iret rfl (by decide +kernel)) (fn))))))))))))
def kX4_firstBeside : Cd := [(0, s_pushi 0 1), (1, s_istore 4 3), (3, s_iload 4 5), (5, s_iload 3 6), (6, s_icmp (fun x y => y < x) 38 9), (9, s_aload 0 10), (10, s_getf 4 1 13), (13, s_iload 1 14), (14, s_iload 2 15), (15, s_inv mX2_areBeside 2 2 18), (18, s_if (fun x => x = 0) 24 21), (21, s_iload 4 23), (23, s_iret), (24, s_aload 0 25), (25, s_getf 4 1 28), (28, s_inv mX2_passHour 2 0 31), (31, s_pop 32), (32, s_iinc 4 1 35), (35, s_goto 3), (38, s_pushi (-1) 39), (39, s_iret)]
set_option maxRecDepth 20000 in
theorem zX4_firstBeside : ∀ q ∈ kX4_firstBeside, Snd RX4 cX4_firstBeside 5 (some .int) (rmM mX4_firstBeside) q.1 q.2 :=
  fm (z_iconst (n := 0) (by decide +kernel) (by decide)) (
  fm (z_istore (i := 4) (by decide +kernel) (by decide)) (
  fm (z_iload (i := 4) (by decide +kernel)) (
  fm (z_iload_n (j := 3) (by decide +kernel) rfl) (
  fm (z_icmp_gt (off := 32) (by decide +kernel) (by decide)) (
  fm (z_aload_n (j := 0) (by decide +kernel) rfl) (
  fm (z_getf (idx := 16) awX4 rfl (by decide) wd_1_147 rfl (by decide +kernel)) (
  fm (z_iload_n (j := 1) (by decide +kernel) rfl) (
  fm (z_iload_n (j := 2) (by decide +kernel) rfl) (
  fm (z_inv (idx := 280) rfl (by decide +kernel) wd_2_205 wd_2_183 wd_2_184 wd_1_2 wd_2_185 (by decide +kernel) ⟨Nat.le_of_ble_eq_true rfl, Nat.le_of_ble_eq_true rfl⟩) (
  fm (z_if_eq (off := 6) (by decide +kernel) (by decide)) (
  fm (z_iload (i := 4) (by decide +kernel)) (
  fm (z_iret rfl (by decide +kernel)) (
  fm (z_aload_n (j := 0) (by decide +kernel) rfl) (
  fm (z_getf (idx := 16) awX4 rfl (by decide) wd_1_147 rfl (by decide +kernel)) (
  fm (z_inv (idx := 142) rfl (by decide +kernel) wd_2_93 wd_2_31 wd_2_32 wd_1_2 wd_2_33 (by decide +kernel) ⟨Nat.le_of_ble_eq_true rfl, Nat.le_of_ble_eq_true rfl⟩) (
  fm (z_pop (by decide +kernel)) (
  fm (z_iinc (n := 1) (by decide +kernel) (by decide) (by decide)) (
  fm (z_goto (off := (-32)) (by decide +kernel) (by decide)) (
  fm (z_iconst (n := (-1)) (by decide +kernel) (by decide)) (
  fm (z_iret rfl (by decide +kernel)) (fn)))))))))))))))))))))
def kX4_fit : Cd := [(0, s_aload 0 1), (1, s_iload 1 2), (2, s_inv mX4_sheetFinding 4 1 5), (5, s_istore 2 6), (6, s_iload 2 7), (7, s_if (fun x => x = 0) 10 19), (10, s_aload 0 11), (11, s_pushi 1 12), (12, s_pushi 24 14), (14, s_pushi 0 15), (15, s_inv mX4_orderFinding 4 3 18), (18, s_istore 2 19), (19, s_iload 2 20), (20, s_if (fun x => x = 0) 25 23), (23, s_iload 2 24), (24, s_iret), (25, s_aload 0 26), (26, s_aload 0 27), (27, s_getf 4 6 30), (30, s_iload 1 31), (31, s_aald 32), (32, s_inv mX4_lastWordHour 4 1 35), (35, s_istore 3 36), (36, s_iload 3 37), (37, s_if (fun x => 0 ≤ x) 42 40), (40, s_pushi 0 41), (41, s_iret), (42, s_pushi 0 43), (43, s_istore 4 45), (45, s_aload 0 46), (46, s_getf 4 3 49), (49, s_aload 0 50), (50, s_getf 4 0 53), (53, s_getf 2 9 56), (56, s_inv mX0_begin 0 1 59), (59, s_istore 5 61), (61, s_pushi 0 62), (62, s_istore 6 64), (64, s_iload 6 66), (66, s_iload 5 68), (68, s_icmp (fun x y => y ≤ x) 105 71), (71, s_aload 0 72), (72, s_inv mX4_tryOrder 4 0 75), (75, s_aload 0 76), (76, s_aload 0 77), (77, s_getf 4 6 80), (80, s_iload 1 81), (81, s_aald 82), (82, s_iload 3 83), (83, s_inv mX4_wordsAreSo 4 2 86), (86, s_if (fun x => x = 0) 92 89), (89, s_iinc 4 1 92), (92, s_aload 0 93), (93, s_getf 4 3 96), (96, s_inv mX0_advance 0 0 99), (99, s_iinc 6 1 102), (102, s_goto 64), (105, s_iload 4 107), (107, s_iret)]
set_option maxRecDepth 20000 in
theorem zX4_fit : ∀ q ∈ kX4_fit, Snd RX4 cX4_fit 7 (some .int) (rmM mX4_fit) q.1 q.2 :=
  fm (z_aload_n (j := 0) (by decide +kernel) rfl) (
  fm (z_iload_n (j := 1) (by decide +kernel) rfl) (
  fm (z_inv (idx := 230) rfl (by decide +kernel) wd_3_174 wd_3_176 ws_25 wd_1_1 wd_3_177 (by decide +kernel) ⟨Nat.le_of_ble_eq_true rfl, Nat.le_of_ble_eq_true rfl⟩) (
  fm (z_istore_n (j := 2) (by decide +kernel) rfl (by decide)) (
  fm (z_iload_n (j := 2) (by decide +kernel) rfl) (
  fm (z_if_ne (off := 12) (by decide +kernel) (by decide)) (
  fm (z_aload_n (j := 0) (by decide +kernel) rfl) (
  fm (z_iconst (n := 1) (by decide +kernel) (by decide)) (
  fm (z_bipush (n := 24) (by decide +kernel) (by decide)) (
  fm (z_iconst (n := 0) (by decide +kernel) (by decide)) (
  fm (z_inv (idx := 155) rfl (by decide +kernel) wd_2_120 wd_2_122 ws_5 wd_1_1 wd_2_123 (by decide +kernel) ⟨Nat.le_of_ble_eq_true rfl, Nat.le_of_ble_eq_true rfl⟩) (
  fm (z_istore_n (j := 2) (by decide +kernel) rfl (by decide)) (
  fm (z_iload_n (j := 2) (by decide +kernel) rfl) (
  fm (z_if_eq (off := 5) (by decide +kernel) (by decide)) (
  fm (z_iload_n (j := 2) (by decide +kernel) rfl) (
  fm (z_iret rfl (by decide +kernel)) (
  fm (z_aload_n (j := 0) (by decide +kernel) rfl) (
  fm (z_aload_n (j := 0) (by decide +kernel) rfl) (
  fm (z_getf (idx := 41) awX4 rfl (by decide) wd_1_152 rfl (by decide +kernel)) (
  fm (z_iload_n (j := 1) (by decide +kernel) rfl) (
  fm (z_aald (by decide +kernel)) (
  fm (z_inv (idx := 249) rfl (by decide +kernel) wd_3_199 wd_3_201 ws_26 wd_1_1 wd_3_202 (by decide +kernel) ⟨Nat.le_of_ble_eq_true rfl, Nat.le_of_ble_eq_true rfl⟩) (
  fm (z_istore_n (j := 3) (by decide +kernel) rfl (by decide)) (
  fm (z_iload_n (j := 3) (by decide +kernel) rfl) (
  fm (z_if_ge (off := 5) (by decide +kernel) (by decide)) (
  fm (z_iconst (n := 0) (by decide +kernel) (by decide)) (
  fm (z_iret rfl (by decide +kernel)) (
  fm (z_iconst (n := 0) (by decide +kernel) (by decide)) (
  fm (z_istore (i := 4) (by decide +kernel) (by decide)) (
  fm (z_aload_n (j := 0) (by decide +kernel) rfl) (
  fm (z_getf (idx := 25) awX4 rfl (by decide) wd_1_149 rfl (by decide +kernel)) (
  fm (z_aload_n (j := 0) (by decide +kernel) rfl) (
  fm (z_getf (idx := 10) awX4 rfl (by decide) wd_1_146 rfl (by decide +kernel)) (
  fm (z_getf (idx := 77) awX2 rfl (by decide) wd_1_54 rfl (by decide +kernel)) (
  fm (z_inv (idx := 165) rfl (by decide +kernel) wd_2_128 wd_2_129 wd_2_130 wd_1_4 wd_2_131 (by decide +kernel) ⟨Nat.le_of_ble_eq_true rfl, Nat.le_of_ble_eq_true rfl⟩) (
  fm (z_istore (i := 5) (by decide +kernel) (by decide)) (
  fm (z_iconst (n := 0) (by decide +kernel) (by decide)) (
  fm (z_istore (i := 6) (by decide +kernel) (by decide)) (
  fm (z_iload (i := 6) (by decide +kernel)) (
  fm (z_iload (i := 5) (by decide +kernel)) (
  fm (z_icmp_ge (off := 37) (by decide +kernel) (by decide)) (
  fm (z_aload_n (j := 0) (by decide +kernel) rfl) (
  fm (z_inv (idx := 168) rfl (by decide +kernel) wd_2_132 wd_2_134 ws_7 wd_1_1 wd_2_135 (by decide +kernel) ⟨Nat.le_of_ble_eq_true rfl, Nat.le_of_ble_eq_true rfl⟩) (
  fm (z_aload_n (j := 0) (by decide +kernel) rfl) (
  fm (z_aload_n (j := 0) (by decide +kernel) rfl) (
  fm (z_getf (idx := 41) awX4 rfl (by decide) wd_1_152 rfl (by decide +kernel)) (
  fm (z_iload_n (j := 1) (by decide +kernel) rfl) (
  fm (z_aald (by decide +kernel)) (
  fm (z_iload_n (j := 3) (by decide +kernel) rfl) (
  fm (z_inv (idx := 253) rfl (by decide +kernel) wd_3_206 wd_3_208 ws_27 wd_1_1 wd_3_209 (by decide +kernel) ⟨Nat.le_of_ble_eq_true rfl, Nat.le_of_ble_eq_true rfl⟩) (
  fm (z_if_eq (off := 6) (by decide +kernel) (by decide)) (
  fm (z_iinc (n := 1) (by decide +kernel) (by decide) (by decide)) (
  fm (z_aload_n (j := 0) (by decide +kernel) rfl) (
  fm (z_getf (idx := 25) awX4 rfl (by decide) wd_1_149 rfl (by decide +kernel)) (
  fm (z_inv (idx := 171) rfl (by decide +kernel) wd_2_141 wd_2_142 wd_2_143 wd_1_4 wd_2_144 (by decide +kernel) ⟨Nat.le_of_ble_eq_true rfl, Nat.le_of_ble_eq_true rfl⟩) (
  fm (z_iinc (n := 1) (by decide +kernel) (by decide) (by decide)) (
  fm (z_goto (off := (-38)) (by decide +kernel) (by decide)) (
  fm (z_iload (i := 4) (by decide +kernel)) (
  fm (z_iret rfl (by decide +kernel)) (fn)))))))))))))))))))))))))))))))))))))))))))))))))))))))))))
def kX4_hold : Cd := [(0, s_iload 1 1), (1, s_invS mX4_isSpot 1 4), (4, s_if (fun x => x = 0) 23 7), (7, s_iload 2 8), (8, s_pushi (-1) 9), (9, s_icmp (fun x y => x < y) 23 12), (12, s_iload 2 13), (13, s_aload 0 14), (14, s_getf 4 0 17), (17, s_getf 2 9 20), (20, s_icmp (fun x y => x < y) 29 23), (23, s_aload 0 24), (24, s_pushi 0 25), (25, s_inv mX4_finding 4 1 28), (28, s_iret), (29, s_aload 0 30), (30, s_getf 4 0 33), (33, s_getf 2 7 36), (36, s_iload 1 37), (37, s_iload 2 38), (38, s_iast 39), (39, s_pushi 1 40), (40, s_iret)]
set_option maxRecDepth 20000 in
theorem zX4_hold : ∀ q ∈ kX4_hold, Snd RX4 cX4_hold 3 (some .int) (rmM mX4_hold) q.1 q.2 :=
  fm (z_iload_n (j := 1) (by decide +kernel) rfl) (
  fm (z_invS (idx := 215) (by decide +kernel) wd_3_145 wd_3_146 wd_1_1 wd_3_147 (by decide +kernel) ⟨Nat.le_of_ble_eq_true rfl, Nat.le_of_ble_eq_true rfl⟩) (
  fm (z_if_eq (off := 19) (by decide +kernel) (by decide)) (
  fm (z_iload_n (j := 2) (by decide +kernel) rfl) (
  fm (z_iconst (n := (-1)) (by decide +kernel) (by decide)) (
  fm (z_icmp_lt (off := 14) (by decide +kernel) (by decide)) (
  fm (z_iload_n (j := 2) (by decide +kernel) rfl) (
  fm (z_aload_n (j := 0) (by decide +kernel) rfl) (
  fm (z_getf (idx := 10) awX4 rfl (by decide) wd_1_146 rfl (by decide +kernel)) (
  fm (z_getf (idx := 77) awX2 rfl (by decide) wd_1_54 rfl (by decide +kernel)) (
  fm (z_icmp_lt (off := 9) (by decide +kernel) (by decide)) (
  fm (z_aload_n (j := 0) (by decide +kernel) rfl) (
  fm (z_iconst (n := 0) (by decide +kernel) (by decide)) (
  fm (z_inv (idx := 57) rfl (by decide +kernel) wd_1_184 wd_1_186 ws_0 wd_1_1 wd_1_187 (by decide +kernel) ⟨Nat.le_of_ble_eq_true rfl, Nat.le_of_ble_eq_true rfl⟩) (
  fm (z_iret rfl (by decide +kernel)) (
  fm (z_aload_n (j := 0) (by decide +kernel) rfl) (
  fm (z_getf (idx := 10) awX4 rfl (by decide) wd_1_146 rfl (by decide +kernel)) (
  fm (z_getf (idx := 218) awX2 rfl (by decide) wd_1_49 rfl (by decide +kernel)) (
  fm (z_iload_n (j := 1) (by decide +kernel) rfl) (
  fm (z_iload_n (j := 2) (by decide +kernel) rfl) (
  fm (z_iast (by decide +kernel)) (
  fm (z_iconst (n := 1) (by decide +kernel) (by decide)) (
  fm (z_iret rfl (by decide +kernel)) (fn)))))))))))))))))))))))
def kX4_hours : Cd := [(0, s_aload 0 1), (1, s_pushi 1 2), (2, s_iload 1 3), (3, s_pushi 1 4), (4, s_pushi 48 6), (6, s_inv mX4_aheadFinding 4 4 9), (9, s_istore 2 10), (10, s_iload 2 11), (11, s_if (fun x => x = 0) 18 14), (14, s_iload 2 15), (15, s_goto 26), (18, s_aload 0 19), (19, s_getf 4 0 22), (22, s_iload 1 23), (23, s_inv mX2_passHours 2 1 26), (26, s_iret)]
set_option maxRecDepth 20000 in
theorem zX4_hours : ∀ q ∈ kX4_hours, Snd RX4 cX4_hours 3 (some .int) (rmM mX4_hours) q.1 q.2 :=
  fm (z_aload_n (j := 0) (by decide +kernel) rfl) (
  fm (z_iconst (n := 1) (by decide +kernel) (by decide)) (
  fm (z_iload_n (j := 1) (by decide +kernel) rfl) (
  fm (z_iconst (n := 1) (by decide +kernel) (by decide)) (
  fm (z_bipush (n := 48) (by decide +kernel) (by decide)) (
  fm (z_inv (idx := 115) rfl (by decide +kernel) wd_2_22 wd_2_24 ws_3 wd_1_1 wd_2_25 (by decide +kernel) ⟨Nat.le_of_ble_eq_true rfl, Nat.le_of_ble_eq_true rfl⟩) (
  fm (z_istore_n (j := 2) (by decide +kernel) rfl (by decide)) (
  fm (z_iload_n (j := 2) (by decide +kernel) rfl) (
  fm (z_if_eq (off := 7) (by decide +kernel) (by decide)) (
  fm (z_iload_n (j := 2) (by decide +kernel) rfl) (
  fm (z_goto (off := 11) (by decide +kernel) (by decide)) (
  fm (z_aload_n (j := 0) (by decide +kernel) rfl) (
  fm (z_getf (idx := 10) awX4 rfl (by decide) wd_1_146 rfl (by decide +kernel)) (
  fm (z_iload_n (j := 1) (by decide +kernel) rfl) (
  fm (z_inv (idx := 119) rfl (by decide +kernel) wd_2_26 wd_2_27 wd_2_28 wd_1_2 wd_2_29 (by decide +kernel) ⟨Nat.le_of_ble_eq_true rfl, Nat.le_of_ble_eq_true rfl⟩) (
  fm (z_iret rfl (by decide +kernel)) (fn))))))))))))))))
def kX4_image : Cd := [(0, s_aload 0 1), (1, s_getf 4 2 4), (4, s_aload 0 5), (5, s_getf 4 0 8), (8, s_inv mX2_become 2 1 11), (11, s_aload 0 12), (12, s_pushi 1 13), (13, s_putf .boolean 4 9 16), (16, s_pushi 1 17), (17, s_iret)]
set_option maxRecDepth 20000 in
theorem zX4_image : ∀ q ∈ kX4_image, Snd RX4 cX4_image 1 (some .int) (rmM mX4_image) q.1 q.2 :=
  fm (z_aload_n (j := 0) (by decide +kernel) rfl) (
  fm (z_getf (idx := 19) awX4 rfl (by decide) wd_1_148 rfl (by decide +kernel)) (
  fm (z_aload_n (j := 0) (by decide +kernel) rfl) (
  fm (z_getf (idx := 10) awX4 rfl (by decide) wd_1_146 rfl (by decide +kernel)) (
  fm (z_inv (idx := 122) rfl (by decide +kernel) wd_2_64 wd_2_65 wd_2_66 wd_1_2 wd_2_67 (by decide +kernel) ⟨Nat.le_of_ble_eq_true rfl, Nat.le_of_ble_eq_true rfl⟩) (
  fm (z_aload_n (j := 0) (by decide +kernel) rfl) (
  fm (z_iconst (n := 1) (by decide +kernel) (by decide)) (
  fm (z_putf (idx := 257) tyX4 tyX4_ok nmX4 awX4 rfl (by decide) wd_1_155 rfl rfl (by decide +kernel) (by decide +kernel)) (
  fm (z_iconst (n := 1) (by decide +kernel) (by decide)) (
  fm (z_iret rfl (by decide +kernel)) (fn))))))))))
def kX4_isKind : Cd := [(0, s_iload 0 1), (1, s_if (fun x => x < 0) 14 4), (4, s_iload 0 5), (5, s_pushi 7 7), (7, s_icmp (fun x y => y ≤ x) 14 10), (10, s_pushi 1 11), (11, s_goto 15), (14, s_pushi 0 15), (15, s_zret)]
set_option maxRecDepth 20000 in
theorem zX4_isKind : ∀ q ∈ kX4_isKind, Snd RX4 cX4_isKind 1 (some .boolean) (rmM mX4_isKind) q.1 q.2 :=
  fm (z_iload_n (j := 0) (by decide +kernel) rfl) (
  fm (z_if_lt (off := 13) (by decide +kernel) (by decide)) (
  fm (z_iload_n (j := 0) (by decide +kernel) rfl) (
  fm (z_bipush (n := 7) (by decide +kernel) (by decide)) (
  fm (z_icmp_ge (off := 7) (by decide +kernel) (by decide)) (
  fm (z_iconst (n := 1) (by decide +kernel) (by decide)) (
  fm (z_goto (off := 4) (by decide +kernel) (by decide)) (
  fm (z_iconst (n := 0) (by decide +kernel) (by decide)) (
  fm (z_zret rfl (by decide +kernel)) (fn)))))))))
def kX4_isPair : Cd := [(0, s_aload 0 1), (1, s_iload 1 2), (2, s_inv mX4_isStall 4 1 5), (5, s_if (fun x => x = 0) 25 8), (8, s_aload 0 9), (9, s_iload 2 10), (10, s_inv mX4_isStall 4 1 13), (13, s_if (fun x => x = 0) 25 16), (16, s_iload 1 17), (17, s_iload 2 18), (18, s_icmp (fun x y => x = y) 25 21), (21, s_pushi 1 22), (22, s_goto 26), (25, s_pushi 0 26), (26, s_zret)]
set_option maxRecDepth 20000 in
theorem zX4_isPair : ∀ q ∈ kX4_isPair, Snd RX4 cX4_isPair 3 (some .boolean) (rmM mX4_isPair) q.1 q.2 :=
  fm (z_aload_n (j := 0) (by decide +kernel) rfl) (
  fm (z_iload_n (j := 1) (by decide +kernel) rfl) (
  fm (z_inv (idx := 84) rfl (by decide +kernel) wd_1_216 wd_1_218 ws_1 wd_1_1 wd_1_219 (by decide +kernel) ⟨Nat.le_of_ble_eq_true rfl, Nat.le_of_ble_eq_true rfl⟩) (
  fm (z_if_eq (off := 20) (by decide +kernel) (by decide)) (
  fm (z_aload_n (j := 0) (by decide +kernel) rfl) (
  fm (z_iload_n (j := 2) (by decide +kernel) rfl) (
  fm (z_inv (idx := 84) rfl (by decide +kernel) wd_1_216 wd_1_218 ws_1 wd_1_1 wd_1_219 (by decide +kernel) ⟨Nat.le_of_ble_eq_true rfl, Nat.le_of_ble_eq_true rfl⟩) (
  fm (z_if_eq (off := 12) (by decide +kernel) (by decide)) (
  fm (z_iload_n (j := 1) (by decide +kernel) rfl) (
  fm (z_iload_n (j := 2) (by decide +kernel) rfl) (
  fm (z_icmp_eq (off := 7) (by decide +kernel) (by decide)) (
  fm (z_iconst (n := 1) (by decide +kernel) (by decide)) (
  fm (z_goto (off := 4) (by decide +kernel) (by decide)) (
  fm (z_iconst (n := 0) (by decide +kernel) (by decide)) (
  fm (z_zret rfl (by decide +kernel)) (fn)))))))))))))))
def kX4_isPlace : Cd := [(0, s_iload 0 1), (1, s_if (fun x => x < 0) 14 4), (4, s_iload 0 5), (5, s_pushi 12 7), (7, s_icmp (fun x y => y ≤ x) 14 10), (10, s_pushi 1 11), (11, s_goto 15), (14, s_pushi 0 15), (15, s_zret)]
set_option maxRecDepth 20000 in
theorem zX4_isPlace : ∀ q ∈ kX4_isPlace, Snd RX4 cX4_isPlace 1 (some .boolean) (rmM mX4_isPlace) q.1 q.2 :=
  fm (z_iload_n (j := 0) (by decide +kernel) rfl) (
  fm (z_if_lt (off := 13) (by decide +kernel) (by decide)) (
  fm (z_iload_n (j := 0) (by decide +kernel) rfl) (
  fm (z_bipush (n := 12) (by decide +kernel) (by decide)) (
  fm (z_icmp_ge (off := 7) (by decide +kernel) (by decide)) (
  fm (z_iconst (n := 1) (by decide +kernel) (by decide)) (
  fm (z_goto (off := 4) (by decide +kernel) (by decide)) (
  fm (z_iconst (n := 0) (by decide +kernel) (by decide)) (
  fm (z_zret rfl (by decide +kernel)) (fn)))))))))
def kX4_isSheet : Cd := [(0, s_iload 0 1), (1, s_if (fun x => x < 0) 13 4), (4, s_iload 0 5), (5, s_pushi 4 6), (6, s_icmp (fun x y => y ≤ x) 13 9), (9, s_pushi 1 10), (10, s_goto 14), (13, s_pushi 0 14), (14, s_zret)]
set_option maxRecDepth 20000 in
theorem zX4_isSheet : ∀ q ∈ kX4_isSheet, Snd RX4 cX4_isSheet 1 (some .boolean) (rmM mX4_isSheet) q.1 q.2 :=
  fm (z_iload_n (j := 0) (by decide +kernel) rfl) (
  fm (z_if_lt (off := 12) (by decide +kernel) (by decide)) (
  fm (z_iload_n (j := 0) (by decide +kernel) rfl) (
  fm (z_iconst (n := 4) (by decide +kernel) (by decide)) (
  fm (z_icmp_ge (off := 7) (by decide +kernel) (by decide)) (
  fm (z_iconst (n := 1) (by decide +kernel) (by decide)) (
  fm (z_goto (off := 4) (by decide +kernel) (by decide)) (
  fm (z_iconst (n := 0) (by decide +kernel) (by decide)) (
  fm (z_zret rfl (by decide +kernel)) (fn)))))))))
def kX4_isSpot : Cd := [(0, s_iload 0 1), (1, s_if (fun x => x < 0) 14 4), (4, s_iload 0 5), (5, s_pushi 10 7), (7, s_icmp (fun x y => y ≤ x) 14 10), (10, s_pushi 1 11), (11, s_goto 15), (14, s_pushi 0 15), (15, s_zret)]
set_option maxRecDepth 20000 in
theorem zX4_isSpot : ∀ q ∈ kX4_isSpot, Snd RX4 cX4_isSpot 1 (some .boolean) (rmM mX4_isSpot) q.1 q.2 :=
  fm (z_iload_n (j := 0) (by decide +kernel) rfl) (
  fm (z_if_lt (off := 13) (by decide +kernel) (by decide)) (
  fm (z_iload_n (j := 0) (by decide +kernel) rfl) (
  fm (z_bipush (n := 10) (by decide +kernel) (by decide)) (
  fm (z_icmp_ge (off := 7) (by decide +kernel) (by decide)) (
  fm (z_iconst (n := 1) (by decide +kernel) (by decide)) (
  fm (z_goto (off := 4) (by decide +kernel) (by decide)) (
  fm (z_iconst (n := 0) (by decide +kernel) (by decide)) (
  fm (z_zret rfl (by decide +kernel)) (fn)))))))))
def kX4_isStall : Cd := [(0, s_iload 1 1), (1, s_if (fun x => x < 0) 19 4), (4, s_iload 1 5), (5, s_aload 0 6), (6, s_getf 4 0 9), (9, s_getf 2 9 12), (12, s_icmp (fun x y => y ≤ x) 19 15), (15, s_pushi 1 16), (16, s_goto 20), (19, s_pushi 0 20), (20, s_zret)]
set_option maxRecDepth 20000 in
theorem zX4_isStall : ∀ q ∈ kX4_isStall, Snd RX4 cX4_isStall 2 (some .boolean) (rmM mX4_isStall) q.1 q.2 :=
  fm (z_iload_n (j := 1) (by decide +kernel) rfl) (
  fm (z_if_lt (off := 18) (by decide +kernel) (by decide)) (
  fm (z_iload_n (j := 1) (by decide +kernel) rfl) (
  fm (z_aload_n (j := 0) (by decide +kernel) rfl) (
  fm (z_getf (idx := 10) awX4 rfl (by decide) wd_1_146 rfl (by decide +kernel)) (
  fm (z_getf (idx := 77) awX2 rfl (by decide) wd_1_54 rfl (by decide +kernel)) (
  fm (z_icmp_ge (off := 7) (by decide +kernel) (by decide)) (
  fm (z_iconst (n := 1) (by decide +kernel) (by decide)) (
  fm (z_goto (off := 4) (by decide +kernel) (by decide)) (
  fm (z_iconst (n := 0) (by decide +kernel) (by decide)) (
  fm (z_zret rfl (by decide +kernel)) (fn)))))))))))
def kX4_judge : Cd := [(0, s_aload 0 1), (1, s_iload 1 2), (2, s_inv mX4_sheetFinding 4 1 5), (5, s_istore 3 6), (6, s_iload 3 7), (7, s_if (fun x => x = 0) 10 20), (10, s_aload 0 11), (11, s_pushi 1 12), (12, s_iload 2 13), (13, s_pushi 0 14), (14, s_pushi 96 16), (16, s_inv mX4_aheadFinding 4 4 19), (19, s_istore 3 20), (20, s_iload 3 21), (21, s_if (fun x => x = 0) 26 24), (24, s_iload 3 25), (25, s_iret), (26, s_aload 0 27), (27, s_getf 4 1 30), (30, s_aload 0 31), (31, s_getf 4 0 34), (34, s_inv mX2_become 2 1 37), (37, s_aload 0 38), (38, s_getf 4 1 41), (41, s_iload 2 42), (42, s_inv mX2_passHours 2 1 45), (45, s_pop 46), (46, s_aload 0 47), (47, s_getf 4 6 50), (50, s_iload 1 51), (51, s_aald 52), (52, s_getf 1 2 55), (55, s_pushi 12 57), (57, s_min 60), (60, s_istore 4 62), (62, s_pushi 0 63), (63, s_istore 5 65), (65, s_iload 5 67), (67, s_iload 4 69), (69, s_icmp (fun x y => y ≤ x) 102 72), (72, s_aload 0 73), (73, s_getf 4 6 76), (76, s_iload 1 77), (77, s_aald 78), (78, s_getf 1 0 81), (81, s_iload 5 83), (83, s_iald 84), (84, s_aload 0 85), (85, s_getf 4 1 88), (88, s_iload 5 90), (90, s_inv mX2_stallAt 2 1 93), (93, s_icmp (fun x y => x = y) 96 102), (96, s_iinc 5 1 99), (99, s_goto 65), (102, s_iload 5 104), (104, s_pushi 12 106), (106, s_icmp (fun x y => x = y) 109 127), (109, s_aload 0 110), (110, s_getf 4 6 113), (113, s_iload 1 114), (114, s_aald 115), (115, s_getf 1 2 118), (118, s_pushi 12 120), (120, s_icmp (fun x y => x = y) 123 127), (123, s_pushi 0 124), (124, s_goto 131), (127, s_pushi 1 128), (128, s_iload 5 130), (130, s_bin (fun x y => x + y) 131), (131, s_iret)]
set_option maxRecDepth 20000 in
theorem zX4_judge : ∀ q ∈ kX4_judge, Snd RX4 cX4_judge 6 (some .int) (rmM mX4_judge) q.1 q.2 :=
  fm (z_aload_n (j := 0) (by decide +kernel) rfl) (
  fm (z_iload_n (j := 1) (by decide +kernel) rfl) (
  fm (z_inv (idx := 230) rfl (by decide +kernel) wd_3_174 wd_3_176 ws_25 wd_1_1 wd_3_177 (by decide +kernel) ⟨Nat.le_of_ble_eq_true rfl, Nat.le_of_ble_eq_true rfl⟩) (
  fm (z_istore_n (j := 3) (by decide +kernel) rfl (by decide)) (
  fm (z_iload_n (j := 3) (by decide +kernel) rfl) (
  fm (z_if_ne (off := 13) (by decide +kernel) (by decide)) (
  fm (z_aload_n (j := 0) (by decide +kernel) rfl) (
  fm (z_iconst (n := 1) (by decide +kernel) (by decide)) (
  fm (z_iload_n (j := 2) (by decide +kernel) rfl) (
  fm (z_iconst (n := 0) (by decide +kernel) (by decide)) (
  fm (z_bipush (n := 96) (by decide +kernel) (by decide)) (
  fm (z_inv (idx := 115) rfl (by decide +kernel) wd_2_22 wd_2_24 ws_3 wd_1_1 wd_2_25 (by decide +kernel) ⟨Nat.le_of_ble_eq_true rfl, Nat.le_of_ble_eq_true rfl⟩) (
  fm (z_istore_n (j := 3) (by decide +kernel) rfl (by decide)) (
  fm (z_iload_n (j := 3) (by decide +kernel) rfl) (
  fm (z_if_eq (off := 5) (by decide +kernel) (by decide)) (
  fm (z_iload_n (j := 3) (by decide +kernel) rfl) (
  fm (z_iret rfl (by decide +kernel)) (
  fm (z_aload_n (j := 0) (by decide +kernel) rfl) (
  fm (z_getf (idx := 16) awX4 rfl (by decide) wd_1_147 rfl (by decide +kernel)) (
  fm (z_aload_n (j := 0) (by decide +kernel) rfl) (
  fm (z_getf (idx := 10) awX4 rfl (by decide) wd_1_146 rfl (by decide +kernel)) (
  fm (z_inv (idx := 122) rfl (by decide +kernel) wd_2_64 wd_2_65 wd_2_66 wd_1_2 wd_2_67 (by decide +kernel) ⟨Nat.le_of_ble_eq_true rfl, Nat.le_of_ble_eq_true rfl⟩) (
  fm (z_aload_n (j := 0) (by decide +kernel) rfl) (
  fm (z_getf (idx := 16) awX4 rfl (by decide) wd_1_147 rfl (by decide +kernel)) (
  fm (z_iload_n (j := 2) (by decide +kernel) rfl) (
  fm (z_inv (idx := 119) rfl (by decide +kernel) wd_2_26 wd_2_27 wd_2_28 wd_1_2 wd_2_29 (by decide +kernel) ⟨Nat.le_of_ble_eq_true rfl, Nat.le_of_ble_eq_true rfl⟩) (
  fm (z_pop (by decide +kernel)) (
  fm (z_aload_n (j := 0) (by decide +kernel) rfl) (
  fm (z_getf (idx := 41) awX4 rfl (by decide) wd_1_152 rfl (by decide +kernel)) (
  fm (z_iload_n (j := 1) (by decide +kernel) rfl) (
  fm (z_aald (by decide +kernel)) (
  fm (z_getf (idx := 229) awX1 rfl (by decide) wd_1_138 rfl (by decide +kernel)) (
  fm (z_bipush (n := 12) (by decide +kernel) (by decide)) (
  fm (z_min (idx := 244) (by decide +kernel) wd_3_194 wd_2_40 wd_1_8 wd_2_41 ⟨Nat.le_of_ble_eq_true rfl, Nat.le_of_ble_eq_true rfl⟩) (
  fm (z_istore (i := 4) (by decide +kernel) (by decide)) (
  fm (z_iconst (n := 0) (by decide +kernel) (by decide)) (
  fm (z_istore (i := 5) (by decide +kernel) (by decide)) (
  fm (z_iload (i := 5) (by decide +kernel)) (
  fm (z_iload (i := 4) (by decide +kernel)) (
  fm (z_icmp_ge (off := 33) (by decide +kernel) (by decide)) (
  fm (z_aload_n (j := 0) (by decide +kernel) rfl) (
  fm (z_getf (idx := 41) awX4 rfl (by decide) wd_1_152 rfl (by decide +kernel)) (
  fm (z_iload_n (j := 1) (by decide +kernel) rfl) (
  fm (z_aald (by decide +kernel)) (
  fm (z_getf (idx := 241) awX1 rfl (by decide) wd_1_134 rfl (by decide +kernel)) (
  fm (z_iload (i := 5) (by decide +kernel)) (
  fm (z_iald (by decide +kernel)) (
  fm (z_aload_n (j := 0) (by decide +kernel) rfl) (
  fm (z_getf (idx := 16) awX4 rfl (by decide) wd_1_147 rfl (by decide +kernel)) (
  fm (z_iload (i := 5) (by decide +kernel)) (
  fm (z_inv (idx := 74) rfl (by decide +kernel) wd_1_204 wd_1_205 wd_1_206 wd_1_2 wd_1_207 (by decide +kernel) ⟨Nat.le_of_ble_eq_true rfl, Nat.le_of_ble_eq_true rfl⟩) (
  fm (z_icmp_ne (off := 9) (by decide +kernel) (by decide)) (
  fm (z_iinc (n := 1) (by decide +kernel) (by decide) (by decide)) (
  fm (z_goto (off := (-34)) (by decide +kernel) (by decide)) (
  fm (z_iload (i := 5) (by decide +kernel)) (
  fm (z_bipush (n := 12) (by decide +kernel) (by decide)) (
  fm (z_icmp_ne (off := 21) (by decide +kernel) (by decide)) (
  fm (z_aload_n (j := 0) (by decide +kernel) rfl) (
  fm (z_getf (idx := 41) awX4 rfl (by decide) wd_1_152 rfl (by decide +kernel)) (
  fm (z_iload_n (j := 1) (by decide +kernel) rfl) (
  fm (z_aald (by decide +kernel)) (
  fm (z_getf (idx := 229) awX1 rfl (by decide) wd_1_138 rfl (by decide +kernel)) (
  fm (z_bipush (n := 12) (by decide +kernel) (by decide)) (
  fm (z_icmp_ne (off := 7) (by decide +kernel) (by decide)) (
  fm (z_iconst (n := 0) (by decide +kernel) (by decide)) (
  fm (z_goto (off := 7) (by decide +kernel) (by decide)) (
  fm (z_iconst (n := 1) (by decide +kernel) (by decide)) (
  fm (z_iload (i := 5) (by decide +kernel)) (
  fm (z_iadd (by decide +kernel)) (
  fm (z_iret rfl (by decide +kernel)) (fn))))))))))))))))))))))))))))))))))))))))))))))))))))))))))))))))))))))
def kX4_lastWordHour : Cd := [(0, s_pushi 0 1), (1, s_istore 2 2), (2, s_pushi 0 3), (3, s_istore 3 4), (4, s_iload 3 5), (5, s_pushi 3 6), (6, s_bin (fun x y => x + y) 7), (7, s_aload 1 8), (8, s_getf 1 2 11), (11, s_icmp (fun x y => y < x) 78 14), (14, s_aload 1 15), (15, s_getf 1 0 18), (18, s_iload 3 19), (19, s_pushi 2 20), (20, s_bin (fun x y => x + y) 21), (21, s_iald 22), (22, s_istore 4 24), (24, s_aload 0 25), (25, s_aload 1 26), (26, s_getf 1 0 29), (29, s_iload 3 30), (30, s_iald 31), (31, s_inv mX4_isStall 4 1 34), (34, s_if (fun x => x = 0) 63 37), (37, s_aload 1 38), (38, s_getf 1 0 41), (41, s_iload 3 42), (42, s_pushi 1 43), (43, s_bin (fun x y => x + y) 44), (44, s_iald 45), (45, s_invS mX4_isPlace 1 48), (48, s_if (fun x => x = 0) 63 51), (51, s_iload 4 53), (53, s_if (fun x => x < 0) 63 56), (56, s_iload 4 58), (58, s_pushi 24 60), (60, s_icmp (fun x y => x ≤ y) 65 63), (63, s_pushi (-1) 64), (64, s_iret), (65, s_iload 2 66), (66, s_iload 4 68), (68, s_max 71), (71, s_istore 2 72), (72, s_iinc 3 3 75), (75, s_goto 4), (78, s_iload 2 79), (79, s_iret)]
set_option maxRecDepth 20000 in
theorem zX4_lastWordHour : ∀ q ∈ kX4_lastWordHour, Snd RX4 cX4_lastWordHour 5 (some .int) (rmM mX4_lastWordHour) q.1 q.2 :=
  fm (z_iconst (n := 0) (by decide +kernel) (by decide)) (
  fm (z_istore_n (j := 2) (by decide +kernel) rfl (by decide)) (
  fm (z_iconst (n := 0) (by decide +kernel) (by decide)) (
  fm (z_istore_n (j := 3) (by decide +kernel) rfl (by decide)) (
  fm (z_iload_n (j := 3) (by decide +kernel) rfl) (
  fm (z_iconst (n := 3) (by decide +kernel) (by decide)) (
  fm (z_iadd (by decide +kernel)) (
  fm (z_aload_n (j := 1) (by decide +kernel) rfl) (
  fm (z_getf (idx := 229) awX1 rfl (by decide) wd_1_138 rfl (by decide +kernel)) (
  fm (z_icmp_gt (off := 67) (by decide +kernel) (by decide)) (
  fm (z_aload_n (j := 1) (by decide +kernel) rfl) (
  fm (z_getf (idx := 241) awX1 rfl (by decide) wd_1_134 rfl (by decide +kernel)) (
  fm (z_iload_n (j := 3) (by decide +kernel) rfl) (
  fm (z_iconst (n := 2) (by decide +kernel) (by decide)) (
  fm (z_iadd (by decide +kernel)) (
  fm (z_iald (by decide +kernel)) (
  fm (z_istore (i := 4) (by decide +kernel) (by decide)) (
  fm (z_aload_n (j := 0) (by decide +kernel) rfl) (
  fm (z_aload_n (j := 1) (by decide +kernel) rfl) (
  fm (z_getf (idx := 241) awX1 rfl (by decide) wd_1_134 rfl (by decide +kernel)) (
  fm (z_iload_n (j := 3) (by decide +kernel) rfl) (
  fm (z_iald (by decide +kernel)) (
  fm (z_inv (idx := 84) rfl (by decide +kernel) wd_1_216 wd_1_218 ws_1 wd_1_1 wd_1_219 (by decide +kernel) ⟨Nat.le_of_ble_eq_true rfl, Nat.le_of_ble_eq_true rfl⟩) (
  fm (z_if_eq (off := 29) (by decide +kernel) (by decide)) (
  fm (z_aload_n (j := 1) (by decide +kernel) rfl) (
  fm (z_getf (idx := 241) awX1 rfl (by decide) wd_1_134 rfl (by decide +kernel)) (
  fm (z_iload_n (j := 3) (by decide +kernel) rfl) (
  fm (z_iconst (n := 1) (by decide +kernel) (by decide)) (
  fm (z_iadd (by decide +kernel)) (
  fm (z_iald (by decide +kernel)) (
  fm (z_invS (idx := 53) (by decide +kernel) wd_1_181 wd_1_182 wd_1_1 wd_1_183 (by decide +kernel) ⟨Nat.le_of_ble_eq_true rfl, Nat.le_of_ble_eq_true rfl⟩) (
  fm (z_if_eq (off := 15) (by decide +kernel) (by decide)) (
  fm (z_iload (i := 4) (by decide +kernel)) (
  fm (z_if_lt (off := 10) (by decide +kernel) (by decide)) (
  fm (z_iload (i := 4) (by decide +kernel)) (
  fm (z_bipush (n := 24) (by decide +kernel) (by decide)) (
  fm (z_icmp_le (off := 5) (by decide +kernel) (by decide)) (
  fm (z_iconst (n := (-1)) (by decide +kernel) (by decide)) (
  fm (z_iret rfl (by decide +kernel)) (
  fm (z_iload_n (j := 2) (by decide +kernel) rfl) (
  fm (z_iload (i := 4) (by decide +kernel)) (
  fm (z_max (idx := 283) (by decide +kernel) wd_3_203 wd_3_204 wd_1_8 wd_3_205 ⟨Nat.le_of_ble_eq_true rfl, Nat.le_of_ble_eq_true rfl⟩) (
  fm (z_istore_n (j := 2) (by decide +kernel) rfl (by decide)) (
  fm (z_iinc (n := 3) (by decide +kernel) (by decide) (by decide)) (
  fm (z_goto (off := (-71)) (by decide +kernel) (by decide)) (
  fm (z_iload_n (j := 2) (by decide +kernel) rfl) (
  fm (z_iret rfl (by decide +kernel)) (fn)))))))))))))))))))))))))))))))))))))))))))))))
def kX4_load : Cd := [(0, s_aload 0 1), (1, s_iload 1 2), (2, s_inv mX4_sheetFinding 4 1 5), (5, s_istore 2 6), (6, s_iload 2 7), (7, s_if (fun x => x = 0) 12 10), (10, s_iload 2 11), (11, s_iret), (12, s_aload 0 13), (13, s_getf 4 6 16), (16, s_iload 1 17), (17, s_aald 18), (18, s_getf 1 2 21), (21, s_pushi 12 23), (23, s_min 26), (26, s_istore 3 27), (27, s_pushi 0 28), (28, s_istore 4 30), (30, s_iload 4 32), (32, s_iload 3 33), (33, s_icmp (fun x y => y ≤ x) 96 36), (36, s_aload 0 37), (37, s_getf 4 6 40), (40, s_iload 1 41), (41, s_aald 42), (42, s_getf 1 0 45), (45, s_iload 4 47), (47, s_iald 48), (48, s_if (fun x => x < 0) 96 51), (51, s_aload 0 52), (52, s_getf 4 6 55), (55, s_iload 1 56), (56, s_aald 57), (57, s_getf 1 0 60), (60, s_iload 4 62), (62, s_iald 63), (63, s_pushi 20 65), (65, s_icmp (fun x y => y < x) 96 68), (68, s_aload 0 69), (69, s_getf 4 0 72), (72, s_getf 2 0 75), (75, s_iload 4 77), (77, s_aload 0 78), (78, s_getf 4 6 81), (81, s_iload 1 82), (82, s_aald 83), (83, s_getf 1 0 86), (86, s_iload 4 88), (88, s_iald 89), (89, s_iast 90), (90, s_iinc 4 1 93), (93, s_goto 30), (96, s_iload 4 98), (98, s_iret)]
set_option maxRecDepth 20000 in
theorem zX4_load : ∀ q ∈ kX4_load, Snd RX4 cX4_load 5 (some .int) (rmM mX4_load) q.1 q.2 :=
  fm (z_aload_n (j := 0) (by decide +kernel) rfl) (
  fm (z_iload_n (j := 1) (by decide +kernel) rfl) (
  fm (z_inv (idx := 230) rfl (by decide +kernel) wd_3_174 wd_3_176 ws_25 wd_1_1 wd_3_177 (by decide +kernel) ⟨Nat.le_of_ble_eq_true rfl, Nat.le_of_ble_eq_true rfl⟩) (
  fm (z_istore_n (j := 2) (by decide +kernel) rfl (by decide)) (
  fm (z_iload_n (j := 2) (by decide +kernel) rfl) (
  fm (z_if_eq (off := 5) (by decide +kernel) (by decide)) (
  fm (z_iload_n (j := 2) (by decide +kernel) rfl) (
  fm (z_iret rfl (by decide +kernel)) (
  fm (z_aload_n (j := 0) (by decide +kernel) rfl) (
  fm (z_getf (idx := 41) awX4 rfl (by decide) wd_1_152 rfl (by decide +kernel)) (
  fm (z_iload_n (j := 1) (by decide +kernel) rfl) (
  fm (z_aald (by decide +kernel)) (
  fm (z_getf (idx := 229) awX1 rfl (by decide) wd_1_138 rfl (by decide +kernel)) (
  fm (z_bipush (n := 12) (by decide +kernel) (by decide)) (
  fm (z_min (idx := 244) (by decide +kernel) wd_3_194 wd_2_40 wd_1_8 wd_2_41 ⟨Nat.le_of_ble_eq_true rfl, Nat.le_of_ble_eq_true rfl⟩) (
  fm (z_istore_n (j := 3) (by decide +kernel) rfl (by decide)) (
  fm (z_iconst (n := 0) (by decide +kernel) (by decide)) (
  fm (z_istore (i := 4) (by decide +kernel) (by decide)) (
  fm (z_iload (i := 4) (by decide +kernel)) (
  fm (z_iload_n (j := 3) (by decide +kernel) rfl) (
  fm (z_icmp_ge (off := 63) (by decide +kernel) (by decide)) (
  fm (z_aload_n (j := 0) (by decide +kernel) rfl) (
  fm (z_getf (idx := 41) awX4 rfl (by decide) wd_1_152 rfl (by decide +kernel)) (
  fm (z_iload_n (j := 1) (by decide +kernel) rfl) (
  fm (z_aald (by decide +kernel)) (
  fm (z_getf (idx := 241) awX1 rfl (by decide) wd_1_134 rfl (by decide +kernel)) (
  fm (z_iload (i := 4) (by decide +kernel)) (
  fm (z_iald (by decide +kernel)) (
  fm (z_if_lt (off := 48) (by decide +kernel) (by decide)) (
  fm (z_aload_n (j := 0) (by decide +kernel) rfl) (
  fm (z_getf (idx := 41) awX4 rfl (by decide) wd_1_152 rfl (by decide +kernel)) (
  fm (z_iload_n (j := 1) (by decide +kernel) rfl) (
  fm (z_aald (by decide +kernel)) (
  fm (z_getf (idx := 241) awX1 rfl (by decide) wd_1_134 rfl (by decide +kernel)) (
  fm (z_iload (i := 4) (by decide +kernel)) (
  fm (z_iald (by decide +kernel)) (
  fm (z_bipush (n := 20) (by decide +kernel) (by decide)) (
  fm (z_icmp_gt (off := 31) (by decide +kernel) (by decide)) (
  fm (z_aload_n (j := 0) (by decide +kernel) rfl) (
  fm (z_getf (idx := 10) awX4 rfl (by decide) wd_1_146 rfl (by decide +kernel)) (
  fm (z_getf (idx := 61) awX2 rfl (by decide) wd_1_32 rfl (by decide +kernel)) (
  fm (z_iload (i := 4) (by decide +kernel)) (
  fm (z_aload_n (j := 0) (by decide +kernel) rfl) (
  fm (z_getf (idx := 41) awX4 rfl (by decide) wd_1_152 rfl (by decide +kernel)) (
  fm (z_iload_n (j := 1) (by decide +kernel) rfl) (
  fm (z_aald (by decide +kernel)) (
  fm (z_getf (idx := 241) awX1 rfl (by decide) wd_1_134 rfl (by decide +kernel)) (
  fm (z_iload (i := 4) (by decide +kernel)) (
  fm (z_iald (by decide +kernel)) (
  fm (z_iast (by decide +kernel)) (
  fm (z_iinc (n := 1) (by decide +kernel) (by decide) (by decide)) (
  fm (z_goto (off := (-63)) (by decide +kernel) (by decide)) (
  fm (z_iload (i := 4) (by decide +kernel)) (
  fm (z_iret rfl (by decide +kernel)) (fn))))))))))))))))))))))))))))))))))))))))))))))))))))))
def kX4_lots : Cd := [(0, s_iload 1 1), (1, s_pushi 1 2), (2, s_icmp (fun x y => x < y) 11 5), (5, s_iload 1 6), (6, s_pushi 12 8), (8, s_icmp (fun x y => x ≤ y) 17 11), (11, s_aload 0 12), (12, s_pushi 0 13), (13, s_inv mX4_finding 4 1 16), (16, s_iret), (17, s_aload 0 18), (18, s_getf 4 0 21), (21, s_getf 2 9 24), (24, s_if (fun x => 0 < x) 33 27), (27, s_aload 0 28), (28, s_pushi 4 29), (29, s_inv mX4_finding 4 1 32), (32, s_iret), (33, s_pushi 0 34), (34, s_istore 2 35), (35, s_iload 2 36), (36, s_iload 1 37), (37, s_icmp (fun x y => y ≤ x) 89 40), (40, s_aload 0 41), (41, s_getf 4 0 44), (44, s_inv mX2_draw 2 0 47), (47, s_aload 0 48), (48, s_getf 4 0 51), (51, s_getf 2 9 54), (54, s_rem 55), (55, s_istore 3 56), (56, s_aload 0 57), (57, s_getf 4 0 60), (60, s_inv mX2_draw 2 0 63), (63, s_aload 0 64), (64, s_getf 4 0 67), (67, s_getf 2 9 70), (70, s_rem 71), (71, s_istore 4 73), (73, s_aload 0 74), (74, s_getf 4 0 77), (77, s_iload 3 78), (78, s_iload 4 80), (80, s_inv mX2_exchange 2 2 83), (83, s_iinc 2 1 86), (86, s_goto 35), (89, s_pushi 100 91), (91, s_aload 0 92), (92, s_getf 4 0 95), (95, s_getf 2 3 98), (98, s_pushi 0 99), (99, s_iald 100), (100, s_bin (fun x y => x * y) 101), (101, s_aload 0 102), (102, s_getf 4 0 105), (105, s_getf 2 3 108), (108, s_aload 0 109), (109, s_getf 4 0 112), (112, s_getf 2 9 115), (115, s_pushi 1 116), (116, s_bin (fun x y => x - y) 117), (117, s_iald 118), (118, s_bin (fun x y => x + y) 119), (119, s_iret)]
set_option maxRecDepth 20000 in
theorem zX4_lots : ∀ q ∈ kX4_lots, Snd RX4 cX4_lots 5 (some .int) (rmM mX4_lots) q.1 q.2 :=
  fm (z_iload_n (j := 1) (by decide +kernel) rfl) (
  fm (z_iconst (n := 1) (by decide +kernel) (by decide)) (
  fm (z_icmp_lt (off := 9) (by decide +kernel) (by decide)) (
  fm (z_iload_n (j := 1) (by decide +kernel) rfl) (
  fm (z_bipush (n := 12) (by decide +kernel) (by decide)) (
  fm (z_icmp_le (off := 9) (by decide +kernel) (by decide)) (
  fm (z_aload_n (j := 0) (by decide +kernel) rfl) (
  fm (z_iconst (n := 0) (by decide +kernel) (by decide)) (
  fm (z_inv (idx := 57) rfl (by decide +kernel) wd_1_184 wd_1_186 ws_0 wd_1_1 wd_1_187 (by decide +kernel) ⟨Nat.le_of_ble_eq_true rfl, Nat.le_of_ble_eq_true rfl⟩) (
  fm (z_iret rfl (by decide +kernel)) (
  fm (z_aload_n (j := 0) (by decide +kernel) rfl) (
  fm (z_getf (idx := 10) awX4 rfl (by decide) wd_1_146 rfl (by decide +kernel)) (
  fm (z_getf (idx := 77) awX2 rfl (by decide) wd_1_54 rfl (by decide +kernel)) (
  fm (z_if_gt (off := 9) (by decide +kernel) (by decide)) (
  fm (z_aload_n (j := 0) (by decide +kernel) rfl) (
  fm (z_iconst (n := 4) (by decide +kernel) (by decide)) (
  fm (z_inv (idx := 57) rfl (by decide +kernel) wd_1_184 wd_1_186 ws_0 wd_1_1 wd_1_187 (by decide +kernel) ⟨Nat.le_of_ble_eq_true rfl, Nat.le_of_ble_eq_true rfl⟩) (
  fm (z_iret rfl (by decide +kernel)) (
  fm (z_iconst (n := 0) (by decide +kernel) (by decide)) (
  fm (z_istore_n (j := 2) (by decide +kernel) rfl (by decide)) (
  fm (z_iload_n (j := 2) (by decide +kernel) rfl) (
  fm (z_iload_n (j := 1) (by decide +kernel) rfl) (
  fm (z_icmp_ge (off := 52) (by decide +kernel) (by decide)) (
  fm (z_aload_n (j := 0) (by decide +kernel) rfl) (
  fm (z_getf (idx := 10) awX4 rfl (by decide) wd_1_146 rfl (by decide +kernel)) (
  fm (z_inv (idx := 198) rfl (by decide +kernel) wd_2_235 wd_2_236 wd_2_237 wd_1_2 wd_2_238 (by decide +kernel) ⟨Nat.le_of_ble_eq_true rfl, Nat.le_of_ble_eq_true rfl⟩) (
  fm (z_aload_n (j := 0) (by decide +kernel) rfl) (
  fm (z_getf (idx := 10) awX4 rfl (by decide) wd_1_146 rfl (by decide +kernel)) (
  fm (z_getf (idx := 77) awX2 rfl (by decide) wd_1_54 rfl (by decide +kernel)) (
  fm (z_irem (by decide +kernel)) (
  fm (z_istore_n (j := 3) (by decide +kernel) rfl (by decide)) (
  fm (z_aload_n (j := 0) (by decide +kernel) rfl) (
  fm (z_getf (idx := 10) awX4 rfl (by decide) wd_1_146 rfl (by decide +kernel)) (
  fm (z_inv (idx := 198) rfl (by decide +kernel) wd_2_235 wd_2_236 wd_2_237 wd_1_2 wd_2_238 (by decide +kernel) ⟨Nat.le_of_ble_eq_true rfl, Nat.le_of_ble_eq_true rfl⟩) (
  fm (z_aload_n (j := 0) (by decide +kernel) rfl) (
  fm (z_getf (idx := 10) awX4 rfl (by decide) wd_1_146 rfl (by decide +kernel)) (
  fm (z_getf (idx := 77) awX2 rfl (by decide) wd_1_54 rfl (by decide +kernel)) (
  fm (z_irem (by decide +kernel)) (
  fm (z_istore (i := 4) (by decide +kernel) (by decide)) (
  fm (z_aload_n (j := 0) (by decide +kernel) rfl) (
  fm (z_getf (idx := 10) awX4 rfl (by decide) wd_1_146 rfl (by decide +kernel)) (
  fm (z_iload_n (j := 3) (by decide +kernel) rfl) (
  fm (z_iload (i := 4) (by decide +kernel)) (
  fm (z_inv (idx := 108) rfl (by decide +kernel) wd_1_238 wd_1_239 wd_2_0 wd_1_2 wd_2_1 (by decide +kernel) ⟨Nat.le_of_ble_eq_true rfl, Nat.le_of_ble_eq_true rfl⟩) (
  fm (z_iinc (n := 1) (by decide +kernel) (by decide) (by decide)) (
  fm (z_goto (off := (-51)) (by decide +kernel) (by decide)) (
  fm (z_bipush (n := 100) (by decide +kernel) (by decide)) (
  fm (z_aload_n (j := 0) (by decide +kernel) rfl) (
  fm (z_getf (idx := 10) awX4 rfl (by decide) wd_1_146 rfl (by decide +kernel)) (
  fm (z_getf (idx := 90) awX2 rfl (by decide) wd_1_40 rfl (by decide +kernel)) (
  fm (z_iconst (n := 0) (by decide +kernel) (by decide)) (
  fm (z_iald (by decide +kernel)) (
  fm (z_imul (by decide +kernel)) (
  fm (z_aload_n (j := 0) (by decide +kernel) rfl) (
  fm (z_getf (idx := 10) awX4 rfl (by decide) wd_1_146 rfl (by decide +kernel)) (
  fm (z_getf (idx := 90) awX2 rfl (by decide) wd_1_40 rfl (by decide +kernel)) (
  fm (z_aload_n (j := 0) (by decide +kernel) rfl) (
  fm (z_getf (idx := 10) awX4 rfl (by decide) wd_1_146 rfl (by decide +kernel)) (
  fm (z_getf (idx := 77) awX2 rfl (by decide) wd_1_54 rfl (by decide +kernel)) (
  fm (z_iconst (n := 1) (by decide +kernel) (by decide)) (
  fm (z_isub (by decide +kernel)) (
  fm (z_iald (by decide +kernel)) (
  fm (z_iadd (by decide +kernel)) (
  fm (z_iret rfl (by decide +kernel)) (fn))))))))))))))))))))))))))))))))))))))))))))))))))))))))))))))))
def kX4_meet : Cd := [(0, s_aload 0 1), (1, s_aload 0 2), (2, s_iload 1 3), (3, s_iload 2 4), (4, s_inv mX4_isPair 4 2 7), (7, s_pushi 96 9), (9, s_pushi 0 10), (10, s_pushi 96 12), (12, s_inv mX4_aheadFinding 4 4 15), (15, s_istore 3 16), (16, s_iload 3 17), (17, s_if (fun x => x = 0) 22 20), (20, s_iload 3 21), (21, s_iret), (22, s_aload 0 23), (23, s_getf 4 1 26), (26, s_aload 0 27), (27, s_getf 4 0 30), (30, s_inv mX2_become 2 1 33), (33, s_aload 0 34), (34, s_iload 1 35), (35, s_iload 2 36), (36, s_pushi 96 38), (38, s_inv mX4_firstBeside 4 3 41), (41, s_istore 4 43), (43, s_iload 4 45), (45, s_if (fun x => x < 0) 53 48), (48, s_iload 4 50), (50, s_goto 58), (53, s_aload 0 54), (54, s_pushi 3 55), (55, s_inv mX4_finding 4 1 58), (58, s_iret)]
set_option maxRecDepth 20000 in
theorem zX4_meet : ∀ q ∈ kX4_meet, Snd RX4 cX4_meet 5 (some .int) (rmM mX4_meet) q.1 q.2 :=
  fm (z_aload_n (j := 0) (by decide +kernel) rfl) (
  fm (z_aload_n (j := 0) (by decide +kernel) rfl) (
  fm (z_iload_n (j := 1) (by decide +kernel) rfl) (
  fm (z_iload_n (j := 2) (by decide +kernel) rfl) (
  fm (z_inv (idx := 187) rfl (by decide +kernel) wd_2_197 wd_2_199 ws_10 wd_1_1 wd_2_200 (by decide +kernel) ⟨Nat.le_of_ble_eq_true rfl, Nat.le_of_ble_eq_true rfl⟩) (
  fm (z_bipush (n := 96) (by decide +kernel) (by decide)) (
  fm (z_iconst (n := 0) (by decide +kernel) (by decide)) (
  fm (z_bipush (n := 96) (by decide +kernel) (by decide)) (
  fm (z_inv (idx := 115) rfl (by decide +kernel) wd_2_22 wd_2_24 ws_3 wd_1_1 wd_2_25 (by decide +kernel) ⟨Nat.le_of_ble_eq_true rfl, Nat.le_of_ble_eq_true rfl⟩) (
  fm (z_istore_n (j := 3) (by decide +kernel) rfl (by decide)) (
  fm (z_iload_n (j := 3) (by decide +kernel) rfl) (
  fm (z_if_eq (off := 5) (by decide +kernel) (by decide)) (
  fm (z_iload_n (j := 3) (by decide +kernel) rfl) (
  fm (z_iret rfl (by decide +kernel)) (
  fm (z_aload_n (j := 0) (by decide +kernel) rfl) (
  fm (z_getf (idx := 16) awX4 rfl (by decide) wd_1_147 rfl (by decide +kernel)) (
  fm (z_aload_n (j := 0) (by decide +kernel) rfl) (
  fm (z_getf (idx := 10) awX4 rfl (by decide) wd_1_146 rfl (by decide +kernel)) (
  fm (z_inv (idx := 122) rfl (by decide +kernel) wd_2_64 wd_2_65 wd_2_66 wd_1_2 wd_2_67 (by decide +kernel) ⟨Nat.le_of_ble_eq_true rfl, Nat.le_of_ble_eq_true rfl⟩) (
  fm (z_aload_n (j := 0) (by decide +kernel) rfl) (
  fm (z_iload_n (j := 1) (by decide +kernel) rfl) (
  fm (z_iload_n (j := 2) (by decide +kernel) rfl) (
  fm (z_bipush (n := 96) (by decide +kernel) (by decide)) (
  fm (z_inv (idx := 191) rfl (by decide +kernel) wd_2_201 wd_2_203 ws_11 wd_1_1 wd_2_204 (by decide +kernel) ⟨Nat.le_of_ble_eq_true rfl, Nat.le_of_ble_eq_true rfl⟩) (
  fm (z_istore (i := 4) (by decide +kernel) (by decide)) (
  fm (z_iload (i := 4) (by decide +kernel)) (
  fm (z_if_lt (off := 8) (by decide +kernel) (by decide)) (
  fm (z_iload (i := 4) (by decide +kernel)) (
  fm (z_goto (off := 8) (by decide +kernel) (by decide)) (
  fm (z_aload_n (j := 0) (by decide +kernel) rfl) (
  fm (z_iconst (n := 3) (by decide +kernel) (by decide)) (
  fm (z_inv (idx := 57) rfl (by decide +kernel) wd_1_184 wd_1_186 ws_0 wd_1_1 wd_1_187 (by decide +kernel) ⟨Nat.le_of_ble_eq_true rfl, Nat.le_of_ble_eq_true rfl⟩) (
  fm (z_iret rfl (by decide +kernel)) (fn)))))))))))))))))))))))))))))))))
def kX4_most : Cd := [(0, s_aload 0 1), (1, s_pushi 1 2), (2, s_iload 1 3), (3, s_pushi 1 4), (4, s_inv mX4_orderFinding 4 3 7), (7, s_istore 2 8), (8, s_iload 2 9), (9, s_if (fun x => x = 0) 16 12), (12, s_iload 2 13), (13, s_goto 21), (16, s_aload 0 17), (17, s_iload 1 18), (18, s_inv mX4_searchMost 4 1 21), (21, s_iret)]
set_option maxRecDepth 20000 in
theorem zX4_most : ∀ q ∈ kX4_most, Snd RX4 cX4_most 3 (some .int) (rmM mX4_most) q.1 q.2 :=
  fm (z_aload_n (j := 0) (by decide +kernel) rfl) (
  fm (z_iconst (n := 1) (by decide +kernel) (by decide)) (
  fm (z_iload_n (j := 1) (by decide +kernel) rfl) (
  fm (z_iconst (n := 1) (by decide +kernel) (by decide)) (
  fm (z_inv (idx := 155) rfl (by decide +kernel) wd_2_120 wd_2_122 ws_5 wd_1_1 wd_2_123 (by decide +kernel) ⟨Nat.le_of_ble_eq_true rfl, Nat.le_of_ble_eq_true rfl⟩) (
  fm (z_istore_n (j := 2) (by decide +kernel) rfl (by decide)) (
  fm (z_iload_n (j := 2) (by decide +kernel) rfl) (
  fm (z_if_eq (off := 7) (by decide +kernel) (by decide)) (
  fm (z_iload_n (j := 2) (by decide +kernel) rfl) (
  fm (z_goto (off := 8) (by decide +kernel) (by decide)) (
  fm (z_aload_n (j := 0) (by decide +kernel) rfl) (
  fm (z_iload_n (j := 1) (by decide +kernel) rfl) (
  fm (z_inv (idx := 159) rfl (by decide +kernel) wd_2_124 wd_2_126 ws_6 wd_1_1 wd_2_127 (by decide +kernel) ⟨Nat.le_of_ble_eq_true rfl, Nat.le_of_ble_eq_true rfl⟩) (
  fm (z_iret rfl (by decide +kernel)) (fn))))))))))))))
def kX4_never : Cd := [(0, s_aload 0 1), (1, s_aload 0 2), (2, s_iload 1 3), (3, s_iload 2 4), (4, s_inv mX4_isPair 4 2 7), (7, s_iload 3 8), (8, s_pushi 0 9), (9, s_inv mX4_orderFinding 4 3 12), (12, s_istore 4 14), (14, s_iload 4 16), (16, s_if (fun x => x = 0) 22 19), (19, s_iload 4 21), (21, s_iret), (22, s_pushi 0 23), (23, s_istore 5 25), (25, s_aload 0 26), (26, s_getf 4 3 29), (29, s_aload 0 30), (30, s_getf 4 0 33), (33, s_getf 2 9 36), (36, s_inv mX0_begin 0 1 39), (39, s_istore 6 41), (41, s_pushi 0 42), (42, s_istore 7 44), (44, s_iload 7 46), (46, s_iload 6 48), (48, s_icmp (fun x y => y ≤ x) 81 51), (51, s_aload 0 52), (52, s_inv mX4_tryOrder 4 0 55), (55, s_aload 0 56), (56, s_iload 1 57), (57, s_iload 2 58), (58, s_iload 3 59), (59, s_inv mX4_firstBeside 4 3 62), (62, s_if (fun x => 0 ≤ x) 68 65), (65, s_iinc 5 1 68), (68, s_aload 0 69), (69, s_getf 4 3 72), (72, s_inv mX0_advance 0 0 75), (75, s_iinc 7 1 78), (78, s_goto 44), (81, s_iload 5 83), (83, s_iret)]
set_option maxRecDepth 20000 in
theorem zX4_never : ∀ q ∈ kX4_never, Snd RX4 cX4_never 8 (some .int) (rmM mX4_never) q.1 q.2 :=
  fm (z_aload_n (j := 0) (by decide +kernel) rfl) (
  fm (z_aload_n (j := 0) (by decide +kernel) rfl) (
  fm (z_iload_n (j := 1) (by decide +kernel) rfl) (
  fm (z_iload_n (j := 2) (by decide +kernel) rfl) (
  fm (z_inv (idx := 187) rfl (by decide +kernel) wd_2_197 wd_2_199 ws_10 wd_1_1 wd_2_200 (by decide +kernel) ⟨Nat.le_of_ble_eq_true rfl, Nat.le_of_ble_eq_true rfl⟩) (
  fm (z_iload_n (j := 3) (by decide +kernel) rfl) (
  fm (z_iconst (n := 0) (by decide +kernel) (by decide)) (
  fm (z_inv (idx := 155) rfl (by decide +kernel) wd_2_120 wd_2_122 ws_5 wd_1_1 wd_2_123 (by decide +kernel) ⟨Nat.le_of_ble_eq_true rfl, Nat.le_of_ble_eq_true rfl⟩) (
  fm (z_istore (i := 4) (by decide +kernel) (by decide)) (
  fm (z_iload (i := 4) (by decide +kernel)) (
  fm (z_if_eq (off := 6) (by decide +kernel) (by decide)) (
  fm (z_iload (i := 4) (by decide +kernel)) (
  fm (z_iret rfl (by decide +kernel)) (
  fm (z_iconst (n := 0) (by decide +kernel) (by decide)) (
  fm (z_istore (i := 5) (by decide +kernel) (by decide)) (
  fm (z_aload_n (j := 0) (by decide +kernel) rfl) (
  fm (z_getf (idx := 25) awX4 rfl (by decide) wd_1_149 rfl (by decide +kernel)) (
  fm (z_aload_n (j := 0) (by decide +kernel) rfl) (
  fm (z_getf (idx := 10) awX4 rfl (by decide) wd_1_146 rfl (by decide +kernel)) (
  fm (z_getf (idx := 77) awX2 rfl (by decide) wd_1_54 rfl (by decide +kernel)) (
  fm (z_inv (idx := 165) rfl (by decide +kernel) wd_2_128 wd_2_129 wd_2_130 wd_1_4 wd_2_131 (by decide +kernel) ⟨Nat.le_of_ble_eq_true rfl, Nat.le_of_ble_eq_true rfl⟩) (
  fm (z_istore (i := 6) (by decide +kernel) (by decide)) (
  fm (z_iconst (n := 0) (by decide +kernel) (by decide)) (
  fm (z_istore (i := 7) (by decide +kernel) (by decide)) (
  fm (z_iload (i := 7) (by decide +kernel)) (
  fm (z_iload (i := 6) (by decide +kernel)) (
  fm (z_icmp_ge (off := 33) (by decide +kernel) (by decide)) (
  fm (z_aload_n (j := 0) (by decide +kernel) rfl) (
  fm (z_inv (idx := 168) rfl (by decide +kernel) wd_2_132 wd_2_134 ws_7 wd_1_1 wd_2_135 (by decide +kernel) ⟨Nat.le_of_ble_eq_true rfl, Nat.le_of_ble_eq_true rfl⟩) (
  fm (z_aload_n (j := 0) (by decide +kernel) rfl) (
  fm (z_iload_n (j := 1) (by decide +kernel) rfl) (
  fm (z_iload_n (j := 2) (by decide +kernel) rfl) (
  fm (z_iload_n (j := 3) (by decide +kernel) rfl) (
  fm (z_inv (idx := 191) rfl (by decide +kernel) wd_2_201 wd_2_203 ws_11 wd_1_1 wd_2_204 (by decide +kernel) ⟨Nat.le_of_ble_eq_true rfl, Nat.le_of_ble_eq_true rfl⟩) (
  fm (z_if_ge (off := 6) (by decide +kernel) (by decide)) (
  fm (z_iinc (n := 1) (by decide +kernel) (by decide) (by decide)) (
  fm (z_aload_n (j := 0) (by decide +kernel) rfl) (
  fm (z_getf (idx := 25) awX4 rfl (by decide) wd_1_149 rfl (by decide +kernel)) (
  fm (z_inv (idx := 171) rfl (by decide +kernel) wd_2_141 wd_2_142 wd_2_143 wd_1_4 wd_2_144 (by decide +kernel) ⟨Nat.le_of_ble_eq_true rfl, Nat.le_of_ble_eq_true rfl⟩) (
  fm (z_iinc (n := 1) (by decide +kernel) (by decide) (by decide)) (
  fm (z_goto (off := (-34)) (by decide +kernel) (by decide)) (
  fm (z_iload (i := 5) (by decide +kernel)) (
  fm (z_iret rfl (by decide +kernel)) (fn)))))))))))))))))))))))))))))))))))))))))))
def kX4_of : Cd := [(0, s_aload 0 1), (1, s_iload 1 2), (2, s_inv mX4_isStall 4 1 5), (5, s_if (fun x => x = 0) 8 14), (8, s_aload 0 9), (9, s_pushi 0 10), (10, s_inv mX4_finding 4 1 13), (13, s_iret), (14, s_iload 2 15), (15, s_sw [(0, 56), (1, 66), (2, 76), (3, 86), (4, 96), (5, 106), (6, 115)] 132), (56, s_aload 0 57), (57, s_getf 4 0 60), (60, s_getf 2 2 63), (63, s_iload 1 64), (64, s_iald 65), (65, s_iret), (66, s_aload 0 67), (67, s_getf 4 0 70), (70, s_getf 2 3 73), (73, s_iload 1 74), (74, s_iald 75), (75, s_iret), (76, s_aload 0 77), (77, s_getf 4 0 80), (80, s_getf 2 4 83), (83, s_iload 1 84), (84, s_iald 85), (85, s_iret), (86, s_aload 0 87), (87, s_getf 4 0 90), (90, s_getf 2 5 93), (93, s_iload 1 94), (94, s_iald 95), (95, s_iret), (96, s_aload 0 97), (97, s_getf 4 0 100), (100, s_getf 2 6 103), (103, s_iload 1 104), (104, s_iald 105), (105, s_iret), (106, s_aload 0 107), (107, s_getf 4 0 110), (110, s_iload 1 111), (111, s_inv mX2_priceOf 2 1 114), (114, s_iret), (115, s_aload 0 116), (116, s_getf 4 0 119), (119, s_iload 1 120), (120, s_inv mX2_wouldGo 2 1 123), (123, s_if (fun x => x = 0) 130 126), (126, s_pushi 1 127), (127, s_goto 131), (130, s_pushi 0 131), (131, s_iret), (132, s_aload 0 133), (133, s_pushi 0 134), (134, s_inv mX4_finding 4 1 137), (137, s_iret)]
set_option maxRecDepth 20000 in
theorem zX4_of : ∀ q ∈ kX4_of, Snd RX4 cX4_of 3 (some .int) (rmM mX4_of) q.1 q.2 :=
  fm (z_aload_n (j := 0) (by decide +kernel) rfl) (
  fm (z_iload_n (j := 1) (by decide +kernel) rfl) (
  fm (z_inv (idx := 84) rfl (by decide +kernel) wd_1_216 wd_1_218 ws_1 wd_1_1 wd_1_219 (by decide +kernel) ⟨Nat.le_of_ble_eq_true rfl, Nat.le_of_ble_eq_true rfl⟩) (
  fm (z_if_ne (off := 9) (by decide +kernel) (by decide)) (
  fm (z_aload_n (j := 0) (by decide +kernel) rfl) (
  fm (z_iconst (n := 0) (by decide +kernel) (by decide)) (
  fm (z_inv (idx := 57) rfl (by decide +kernel) wd_1_184 wd_1_186 ws_0 wd_1_1 wd_1_187 (by decide +kernel) ⟨Nat.le_of_ble_eq_true rfl, Nat.le_of_ble_eq_true rfl⟩) (
  fm (z_iret rfl (by decide +kernel)) (
  fm (z_iload_n (j := 2) (by decide +kernel) rfl) (
  fm (z_tsw (dflt := 117) (lo := 0) (hi := 6) (offs := #[41, 51, 61, 71, 81, 91, 100]) (len := 41) (by decide +kernel) (by decide) rfl (by decide) (by decide +kernel)) (
  fm (z_aload_n (j := 0) (by decide +kernel) rfl) (
  fm (z_getf (idx := 10) awX4 rfl (by decide) wd_1_146 rfl (by decide +kernel)) (
  fm (z_getf (idx := 87) awX2 rfl (by decide) wd_1_38 rfl (by decide +kernel)) (
  fm (z_iload_n (j := 1) (by decide +kernel) rfl) (
  fm (z_iald (by decide +kernel)) (
  fm (z_iret rfl (by decide +kernel)) (
  fm (z_aload_n (j := 0) (by decide +kernel) rfl) (
  fm (z_getf (idx := 10) awX4 rfl (by decide) wd_1_146 rfl (by decide +kernel)) (
  fm (z_getf (idx := 90) awX2 rfl (by decide) wd_1_40 rfl (by decide +kernel)) (
  fm (z_iload_n (j := 1) (by decide +kernel) rfl) (
  fm (z_iald (by decide +kernel)) (
  fm (z_iret rfl (by decide +kernel)) (
  fm (z_aload_n (j := 0) (by decide +kernel) rfl) (
  fm (z_getf (idx := 10) awX4 rfl (by decide) wd_1_146 rfl (by decide +kernel)) (
  fm (z_getf (idx := 93) awX2 rfl (by decide) wd_1_42 rfl (by decide +kernel)) (
  fm (z_iload_n (j := 1) (by decide +kernel) rfl) (
  fm (z_iald (by decide +kernel)) (
  fm (z_iret rfl (by decide +kernel)) (
  fm (z_aload_n (j := 0) (by decide +kernel) rfl) (
  fm (z_getf (idx := 10) awX4 rfl (by decide) wd_1_146 rfl (by decide +kernel)) (
  fm (z_getf (idx := 96) awX2 rfl (by decide) wd_1_45 rfl (by decide +kernel)) (
  fm (z_iload_n (j := 1) (by decide +kernel) rfl) (
  fm (z_iald (by decide +kernel)) (
  fm (z_iret rfl (by decide +kernel)) (
  fm (z_aload_n (j := 0) (by decide +kernel) rfl) (
  fm (z_getf (idx := 10) awX4 rfl (by decide) wd_1_146 rfl (by decide +kernel)) (
  fm (z_getf (idx := 99) awX2 rfl (by decide) wd_1_47 rfl (by decide +kernel)) (
  fm (z_iload_n (j := 1) (by decide +kernel) rfl) (
  fm (z_iald (by decide +kernel)) (
  fm (z_iret rfl (by decide +kernel)) (
  fm (z_aload_n (j := 0) (by decide +kernel) rfl) (
  fm (z_getf (idx := 10) awX4 rfl (by decide) wd_1_146 rfl (by decide +kernel)) (
  fm (z_iload_n (j := 1) (by decide +kernel) rfl) (
  fm (z_inv (idx := 102) rfl (by decide +kernel) wd_1_220 wd_1_221 wd_1_222 wd_1_2 wd_1_223 (by decide +kernel) ⟨Nat.le_of_ble_eq_true rfl, Nat.le_of_ble_eq_true rfl⟩) (
  fm (z_iret rfl (by decide +kernel)) (
  fm (z_aload_n (j := 0) (by decide +kernel) rfl) (
  fm (z_getf (idx := 10) awX4 rfl (by decide) wd_1_146 rfl (by decide +kernel)) (
  fm (z_iload_n (j := 1) (by decide +kernel) rfl) (
  fm (z_inv (idx := 105) rfl (by decide +kernel) wd_1_226 wd_1_227 wd_1_228 wd_1_2 wd_1_229 (by decide +kernel) ⟨Nat.le_of_ble_eq_true rfl, Nat.le_of_ble_eq_true rfl⟩) (
  fm (z_if_eq (off := 7) (by decide +kernel) (by decide)) (
  fm (z_iconst (n := 1) (by decide +kernel) (by decide)) (
  fm (z_goto (off := 4) (by decide +kernel) (by decide)) (
  fm (z_iconst (n := 0) (by decide +kernel) (by decide)) (
  fm (z_iret rfl (by decide +kernel)) (
  fm (z_aload_n (j := 0) (by decide +kernel) rfl) (
  fm (z_iconst (n := 0) (by decide +kernel) (by decide)) (
  fm (z_inv (idx := 57) rfl (by decide +kernel) wd_1_184 wd_1_186 ws_0 wd_1_1 wd_1_187 (by decide +kernel) ⟨Nat.le_of_ble_eq_true rfl, Nat.le_of_ble_eq_true rfl⟩) (
  fm (z_iret rfl (by decide +kernel)) (fn))))))))))))))))))))))))))))))))))))))))))))))))))))))))))
def kX4_offers : Cd := [(0, s_aload 0 1), (1, s_iload 1 2), (2, s_inv mX4_isStall 4 1 5), (5, s_if (fun x => x = 0) 15 8), (8, s_iload 2 9), (9, s_invS mX4_isPlace 1 12), (12, s_if (fun x => x = 0) 15 21), (15, s_aload 0 16), (16, s_pushi 0 17), (17, s_inv mX4_finding 4 1 20), (20, s_iret), (21, s_aload 0 22), (22, s_getf 4 0 25), (25, s_aload 0 26), (26, s_getf 4 0 29), (29, s_getf 2 2 32), (32, s_iload 1 33), (33, s_iald 34), (34, s_iload 2 35), (35, s_inv mX2_offerAt 2 2 38), (38, s_iret)]
set_option maxRecDepth 20000 in
theorem zX4_offers : ∀ q ∈ kX4_offers, Snd RX4 cX4_offers 3 (some .int) (rmM mX4_offers) q.1 q.2 :=
  fm (z_aload_n (j := 0) (by decide +kernel) rfl) (
  fm (z_iload_n (j := 1) (by decide +kernel) rfl) (
  fm (z_inv (idx := 84) rfl (by decide +kernel) wd_1_216 wd_1_218 ws_1 wd_1_1 wd_1_219 (by decide +kernel) ⟨Nat.le_of_ble_eq_true rfl, Nat.le_of_ble_eq_true rfl⟩) (
  fm (z_if_eq (off := 10) (by decide +kernel) (by decide)) (
  fm (z_iload_n (j := 2) (by decide +kernel) rfl) (
  fm (z_invS (idx := 53) (by decide +kernel) wd_1_181 wd_1_182 wd_1_1 wd_1_183 (by decide +kernel) ⟨Nat.le_of_ble_eq_true rfl, Nat.le_of_ble_eq_true rfl⟩) (
  fm (z_if_ne (off := 9) (by decide +kernel) (by decide)) (
  fm (z_aload_n (j := 0) (by decide +kernel) rfl) (
  fm (z_iconst (n := 0) (by decide +kernel) (by decide)) (
  fm (z_inv (idx := 57) rfl (by decide +kernel) wd_1_184 wd_1_186 ws_0 wd_1_1 wd_1_187 (by decide +kernel) ⟨Nat.le_of_ble_eq_true rfl, Nat.le_of_ble_eq_true rfl⟩) (
  fm (z_iret rfl (by decide +kernel)) (
  fm (z_aload_n (j := 0) (by decide +kernel) rfl) (
  fm (z_getf (idx := 10) awX4 rfl (by decide) wd_1_146 rfl (by decide +kernel)) (
  fm (z_aload_n (j := 0) (by decide +kernel) rfl) (
  fm (z_getf (idx := 10) awX4 rfl (by decide) wd_1_146 rfl (by decide +kernel)) (
  fm (z_getf (idx := 87) awX2 rfl (by decide) wd_1_38 rfl (by decide +kernel)) (
  fm (z_iload_n (j := 1) (by decide +kernel) rfl) (
  fm (z_iald (by decide +kernel)) (
  fm (z_iload_n (j := 2) (by decide +kernel) rfl) (
  fm (z_inv (idx := 112) rfl (by decide +kernel) wd_2_6 wd_2_7 wd_2_8 wd_1_2 wd_2_9 (by decide +kernel) ⟨Nat.le_of_ble_eq_true rfl, Nat.le_of_ble_eq_true rfl⟩) (
  fm (z_iret rfl (by decide +kernel)) (fn)))))))))))))))))))))
def kX4_order : Cd := [(0, s_aload 0 1), (1, s_aload 0 2), (2, s_iload 1 3), (3, s_inv mX4_isStall 4 1 6), (6, s_iload 2 7), (7, s_pushi 1 8), (8, s_inv mX4_orderFinding 4 3 11), (11, s_istore 3 12), (12, s_iload 3 13), (13, s_if (fun x => x = 0) 18 16), (16, s_iload 3 17), (17, s_iret), (18, s_aload 0 19), (19, s_iload 2 20), (20, s_inv mX4_searchMost 4 1 23), (23, s_pop 24), (24, s_aload 0 25), (25, s_getf 4 4 28), (28, s_getf 0 0 31), (31, s_iload 1 32), (32, s_iald 33), (33, s_iret)]
set_option maxRecDepth 20000 in
theorem zX4_order : ∀ q ∈ kX4_order, Snd RX4 cX4_order 4 (some .int) (rmM mX4_order) q.1 q.2 :=
  fm (z_aload_n (j := 0) (by decide +kernel) rfl) (
  fm (z_aload_n (j := 0) (by decide +kernel) rfl) (
  fm (z_iload_n (j := 1) (by decide +kernel) rfl) (
  fm (z_inv (idx := 84) rfl (by decide +kernel) wd_1_216 wd_1_218 ws_1 wd_1_1 wd_1_219 (by decide +kernel) ⟨Nat.le_of_ble_eq_true rfl, Nat.le_of_ble_eq_true rfl⟩) (
  fm (z_iload_n (j := 2) (by decide +kernel) rfl) (
  fm (z_iconst (n := 1) (by decide +kernel) (by decide)) (
  fm (z_inv (idx := 155) rfl (by decide +kernel) wd_2_120 wd_2_122 ws_5 wd_1_1 wd_2_123 (by decide +kernel) ⟨Nat.le_of_ble_eq_true rfl, Nat.le_of_ble_eq_true rfl⟩) (
  fm (z_istore_n (j := 3) (by decide +kernel) rfl (by decide)) (
  fm (z_iload_n (j := 3) (by decide +kernel) rfl) (
  fm (z_if_eq (off := 5) (by decide +kernel) (by decide)) (
  fm (z_iload_n (j := 3) (by decide +kernel) rfl) (
  fm (z_iret rfl (by decide +kernel)) (
  fm (z_aload_n (j := 0) (by decide +kernel) rfl) (
  fm (z_iload_n (j := 2) (by decide +kernel) rfl) (
  fm (z_inv (idx := 159) rfl (by decide +kernel) wd_2_124 wd_2_126 ws_6 wd_1_1 wd_2_127 (by decide +kernel) ⟨Nat.le_of_ble_eq_true rfl, Nat.le_of_ble_eq_true rfl⟩) (
  fm (z_pop (by decide +kernel)) (
  fm (z_aload_n (j := 0) (by decide +kernel) rfl) (
  fm (z_getf (idx := 29) awX4 rfl (by decide) wd_1_150 rfl (by decide +kernel)) (
  fm (z_getf (idx := 162) awX0 rfl (by decide) wd_1_93 rfl (by decide +kernel)) (
  fm (z_iload_n (j := 1) (by decide +kernel) rfl) (
  fm (z_iald (by decide +kernel)) (
  fm (z_iret rfl (by decide +kernel)) (fn))))))))))))))))))))))
def kX4_orderFinding : Cd := [(0, s_aload 0 1), (1, s_iload 1 2), (2, s_iload 2 3), (3, s_iload 3 4), (4, s_pushi 24 6), (6, s_inv mX4_aheadFinding 4 4 9), (9, s_istore 4 11), (11, s_iload 4 13), (13, s_if (fun x => x = 0) 19 16), (16, s_iload 4 18), (18, s_iret), (19, s_aload 0 20), (20, s_getf 4 0 23), (23, s_getf 2 9 26), (26, s_pushi 6 28), (28, s_icmp (fun x y => x ≤ y) 40 31), (31, s_aload 0 32), (32, s_pushi 6 34), (34, s_inv mX4_finding 4 1 37), (37, s_goto 41), (40, s_pushi 0 41), (41, s_iret)]
set_option maxRecDepth 20000 in
theorem zX4_orderFinding : ∀ q ∈ kX4_orderFinding, Snd RX4 cX4_orderFinding 5 (some .int) (rmM mX4_orderFinding) q.1 q.2 :=
  fm (z_aload_n (j := 0) (by decide +kernel) rfl) (
  fm (z_iload_n (j := 1) (by decide +kernel) rfl) (
  fm (z_iload_n (j := 2) (by decide +kernel) rfl) (
  fm (z_iload_n (j := 3) (by decide +kernel) rfl) (
  fm (z_bipush (n := 24) (by decide +kernel) (by decide)) (
  fm (z_inv (idx := 115) rfl (by decide +kernel) wd_2_22 wd_2_24 ws_3 wd_1_1 wd_2_25 (by decide +kernel) ⟨Nat.le_of_ble_eq_true rfl, Nat.le_of_ble_eq_true rfl⟩) (
  fm (z_istore (i := 4) (by decide +kernel) (by decide)) (
  fm (z_iload (i := 4) (by decide +kernel)) (
  fm (z_if_eq (off := 6) (by decide +kernel) (by decide)) (
  fm (z_iload (i := 4) (by decide +kernel)) (
  fm (z_iret rfl (by decide +kernel)) (
  fm (z_aload_n (j := 0) (by decide +kernel) rfl) (
  fm (z_getf (idx := 10) awX4 rfl (by decide) wd_1_146 rfl (by decide +kernel)) (
  fm (z_getf (idx := 77) awX2 rfl (by decide) wd_1_54 rfl (by decide +kernel)) (
  fm (z_bipush (n := 6) (by decide +kernel) (by decide)) (
  fm (z_icmp_le (off := 12) (by decide +kernel) (by decide)) (
  fm (z_aload_n (j := 0) (by decide +kernel) rfl) (
  fm (z_bipush (n := 6) (by decide +kernel) (by decide)) (
  fm (z_inv (idx := 57) rfl (by decide +kernel) wd_1_184 wd_1_186 ws_0 wd_1_1 wd_1_187 (by decide +kernel) ⟨Nat.le_of_ble_eq_true rfl, Nat.le_of_ble_eq_true rfl⟩) (
  fm (z_goto (off := 4) (by decide +kernel) (by decide)) (
  fm (z_iconst (n := 0) (by decide +kernel) (by decide)) (
  fm (z_iret rfl (by decide +kernel)) (fn))))))))))))))))))))))
def kX4_passes : Cd := [(0, s_aload 0 1), (1, s_iload 1 2), (2, s_inv mX4_isStall 4 1 5), (5, s_if (fun x => x = 0) 8 14), (8, s_aload 0 9), (9, s_pushi 0 10), (10, s_inv mX4_finding 4 1 13), (13, s_iret), (14, s_aload 0 15), (15, s_getf 4 1 18), (18, s_aload 0 19), (19, s_getf 4 0 22), (22, s_inv mX2_become 2 1 25), (25, s_aload 0 26), (26, s_getf 4 1 29), (29, s_inv mX2_sellAll 2 0 32), (32, s_pop 33), (33, s_aload 0 34), (34, s_getf 4 1 37), (37, s_inv mX2_stayers 2 0 40), (40, s_istore 2 41), (41, s_iload 2 42), (42, s_iload 1 43), (43, s_bin (fun x y => x >>> (y &&& 31)) 44), (44, s_pushi 1 45), (45, s_bin (fun x y => x &&& y) 46), (46, s_pushi 1 47), (47, s_icmp (fun x y => x = y) 50 52), (50, s_pushi 0 51), (51, s_iret), (52, s_aload 0 53), (53, s_getf 4 1 56), (56, s_aload 0 57), (57, s_getf 4 1 60), (60, s_getf 2 3 63), (63, s_iload 1 64), (64, s_iald 65), (65, s_aload 0 66), (66, s_getf 4 1 69), (69, s_iload 2 70), (70, s_inv mX2_placesOf 2 1 73), (73, s_inv mX2_stepsFrom 2 2 76), (76, s_istore 3 77), (77, s_iload 3 78), (78, s_pushi 1 79), (79, s_bin (fun x y => x - y) 80), (80, s_iret)]
set_option maxRecDepth 20000 in
theorem zX4_passes : ∀ q ∈ kX4_passes, Snd RX4 cX4_passes 4 (some .int) (rmM mX4_passes) q.1 q.2 :=
  fm (z_aload_n (j := 0) (by decide +kernel) rfl) (
  fm (z_iload_n (j := 1) (by decide +kernel) rfl) (
  fm (z_inv (idx := 84) rfl (by decide +kernel) wd_1_216 wd_1_218 ws_1 wd_1_1 wd_1_219 (by decide +kernel) ⟨Nat.le_of_ble_eq_true rfl, Nat.le_of_ble_eq_true rfl⟩) (
  fm (z_if_ne (off := 9) (by decide +kernel) (by decide)) (
  fm (z_aload_n (j := 0) (by decide +kernel) rfl) (
  fm (z_iconst (n := 0) (by decide +kernel) (by decide)) (
  fm (z_inv (idx := 57) rfl (by decide +kernel) wd_1_184 wd_1_186 ws_0 wd_1_1 wd_1_187 (by decide +kernel) ⟨Nat.le_of_ble_eq_true rfl, Nat.le_of_ble_eq_true rfl⟩) (
  fm (z_iret rfl (by decide +kernel)) (
  fm (z_aload_n (j := 0) (by decide +kernel) rfl) (
  fm (z_getf (idx := 16) awX4 rfl (by decide) wd_1_147 rfl (by decide +kernel)) (
  fm (z_aload_n (j := 0) (by decide +kernel) rfl) (
  fm (z_getf (idx := 10) awX4 rfl (by decide) wd_1_146 rfl (by decide +kernel)) (
  fm (z_inv (idx := 122) rfl (by decide +kernel) wd_2_64 wd_2_65 wd_2_66 wd_1_2 wd_2_67 (by decide +kernel) ⟨Nat.le_of_ble_eq_true rfl, Nat.le_of_ble_eq_true rfl⟩) (
  fm (z_aload_n (j := 0) (by decide +kernel) rfl) (
  fm (z_getf (idx := 16) awX4 rfl (by decide) wd_1_147 rfl (by decide +kernel)) (
  fm (z_inv (idx := 126) rfl (by decide +kernel) wd_2_71 wd_2_35 wd_2_36 wd_1_2 wd_2_37 (by decide +kernel) ⟨Nat.le_of_ble_eq_true rfl, Nat.le_of_ble_eq_true rfl⟩) (
  fm (z_pop (by decide +kernel)) (
  fm (z_aload_n (j := 0) (by decide +kernel) rfl) (
  fm (z_getf (idx := 16) awX4 rfl (by decide) wd_1_147 rfl (by decide +kernel)) (
  fm (z_inv (idx := 130) rfl (by decide +kernel) wd_2_72 wd_2_48 wd_2_49 wd_1_2 wd_2_50 (by decide +kernel) ⟨Nat.le_of_ble_eq_true rfl, Nat.le_of_ble_eq_true rfl⟩) (
  fm (z_istore_n (j := 2) (by decide +kernel) rfl (by decide)) (
  fm (z_iload_n (j := 2) (by decide +kernel) rfl) (
  fm (z_iload_n (j := 1) (by decide +kernel) rfl) (
  fm (z_ishr (by decide +kernel)) (
  fm (z_iconst (n := 1) (by decide +kernel) (by decide)) (
  fm (z_iand (by decide +kernel)) (
  fm (z_iconst (n := 1) (by decide +kernel) (by decide)) (
  fm (z_icmp_ne (off := 5) (by decide +kernel) (by decide)) (
  fm (z_iconst (n := 0) (by decide +kernel) (by decide)) (
  fm (z_iret rfl (by decide +kernel)) (
  fm (z_aload_n (j := 0) (by decide +kernel) rfl) (
  fm (z_getf (idx := 16) awX4 rfl (by decide) wd_1_147 rfl (by decide +kernel)) (
  fm (z_aload_n (j := 0) (by decide +kernel) rfl) (
  fm (z_getf (idx := 16) awX4 rfl (by decide) wd_1_147 rfl (by decide +kernel)) (
  fm (z_getf (idx := 90) awX2 rfl (by decide) wd_1_40 rfl (by decide +kernel)) (
  fm (z_iload_n (j := 1) (by decide +kernel) rfl) (
  fm (z_iald (by decide +kernel)) (
  fm (z_aload_n (j := 0) (by decide +kernel) rfl) (
  fm (z_getf (idx := 16) awX4 rfl (by decide) wd_1_147 rfl (by decide +kernel)) (
  fm (z_iload_n (j := 2) (by decide +kernel) rfl) (
  fm (z_inv (idx := 149) rfl (by decide +kernel) wd_2_114 wd_2_53 wd_2_54 wd_1_2 wd_2_55 (by decide +kernel) ⟨Nat.le_of_ble_eq_true rfl, Nat.le_of_ble_eq_true rfl⟩) (
  fm (z_inv (idx := 152) rfl (by decide +kernel) wd_2_115 wd_2_57 wd_2_58 wd_1_2 wd_2_59 (by decide +kernel) ⟨Nat.le_of_ble_eq_true rfl, Nat.le_of_ble_eq_true rfl⟩) (
  fm (z_istore_n (j := 3) (by decide +kernel) rfl (by decide)) (
  fm (z_iload_n (j := 3) (by decide +kernel) rfl) (
  fm (z_iconst (n := 1) (by decide +kernel) (by decide)) (
  fm (z_isub (by decide +kernel)) (
  fm (z_iret rfl (by decide +kernel)) (fn)))))))))))))))))))))))))))))))))))))))))))))))
def kX4_placeOf : Cd := [(0, s_iload 1 1), (1, s_invS mX4_isPlace 1 4), (4, s_if (fun x => x = 0) 7 13), (7, s_aload 0 8), (8, s_pushi 0 9), (9, s_inv mX4_finding 4 1 12), (12, s_iret), (13, s_iload 2 14), (14, s_sw [(0, 40), (1, 50), (2, 60)] 69), (40, s_aload 0 41), (41, s_getf 4 0 44), (44, s_getf 2 0 47), (47, s_iload 1 48), (48, s_iald 49), (49, s_iret), (50, s_aload 0 51), (51, s_getf 4 0 54), (54, s_getf 2 1 57), (57, s_iload 1 58), (58, s_iald 59), (59, s_iret), (60, s_aload 0 61), (61, s_getf 4 0 64), (64, s_iload 1 65), (65, s_inv mX2_stallAt 2 1 68), (68, s_iret), (69, s_aload 0 70), (70, s_pushi 0 71), (71, s_inv mX4_finding 4 1 74), (74, s_iret)]
set_option maxRecDepth 20000 in
theorem zX4_placeOf : ∀ q ∈ kX4_placeOf, Snd RX4 cX4_placeOf 3 (some .int) (rmM mX4_placeOf) q.1 q.2 :=
  fm (z_iload_n (j := 1) (by decide +kernel) rfl) (
  fm (z_invS (idx := 53) (by decide +kernel) wd_1_181 wd_1_182 wd_1_1 wd_1_183 (by decide +kernel) ⟨Nat.le_of_ble_eq_true rfl, Nat.le_of_ble_eq_true rfl⟩) (
  fm (z_if_ne (off := 9) (by decide +kernel) (by decide)) (
  fm (z_aload_n (j := 0) (by decide +kernel) rfl) (
  fm (z_iconst (n := 0) (by decide +kernel) (by decide)) (
  fm (z_inv (idx := 57) rfl (by decide +kernel) wd_1_184 wd_1_186 ws_0 wd_1_1 wd_1_187 (by decide +kernel) ⟨Nat.le_of_ble_eq_true rfl, Nat.le_of_ble_eq_true rfl⟩) (
  fm (z_iret rfl (by decide +kernel)) (
  fm (z_iload_n (j := 2) (by decide +kernel) rfl) (
  fm (z_tsw (dflt := 55) (lo := 0) (hi := 2) (offs := #[26, 36, 46]) (len := 26) (by decide +kernel) (by decide) rfl (by decide) (by decide +kernel)) (
  fm (z_aload_n (j := 0) (by decide +kernel) rfl) (
  fm (z_getf (idx := 10) awX4 rfl (by decide) wd_1_146 rfl (by decide +kernel)) (
  fm (z_getf (idx := 61) awX2 rfl (by decide) wd_1_32 rfl (by decide +kernel)) (
  fm (z_iload_n (j := 1) (by decide +kernel) rfl) (
  fm (z_iald (by decide +kernel)) (
  fm (z_iret rfl (by decide +kernel)) (
  fm (z_aload_n (j := 0) (by decide +kernel) rfl) (
  fm (z_getf (idx := 10) awX4 rfl (by decide) wd_1_146 rfl (by decide +kernel)) (
  fm (z_getf (idx := 64) awX2 rfl (by decide) wd_1_35 rfl (by decide +kernel)) (
  fm (z_iload_n (j := 1) (by decide +kernel) rfl) (
  fm (z_iald (by decide +kernel)) (
  fm (z_iret rfl (by decide +kernel)) (
  fm (z_aload_n (j := 0) (by decide +kernel) rfl) (
  fm (z_getf (idx := 10) awX4 rfl (by decide) wd_1_146 rfl (by decide +kernel)) (
  fm (z_iload_n (j := 1) (by decide +kernel) rfl) (
  fm (z_inv (idx := 74) rfl (by decide +kernel) wd_1_204 wd_1_205 wd_1_206 wd_1_2 wd_1_207 (by decide +kernel) ⟨Nat.le_of_ble_eq_true rfl, Nat.le_of_ble_eq_true rfl⟩) (
  fm (z_iret rfl (by decide +kernel)) (
  fm (z_aload_n (j := 0) (by decide +kernel) rfl) (
  fm (z_iconst (n := 0) (by decide +kernel) (by decide)) (
  fm (z_inv (idx := 57) rfl (by decide +kernel) wd_1_184 wd_1_186 ws_0 wd_1_1 wd_1_187 (by decide +kernel) ⟨Nat.le_of_ble_eq_true rfl, Nat.le_of_ble_eq_true rfl⟩) (
  fm (z_iret rfl (by decide +kernel)) (fn))))))))))))))))))))))))))))))
def kX4_searchMost : Cd := [(0, s_pushi (-1) 1), (1, s_istore 2 2), (2, s_aload 0 3), (3, s_getf 4 3 6), (6, s_aload 0 7), (7, s_getf 4 0 10), (10, s_getf 2 9 13), (13, s_inv mX0_begin 0 1 16), (16, s_istore 3 17), (17, s_pushi 0 18), (18, s_istore 4 20), (20, s_iload 4 22), (22, s_iload 3 23), (23, s_icmp (fun x y => y ≤ x) 73 26), (26, s_aload 0 27), (27, s_inv mX4_tryOrder 4 0 30), (30, s_aload 0 31), (31, s_getf 4 1 34), (34, s_iload 1 35), (35, s_inv mX2_passHours 2 1 38), (38, s_istore 5 40), (40, s_iload 5 42), (42, s_iload 2 43), (43, s_icmp (fun x y => x ≤ y) 60 46), (46, s_iload 5 48), (48, s_istore 2 49), (49, s_aload 0 50), (50, s_getf 4 4 53), (53, s_aload 0 54), (54, s_getf 4 3 57), (57, s_inv mX0_become 0 1 60), (60, s_aload 0 61), (61, s_getf 4 3 64), (64, s_inv mX0_advance 0 0 67), (67, s_iinc 4 1 70), (70, s_goto 20), (73, s_iload 2 74), (74, s_iret)]
set_option maxRecDepth 20000 in
theorem zX4_searchMost : ∀ q ∈ kX4_searchMost, Snd RX4 cX4_searchMost 6 (some .int) (rmM mX4_searchMost) q.1 q.2 :=
  fm (z_iconst (n := (-1)) (by decide +kernel) (by decide)) (
  fm (z_istore_n (j := 2) (by decide +kernel) rfl (by decide)) (
  fm (z_aload_n (j := 0) (by decide +kernel) rfl) (
  fm (z_getf (idx := 25) awX4 rfl (by decide) wd_1_149 rfl (by decide +kernel)) (
  fm (z_aload_n (j := 0) (by decide +kernel) rfl) (
  fm (z_getf (idx := 10) awX4 rfl (by decide) wd_1_146 rfl (by decide +kernel)) (
  fm (z_getf (idx := 77) awX2 rfl (by decide) wd_1_54 rfl (by decide +kernel)) (
  fm (z_inv (idx := 165) rfl (by decide +kernel) wd_2_128 wd_2_129 wd_2_130 wd_1_4 wd_2_131 (by decide +kernel) ⟨Nat.le_of_ble_eq_true rfl, Nat.le_of_ble_eq_true rfl⟩) (
  fm (z_istore_n (j := 3) (by decide +kernel) rfl (by decide)) (
  fm (z_iconst (n := 0) (by decide +kernel) (by decide)) (
  fm (z_istore (i := 4) (by decide +kernel) (by decide)) (
  fm (z_iload (i := 4) (by decide +kernel)) (
  fm (z_iload_n (j := 3) (by decide +kernel) rfl) (
  fm (z_icmp_ge (off := 50) (by decide +kernel) (by decide)) (
  fm (z_aload_n (j := 0) (by decide +kernel) rfl) (
  fm (z_inv (idx := 168) rfl (by decide +kernel) wd_2_132 wd_2_134 ws_7 wd_1_1 wd_2_135 (by decide +kernel) ⟨Nat.le_of_ble_eq_true rfl, Nat.le_of_ble_eq_true rfl⟩) (
  fm (z_aload_n (j := 0) (by decide +kernel) rfl) (
  fm (z_getf (idx := 16) awX4 rfl (by decide) wd_1_147 rfl (by decide +kernel)) (
  fm (z_iload_n (j := 1) (by decide +kernel) rfl) (
  fm (z_inv (idx := 119) rfl (by decide +kernel) wd_2_26 wd_2_27 wd_2_28 wd_1_2 wd_2_29 (by decide +kernel) ⟨Nat.le_of_ble_eq_true rfl, Nat.le_of_ble_eq_true rfl⟩) (
  fm (z_istore (i := 5) (by decide +kernel) (by decide)) (
  fm (z_iload (i := 5) (by decide +kernel)) (
  fm (z_iload_n (j := 2) (by decide +kernel) rfl) (
  fm (z_icmp_le (off := 17) (by decide +kernel) (by decide)) (
  fm (z_iload (i := 5) (by decide +kernel)) (
  fm (z_istore_n (j := 2) (by decide +kernel) rfl (by decide)) (
  fm (z_aload_n (j := 0) (by decide +kernel) rfl) (
  fm (z_getf (idx := 29) awX4 rfl (by decide) wd_1_150 rfl (by decide +kernel)) (
  fm (z_aload_n (j := 0) (by decide +kernel) rfl) (
  fm (z_getf (idx := 25) awX4 rfl (by decide) wd_1_149 rfl (by decide +kernel)) (
  fm (z_inv (idx := 274) rfl (by decide +kernel) wd_2_136 wd_2_137 wd_2_138 wd_1_4 wd_2_139 (by decide +kernel) ⟨Nat.le_of_ble_eq_true rfl, Nat.le_of_ble_eq_true rfl⟩) (
  fm (z_aload_n (j := 0) (by decide +kernel) rfl) (
  fm (z_getf (idx := 25) awX4 rfl (by decide) wd_1_149 rfl (by decide +kernel)) (
  fm (z_inv (idx := 171) rfl (by decide +kernel) wd_2_141 wd_2_142 wd_2_143 wd_1_4 wd_2_144 (by decide +kernel) ⟨Nat.le_of_ble_eq_true rfl, Nat.le_of_ble_eq_true rfl⟩) (
  fm (z_iinc (n := 1) (by decide +kernel) (by decide) (by decide)) (
  fm (z_goto (off := (-50)) (by decide +kernel) (by decide)) (
  fm (z_iload_n (j := 2) (by decide +kernel) rfl) (
  fm (z_iret rfl (by decide +kernel)) (fn))))))))))))))))))))))))))))))))))))))
def kX4_seed : Cd := [(0, s_aload 0 1), (1, s_getf 4 0 4), (4, s_getf 2 11 7), (7, s_istore 2 8), (8, s_aload 0 9), (9, s_getf 4 0 12), (12, s_iload 1 13), (13, s_putf .int 2 11 16), (16, s_iload 2 17), (17, s_iret)]
set_option maxRecDepth 20000 in
theorem zX4_seed : ∀ q ∈ kX4_seed, Snd RX4 cX4_seed 3 (some .int) (rmM mX4_seed) q.1 q.2 :=
  fm (z_aload_n (j := 0) (by decide +kernel) rfl) (
  fm (z_getf (idx := 10) awX4 rfl (by decide) wd_1_146 rfl (by decide +kernel)) (
  fm (z_getf (idx := 201) awX2 rfl (by decide) wd_1_59 rfl (by decide +kernel)) (
  fm (z_istore_n (j := 2) (by decide +kernel) rfl (by decide)) (
  fm (z_aload_n (j := 0) (by decide +kernel) rfl) (
  fm (z_getf (idx := 10) awX4 rfl (by decide) wd_1_146 rfl (by decide +kernel)) (
  fm (z_iload_n (j := 1) (by decide +kernel) rfl) (
  fm (z_putf (idx := 201) tyX2 tyX2_ok nmX2 awX2 rfl (by decide) wd_1_59 rfl rfl (by decide +kernel) (by decide +kernel)) (
  fm (z_iload_n (j := 2) (by decide +kernel) rfl) (
  fm (z_iret rfl (by decide +kernel)) (fn))))))))))
def kX4_shade : Cd := [(0, s_iload 1 1), (1, s_invS mX4_isPlace 1 4), (4, s_if (fun x => x = 0) 7 13), (7, s_aload 0 8), (8, s_pushi 0 9), (9, s_inv mX4_finding 4 1 12), (12, s_iret), (13, s_aload 0 14), (14, s_getf 4 0 17), (17, s_getf 2 1 20), (20, s_iload 1 21), (21, s_iald 22), (22, s_istore 3 23), (23, s_aload 0 24), (24, s_getf 4 0 27), (27, s_getf 2 1 30), (30, s_iload 1 31), (31, s_iload 2 32), (32, s_if (fun x => x = 0) 39 35), (35, s_pushi 1 36), (36, s_goto 40), (39, s_pushi 0 40), (40, s_iast 41), (41, s_iload 3 42), (42, s_iret)]
set_option maxRecDepth 20000 in
theorem zX4_shade : ∀ q ∈ kX4_shade, Snd RX4 cX4_shade 4 (some .int) (rmM mX4_shade) q.1 q.2 :=
  fm (z_iload_n (j := 1) (by decide +kernel) rfl) (
  fm (z_invS (idx := 53) (by decide +kernel) wd_1_181 wd_1_182 wd_1_1 wd_1_183 (by decide +kernel) ⟨Nat.le_of_ble_eq_true rfl, Nat.le_of_ble_eq_true rfl⟩) (
  fm (z_if_ne (off := 9) (by decide +kernel) (by decide)) (
  fm (z_aload_n (j := 0) (by decide +kernel) rfl) (
  fm (z_iconst (n := 0) (by decide +kernel) (by decide)) (
  fm (z_inv (idx := 57) rfl (by decide +kernel) wd_1_184 wd_1_186 ws_0 wd_1_1 wd_1_187 (by decide +kernel) ⟨Nat.le_of_ble_eq_true rfl, Nat.le_of_ble_eq_true rfl⟩) (
  fm (z_iret rfl (by decide +kernel)) (
  fm (z_aload_n (j := 0) (by decide +kernel) rfl) (
  fm (z_getf (idx := 10) awX4 rfl (by decide) wd_1_146 rfl (by decide +kernel)) (
  fm (z_getf (idx := 64) awX2 rfl (by decide) wd_1_35 rfl (by decide +kernel)) (
  fm (z_iload_n (j := 1) (by decide +kernel) rfl) (
  fm (z_iald (by decide +kernel)) (
  fm (z_istore_n (j := 3) (by decide +kernel) rfl (by decide)) (
  fm (z_aload_n (j := 0) (by decide +kernel) rfl) (
  fm (z_getf (idx := 10) awX4 rfl (by decide) wd_1_146 rfl (by decide +kernel)) (
  fm (z_getf (idx := 64) awX2 rfl (by decide) wd_1_35 rfl (by decide +kernel)) (
  fm (z_iload_n (j := 1) (by decide +kernel) rfl) (
  fm (z_iload_n (j := 2) (by decide +kernel) rfl) (
  fm (z_if_eq (off := 7) (by decide +kernel) (by decide)) (
  fm (z_iconst (n := 1) (by decide +kernel) (by decide)) (
  fm (z_goto (off := 4) (by decide +kernel) (by decide)) (
  fm (z_iconst (n := 0) (by decide +kernel) (by decide)) (
  fm (z_iast (by decide +kernel)) (
  fm (z_iload_n (j := 3) (by decide +kernel) rfl) (
  fm (z_iret rfl (by decide +kernel)) (fn)))))))))))))))))))))))))
def kX4_sheet : Cd := [(0, s_iload 1 1), (1, s_invS mX4_isSheet 1 4), (4, s_if (fun x => x = 0) 29 7), (7, s_iload 2 8), (8, s_if (fun x => x = 0) 35 11), (11, s_iload 2 12), (12, s_pushi 8 14), (14, s_icmp (fun x y => x = y) 35 17), (17, s_iload 2 18), (18, s_pushi 16 20), (20, s_icmp (fun x y => x = y) 35 23), (23, s_iload 2 24), (24, s_pushi 32 26), (26, s_icmp (fun x y => x = y) 35 29), (29, s_aload 0 30), (30, s_pushi 0 31), (31, s_inv mX4_finding 4 1 34), (34, s_iret), (35, s_iload 3 36), (36, s_if (fun x => 0 ≤ x) 46 39), (39, s_aload 0 40), (40, s_pushi 6 42), (42, s_inv mX4_finding 4 1 45), (45, s_iret), (46, s_iload 3 47), (47, s_pushi 40 49), (49, s_icmp (fun x y => x ≤ y) 58 52), (52, s_aload 0 53), (53, s_pushi 0 54), (54, s_inv mX4_finding 4 1 57), (57, s_iret), (58, s_aload 0 59), (59, s_getf 4 6 62), (62, s_iload 1 63), (63, s_aald 64), (64, s_iload 2 65), (65, s_iload 2 66), (66, s_if (fun x => x = 0) 69 73), (69, s_pushi 0 70), (70, s_goto 74), (73, s_iload 3 74), (74, s_inv mX1_begin 1 2 77), (77, s_aload 0 78), (78, s_getf 4 6 81), (81, s_iload 1 82), (82, s_aald 83), (83, s_getf 1 2 86), (86, s_iret)]
set_option maxRecDepth 20000 in
theorem zX4_sheet : ∀ q ∈ kX4_sheet, Snd RX4 cX4_sheet 4 (some .int) (rmM mX4_sheet) q.1 q.2 :=
  fm (z_iload_n (j := 1) (by decide +kernel) rfl) (
  fm (z_invS (idx := 224) (by decide +kernel) wd_3_162 wd_3_163 wd_1_1 wd_3_164 (by decide +kernel) ⟨Nat.le_of_ble_eq_true rfl, Nat.le_of_ble_eq_true rfl⟩) (
  fm (z_if_eq (off := 25) (by decide +kernel) (by decide)) (
  fm (z_iload_n (j := 2) (by decide +kernel) rfl) (
  fm (z_if_eq (off := 27) (by decide +kernel) (by decide)) (
  fm (z_iload_n (j := 2) (by decide +kernel) rfl) (
  fm (z_bipush (n := 8) (by decide +kernel) (by decide)) (
  fm (z_icmp_eq (off := 21) (by decide +kernel) (by decide)) (
  fm (z_iload_n (j := 2) (by decide +kernel) rfl) (
  fm (z_bipush (n := 16) (by decide +kernel) (by decide)) (
  fm (z_icmp_eq (off := 15) (by decide +kernel) (by decide)) (
  fm (z_iload_n (j := 2) (by decide +kernel) rfl) (
  fm (z_bipush (n := 32) (by decide +kernel) (by decide)) (
  fm (z_icmp_eq (off := 9) (by decide +kernel) (by decide)) (
  fm (z_aload_n (j := 0) (by decide +kernel) rfl) (
  fm (z_iconst (n := 0) (by decide +kernel) (by decide)) (
  fm (z_inv (idx := 57) rfl (by decide +kernel) wd_1_184 wd_1_186 ws_0 wd_1_1 wd_1_187 (by decide +kernel) ⟨Nat.le_of_ble_eq_true rfl, Nat.le_of_ble_eq_true rfl⟩) (
  fm (z_iret rfl (by decide +kernel)) (
  fm (z_iload_n (j := 3) (by decide +kernel) rfl) (
  fm (z_if_ge (off := 10) (by decide +kernel) (by decide)) (
  fm (z_aload_n (j := 0) (by decide +kernel) rfl) (
  fm (z_bipush (n := 6) (by decide +kernel) (by decide)) (
  fm (z_inv (idx := 57) rfl (by decide +kernel) wd_1_184 wd_1_186 ws_0 wd_1_1 wd_1_187 (by decide +kernel) ⟨Nat.le_of_ble_eq_true rfl, Nat.le_of_ble_eq_true rfl⟩) (
  fm (z_iret rfl (by decide +kernel)) (
  fm (z_iload_n (j := 3) (by decide +kernel) rfl) (
  fm (z_bipush (n := 40) (by decide +kernel) (by decide)) (
  fm (z_icmp_le (off := 9) (by decide +kernel) (by decide)) (
  fm (z_aload_n (j := 0) (by decide +kernel) rfl) (
  fm (z_iconst (n := 0) (by decide +kernel) (by decide)) (
  fm (z_inv (idx := 57) rfl (by decide +kernel) wd_1_184 wd_1_186 ws_0 wd_1_1 wd_1_187 (by decide +kernel) ⟨Nat.le_of_ble_eq_true rfl, Nat.le_of_ble_eq_true rfl⟩) (
  fm (z_iret rfl (by decide +kernel)) (
  fm (z_aload_n (j := 0) (by decide +kernel) rfl) (
  fm (z_getf (idx := 41) awX4 rfl (by decide) wd_1_152 rfl (by decide +kernel)) (
  fm (z_iload_n (j := 1) (by decide +kernel) rfl) (
  fm (z_aald (by decide +kernel)) (
  fm (z_iload_n (j := 2) (by decide +kernel) rfl) (
  fm (z_iload_n (j := 2) (by decide +kernel) rfl) (
  fm (z_if_ne (off := 7) (by decide +kernel) (by decide)) (
  fm (z_iconst (n := 0) (by decide +kernel) (by decide)) (
  fm (z_goto (off := 4) (by decide +kernel) (by decide)) (
  fm (z_iload_n (j := 3) (by decide +kernel) rfl) (
  fm (z_inv (idx := 227) rfl (by decide +kernel) wd_3_165 wd_3_166 wd_3_167 wd_1_6 wd_3_168 (by decide +kernel) ⟨Nat.le_of_ble_eq_true rfl, Nat.le_of_ble_eq_true rfl⟩) (
  fm (z_aload_n (j := 0) (by decide +kernel) rfl) (
  fm (z_getf (idx := 41) awX4 rfl (by decide) wd_1_152 rfl (by decide +kernel)) (
  fm (z_iload_n (j := 1) (by decide +kernel) rfl) (
  fm (z_aald (by decide +kernel)) (
  fm (z_getf (idx := 229) awX1 rfl (by decide) wd_1_138 rfl (by decide +kernel)) (
  fm (z_iret rfl (by decide +kernel)) (fn))))))))))))))))))))))))))))))))))))))))))))))))
def kX4_sheetFinding : Cd := [(0, s_iload 1 1), (1, s_invS mX4_isSheet 1 4), (4, s_if (fun x => x = 0) 7 13), (7, s_aload 0 8), (8, s_pushi 0 9), (9, s_inv mX4_finding 4 1 12), (12, s_iret), (13, s_aload 0 14), (14, s_getf 4 6 17), (17, s_iload 1 18), (18, s_aald 19), (19, s_getf 1 1 22), (22, s_if (fun x => x = 0) 25 33), (25, s_aload 0 26), (26, s_pushi 5 27), (27, s_inv mX4_finding 4 1 30), (30, s_goto 34), (33, s_pushi 0 34), (34, s_iret)]
set_option maxRecDepth 20000 in
theorem zX4_sheetFinding : ∀ q ∈ kX4_sheetFinding, Snd RX4 cX4_sheetFinding 2 (some .int) (rmM mX4_sheetFinding) q.1 q.2 :=
  fm (z_iload_n (j := 1) (by decide +kernel) rfl) (
  fm (z_invS (idx := 224) (by decide +kernel) wd_3_162 wd_3_163 wd_1_1 wd_3_164 (by decide +kernel) ⟨Nat.le_of_ble_eq_true rfl, Nat.le_of_ble_eq_true rfl⟩) (
  fm (z_if_ne (off := 9) (by decide +kernel) (by decide)) (
  fm (z_aload_n (j := 0) (by decide +kernel) rfl) (
  fm (z_iconst (n := 0) (by decide +kernel) (by decide)) (
  fm (z_inv (idx := 57) rfl (by decide +kernel) wd_1_184 wd_1_186 ws_0 wd_1_1 wd_1_187 (by decide +kernel) ⟨Nat.le_of_ble_eq_true rfl, Nat.le_of_ble_eq_true rfl⟩) (
  fm (z_iret rfl (by decide +kernel)) (
  fm (z_aload_n (j := 0) (by decide +kernel) rfl) (
  fm (z_getf (idx := 41) awX4 rfl (by decide) wd_1_152 rfl (by decide +kernel)) (
  fm (z_iload_n (j := 1) (by decide +kernel) rfl) (
  fm (z_aald (by decide +kernel)) (
  fm (z_getf (idx := 235) awX1 rfl (by decide) wd_1_136 rfl (by decide +kernel)) (
  fm (z_if_ne (off := 11) (by decide +kernel) (by decide)) (
  fm (z_aload_n (j := 0) (by decide +kernel) rfl) (
  fm (z_iconst (n := 5) (by decide +kernel) (by decide)) (
  fm (z_inv (idx := 57) rfl (by decide +kernel) wd_1_184 wd_1_186 ws_0 wd_1_1 wd_1_187 (by decide +kernel) ⟨Nat.le_of_ble_eq_true rfl, Nat.le_of_ble_eq_true rfl⟩) (
  fm (z_goto (off := 4) (by decide +kernel) (by decide)) (
  fm (z_iconst (n := 0) (by decide +kernel) (by decide)) (
  fm (z_iret rfl (by decide +kernel)) (fn)))))))))))))))))))
def kX4_spring : Cd := [(0, s_iload 1 1), (1, s_invS mX4_isPlace 1 4), (4, s_if (fun x => x = 0) 7 13), (7, s_aload 0 8), (8, s_pushi 0 9), (9, s_inv mX4_finding 4 1 12), (12, s_iret), (13, s_aload 0 14), (14, s_getf 4 0 17), (17, s_getf 2 8 20), (20, s_istore 2 21), (21, s_aload 0 22), (22, s_getf 4 0 25), (25, s_iload 1 26), (26, s_putf .int 2 8 29), (29, s_iload 2 30), (30, s_iret)]
set_option maxRecDepth 20000 in
theorem zX4_spring : ∀ q ∈ kX4_spring, Snd RX4 cX4_spring 3 (some .int) (rmM mX4_spring) q.1 q.2 :=
  fm (z_iload_n (j := 1) (by decide +kernel) rfl) (
  fm (z_invS (idx := 53) (by decide +kernel) wd_1_181 wd_1_182 wd_1_1 wd_1_183 (by decide +kernel) ⟨Nat.le_of_ble_eq_true rfl, Nat.le_of_ble_eq_true rfl⟩) (
  fm (z_if_ne (off := 9) (by decide +kernel) (by decide)) (
  fm (z_aload_n (j := 0) (by decide +kernel) rfl) (
  fm (z_iconst (n := 0) (by decide +kernel) (by decide)) (
  fm (z_inv (idx := 57) rfl (by decide +kernel) wd_1_184 wd_1_186 ws_0 wd_1_1 wd_1_187 (by decide +kernel) ⟨Nat.le_of_ble_eq_true rfl, Nat.le_of_ble_eq_true rfl⟩) (
  fm (z_iret rfl (by decide +kernel)) (
  fm (z_aload_n (j := 0) (by decide +kernel) rfl) (
  fm (z_getf (idx := 10) awX4 rfl (by decide) wd_1_146 rfl (by decide +kernel)) (
  fm (z_getf (idx := 67) awX2 rfl (by decide) wd_1_51 rfl (by decide +kernel)) (
  fm (z_istore_n (j := 2) (by decide +kernel) rfl (by decide)) (
  fm (z_aload_n (j := 0) (by decide +kernel) rfl) (
  fm (z_getf (idx := 10) awX4 rfl (by decide) wd_1_146 rfl (by decide +kernel)) (
  fm (z_iload_n (j := 1) (by decide +kernel) rfl) (
  fm (z_putf (idx := 67) tyX2 tyX2_ok nmX2 awX2 rfl (by decide) wd_1_51 rfl rfl (by decide +kernel) (by decide +kernel)) (
  fm (z_iload_n (j := 2) (by decide +kernel) rfl) (
  fm (z_iret rfl (by decide +kernel)) (fn)))))))))))))))))
def kX4_stall : Cd := [(0, s_iload 1 1), (1, s_invS mX4_isKind 1 4), (4, s_if (fun x => x = 0) 14 7), (7, s_iload 2 8), (8, s_invS mX4_isPlace 1 11), (11, s_if (fun x => x = 0) 14 20), (14, s_aload 0 15), (15, s_pushi 0 16), (16, s_inv mX4_finding 4 1 19), (19, s_iret), (20, s_aload 0 21), (21, s_getf 4 0 24), (24, s_iload 2 25), (25, s_inv mX2_stallAt 2 1 28), (28, s_if (fun x => x < 0) 37 31), (31, s_aload 0 32), (32, s_pushi 4 33), (33, s_inv mX4_finding 4 1 36), (36, s_iret), (37, s_aload 0 38), (38, s_getf 4 0 41), (41, s_getf 2 9 44), (44, s_pushi 8 46), (46, s_icmp (fun x y => x < y) 55 49), (49, s_aload 0 50), (50, s_pushi 1 51), (51, s_inv mX4_finding 4 1 54), (54, s_iret), (55, s_aload 0 56), (56, s_getf 4 0 59), (59, s_iload 1 60), (60, s_iload 2 61), (61, s_inv mX2_addStall 2 2 64), (64, s_iret)]
set_option maxRecDepth 20000 in
theorem zX4_stall : ∀ q ∈ kX4_stall, Snd RX4 cX4_stall 3 (some .int) (rmM mX4_stall) q.1 q.2 :=
  fm (z_iload_n (j := 1) (by decide +kernel) rfl) (
  fm (z_invS (idx := 71) (by decide +kernel) wd_1_201 wd_1_202 wd_1_1 wd_1_203 (by decide +kernel) ⟨Nat.le_of_ble_eq_true rfl, Nat.le_of_ble_eq_true rfl⟩) (
  fm (z_if_eq (off := 10) (by decide +kernel) (by decide)) (
  fm (z_iload_n (j := 2) (by decide +kernel) rfl) (
  fm (z_invS (idx := 53) (by decide +kernel) wd_1_181 wd_1_182 wd_1_1 wd_1_183 (by decide +kernel) ⟨Nat.le_of_ble_eq_true rfl, Nat.le_of_ble_eq_true rfl⟩) (
  fm (z_if_ne (off := 9) (by decide +kernel) (by decide)) (
  fm (z_aload_n (j := 0) (by decide +kernel) rfl) (
  fm (z_iconst (n := 0) (by decide +kernel) (by decide)) (
  fm (z_inv (idx := 57) rfl (by decide +kernel) wd_1_184 wd_1_186 ws_0 wd_1_1 wd_1_187 (by decide +kernel) ⟨Nat.le_of_ble_eq_true rfl, Nat.le_of_ble_eq_true rfl⟩) (
  fm (z_iret rfl (by decide +kernel)) (
  fm (z_aload_n (j := 0) (by decide +kernel) rfl) (
  fm (z_getf (idx := 10) awX4 rfl (by decide) wd_1_146 rfl (by decide +kernel)) (
  fm (z_iload_n (j := 2) (by decide +kernel) rfl) (
  fm (z_inv (idx := 74) rfl (by decide +kernel) wd_1_204 wd_1_205 wd_1_206 wd_1_2 wd_1_207 (by decide +kernel) ⟨Nat.le_of_ble_eq_true rfl, Nat.le_of_ble_eq_true rfl⟩) (
  fm (z_if_lt (off := 9) (by decide +kernel) (by decide)) (
  fm (z_aload_n (j := 0) (by decide +kernel) rfl) (
  fm (z_iconst (n := 4) (by decide +kernel) (by decide)) (
  fm (z_inv (idx := 57) rfl (by decide +kernel) wd_1_184 wd_1_186 ws_0 wd_1_1 wd_1_187 (by decide +kernel) ⟨Nat.le_of_ble_eq_true rfl, Nat.le_of_ble_eq_true rfl⟩) (
  fm (z_iret rfl (by decide +kernel)) (
  fm (z_aload_n (j := 0) (by decide +kernel) rfl) (
  fm (z_getf (idx := 10) awX4 rfl (by decide) wd_1_146 rfl (by decide +kernel)) (
  fm (z_getf (idx := 77) awX2 rfl (by decide) wd_1_54 rfl (by decide +kernel)) (
  fm (z_bipush (n := 8) (by decide +kernel) (by decide)) (
  fm (z_icmp_lt (off := 9) (by decide +kernel) (by decide)) (
  fm (z_aload_n (j := 0) (by decide +kernel) rfl) (
  fm (z_iconst (n := 1) (by decide +kernel) (by decide)) (
  fm (z_inv (idx := 57) rfl (by decide +kernel) wd_1_184 wd_1_186 ws_0 wd_1_1 wd_1_187 (by decide +kernel) ⟨Nat.le_of_ble_eq_true rfl, Nat.le_of_ble_eq_true rfl⟩) (
  fm (z_iret rfl (by decide +kernel)) (
  fm (z_aload_n (j := 0) (by decide +kernel) rfl) (
  fm (z_getf (idx := 10) awX4 rfl (by decide) wd_1_146 rfl (by decide +kernel)) (
  fm (z_iload_n (j := 1) (by decide +kernel) rfl) (
  fm (z_iload_n (j := 2) (by decide +kernel) rfl) (
  fm (z_inv (idx := 80) rfl (by decide +kernel) wd_1_208 wd_1_209 wd_1_210 wd_1_2 wd_1_211 (by decide +kernel) ⟨Nat.le_of_ble_eq_true rfl, Nat.le_of_ble_eq_true rfl⟩) (
  fm (z_iret rfl (by decide +kernel)) (fn))))))))))))))))))))))))))))))))))
def kX4_status : Cd := [(0, s_iload 1 1), (1, s_pushi (-1) 2), (2, s_icmp (fun x y => x < y) 11 5), (5, s_iload 1 6), (6, s_pushi 7 8), (8, s_icmp (fun x y => x < y) 17 11), (11, s_aload 0 12), (12, s_pushi 0 13), (13, s_inv mX4_finding 4 1 16), (16, s_iret), (17, s_iload 1 18), (18, s_if (fun x => x < 0) 28 21), (21, s_aload 0 22), (22, s_getf 4 8 25), (25, s_iload 1 26), (26, s_iald 27), (27, s_iret), (28, s_pushi 0 29), (29, s_istore 2 30), (30, s_pushi 0 31), (31, s_istore 3 32), (32, s_iload 3 33), (33, s_pushi 7 35), (35, s_icmp (fun x y => y ≤ x) 53 38), (38, s_iload 2 39), (39, s_aload 0 40), (40, s_getf 4 8 43), (43, s_iload 3 44), (44, s_iald 45), (45, s_bin (fun x y => x + y) 46), (46, s_istore 2 47), (47, s_iinc 3 1 50), (50, s_goto 32), (53, s_iload 2 54), (54, s_iret)]
set_option maxRecDepth 20000 in
theorem zX4_status : ∀ q ∈ kX4_status, Snd RX4 cX4_status 4 (some .int) (rmM mX4_status) q.1 q.2 :=
  fm (z_iload_n (j := 1) (by decide +kernel) rfl) (
  fm (z_iconst (n := (-1)) (by decide +kernel) (by decide)) (
  fm (z_icmp_lt (off := 9) (by decide +kernel) (by decide)) (
  fm (z_iload_n (j := 1) (by decide +kernel) rfl) (
  fm (z_bipush (n := 7) (by decide +kernel) (by decide)) (
  fm (z_icmp_lt (off := 9) (by decide +kernel) (by decide)) (
  fm (z_aload_n (j := 0) (by decide +kernel) rfl) (
  fm (z_iconst (n := 0) (by decide +kernel) (by decide)) (
  fm (z_inv (idx := 57) rfl (by decide +kernel) wd_1_184 wd_1_186 ws_0 wd_1_1 wd_1_187 (by decide +kernel) ⟨Nat.le_of_ble_eq_true rfl, Nat.le_of_ble_eq_true rfl⟩) (
  fm (z_iret rfl (by decide +kernel)) (
  fm (z_iload_n (j := 1) (by decide +kernel) rfl) (
  fm (z_if_lt (off := 10) (by decide +kernel) (by decide)) (
  fm (z_aload_n (j := 0) (by decide +kernel) rfl) (
  fm (z_getf (idx := 49) awX4 rfl (by decide) wd_1_154 rfl (by decide +kernel)) (
  fm (z_iload_n (j := 1) (by decide +kernel) rfl) (
  fm (z_iald (by decide +kernel)) (
  fm (z_iret rfl (by decide +kernel)) (
  fm (z_iconst (n := 0) (by decide +kernel) (by decide)) (
  fm (z_istore_n (j := 2) (by decide +kernel) rfl (by decide)) (
  fm (z_iconst (n := 0) (by decide +kernel) (by decide)) (
  fm (z_istore_n (j := 3) (by decide +kernel) rfl (by decide)) (
  fm (z_iload_n (j := 3) (by decide +kernel) rfl) (
  fm (z_bipush (n := 7) (by decide +kernel) (by decide)) (
  fm (z_icmp_ge (off := 18) (by decide +kernel) (by decide)) (
  fm (z_iload_n (j := 2) (by decide +kernel) rfl) (
  fm (z_aload_n (j := 0) (by decide +kernel) rfl) (
  fm (z_getf (idx := 49) awX4 rfl (by decide) wd_1_154 rfl (by decide +kernel)) (
  fm (z_iload_n (j := 3) (by decide +kernel) rfl) (
  fm (z_iald (by decide +kernel)) (
  fm (z_iadd (by decide +kernel)) (
  fm (z_istore_n (j := 2) (by decide +kernel) rfl (by decide)) (
  fm (z_iinc (n := 1) (by decide +kernel) (by decide) (by decide)) (
  fm (z_goto (off := (-18)) (by decide +kernel) (by decide)) (
  fm (z_iload_n (j := 2) (by decide +kernel) rfl) (
  fm (z_iret rfl (by decide +kernel)) (fn)))))))))))))))))))))))))))))))))))
def kX4_stay : Cd := [(0, s_aload 0 1), (1, s_getf 4 1 4), (4, s_aload 0 5), (5, s_getf 4 0 8), (8, s_inv mX2_become 2 1 11), (11, s_aload 0 12), (12, s_getf 4 1 15), (15, s_inv mX2_sellAll 2 0 18), (18, s_pop 19), (19, s_aload 0 20), (20, s_getf 4 1 23), (23, s_inv mX2_stayers 2 0 26), (26, s_iret)]
set_option maxRecDepth 20000 in
theorem zX4_stay : ∀ q ∈ kX4_stay, Snd RX4 cX4_stay 1 (some .int) (rmM mX4_stay) q.1 q.2 :=
  fm (z_aload_n (j := 0) (by decide +kernel) rfl) (
  fm (z_getf (idx := 16) awX4 rfl (by decide) wd_1_147 rfl (by decide +kernel)) (
  fm (z_aload_n (j := 0) (by decide +kernel) rfl) (
  fm (z_getf (idx := 10) awX4 rfl (by decide) wd_1_146 rfl (by decide +kernel)) (
  fm (z_inv (idx := 122) rfl (by decide +kernel) wd_2_64 wd_2_65 wd_2_66 wd_1_2 wd_2_67 (by decide +kernel) ⟨Nat.le_of_ble_eq_true rfl, Nat.le_of_ble_eq_true rfl⟩) (
  fm (z_aload_n (j := 0) (by decide +kernel) rfl) (
  fm (z_getf (idx := 16) awX4 rfl (by decide) wd_1_147 rfl (by decide +kernel)) (
  fm (z_inv (idx := 126) rfl (by decide +kernel) wd_2_71 wd_2_35 wd_2_36 wd_1_2 wd_2_37 (by decide +kernel) ⟨Nat.le_of_ble_eq_true rfl, Nat.le_of_ble_eq_true rfl⟩) (
  fm (z_pop (by decide +kernel)) (
  fm (z_aload_n (j := 0) (by decide +kernel) rfl) (
  fm (z_getf (idx := 16) awX4 rfl (by decide) wd_1_147 rfl (by decide +kernel)) (
  fm (z_inv (idx := 130) rfl (by decide +kernel) wd_2_72 wd_2_48 wd_2_49 wd_1_2 wd_2_50 (by decide +kernel) ⟨Nat.le_of_ble_eq_true rfl, Nat.le_of_ble_eq_true rfl⟩) (
  fm (z_iret rfl (by decide +kernel)) (fn)))))))))))))
def kX4_swap : Cd := [(0, s_aload 0 1), (1, s_iload 1 2), (2, s_inv mX4_isStall 4 1 5), (5, s_if (fun x => x = 0) 16 8), (8, s_aload 0 9), (9, s_iload 2 10), (10, s_inv mX4_isStall 4 1 13), (13, s_if (fun x => x = 0) 16 22), (16, s_aload 0 17), (17, s_pushi 0 18), (18, s_inv mX4_finding 4 1 21), (21, s_iret), (22, s_aload 0 23), (23, s_getf 4 0 26), (26, s_iload 1 27), (27, s_iload 2 28), (28, s_inv mX2_exchange 2 2 31), (31, s_pushi 1 32), (32, s_iret)]
set_option maxRecDepth 20000 in
theorem zX4_swap : ∀ q ∈ kX4_swap, Snd RX4 cX4_swap 3 (some .int) (rmM mX4_swap) q.1 q.2 :=
  fm (z_aload_n (j := 0) (by decide +kernel) rfl) (
  fm (z_iload_n (j := 1) (by decide +kernel) rfl) (
  fm (z_inv (idx := 84) rfl (by decide +kernel) wd_1_216 wd_1_218 ws_1 wd_1_1 wd_1_219 (by decide +kernel) ⟨Nat.le_of_ble_eq_true rfl, Nat.le_of_ble_eq_true rfl⟩) (
  fm (z_if_eq (off := 11) (by decide +kernel) (by decide)) (
  fm (z_aload_n (j := 0) (by decide +kernel) rfl) (
  fm (z_iload_n (j := 2) (by decide +kernel) rfl) (
  fm (z_inv (idx := 84) rfl (by decide +kernel) wd_1_216 wd_1_218 ws_1 wd_1_1 wd_1_219 (by decide +kernel) ⟨Nat.le_of_ble_eq_true rfl, Nat.le_of_ble_eq_true rfl⟩) (
  fm (z_if_ne (off := 9) (by decide +kernel) (by decide)) (
  fm (z_aload_n (j := 0) (by decide +kernel) rfl) (
  fm (z_iconst (n := 0) (by decide +kernel) (by decide)) (
  fm (z_inv (idx := 57) rfl (by decide +kernel) wd_1_184 wd_1_186 ws_0 wd_1_1 wd_1_187 (by decide +kernel) ⟨Nat.le_of_ble_eq_true rfl, Nat.le_of_ble_eq_true rfl⟩) (
  fm (z_iret rfl (by decide +kernel)) (
  fm (z_aload_n (j := 0) (by decide +kernel) rfl) (
  fm (z_getf (idx := 10) awX4 rfl (by decide) wd_1_146 rfl (by decide +kernel)) (
  fm (z_iload_n (j := 1) (by decide +kernel) rfl) (
  fm (z_iload_n (j := 2) (by decide +kernel) rfl) (
  fm (z_inv (idx := 108) rfl (by decide +kernel) wd_1_238 wd_1_239 wd_2_0 wd_1_2 wd_2_1 (by decide +kernel) ⟨Nat.le_of_ble_eq_true rfl, Nat.le_of_ble_eq_true rfl⟩) (
  fm (z_iconst (n := 1) (by decide +kernel) (by decide)) (
  fm (z_iret rfl (by decide +kernel)) (fn)))))))))))))))))))
def kX4_swapAhead : Cd := [(0, s_aload 0 1), (1, s_getf 4 1 4), (4, s_aload 0 5), (5, s_getf 4 0 8), (8, s_inv mX2_become 2 1 11), (11, s_aload 0 12), (12, s_getf 4 1 15), (15, s_iload 1 16), (16, s_iload 2 17), (17, s_inv mX2_exchange 2 2 20), (20, s_aload 0 21), (21, s_getf 4 1 24), (24, s_iload 3 25), (25, s_inv mX2_passHours 2 1 28), (28, s_pop 29), (29, s_vret)]
set_option maxRecDepth 20000 in
theorem zX4_swapAhead : ∀ q ∈ kX4_swapAhead, Snd RX4 cX4_swapAhead 4 none (rmM mX4_swapAhead) q.1 q.2 :=
  fm (z_aload_n (j := 0) (by decide +kernel) rfl) (
  fm (z_getf (idx := 16) awX4 rfl (by decide) wd_1_147 rfl (by decide +kernel)) (
  fm (z_aload_n (j := 0) (by decide +kernel) rfl) (
  fm (z_getf (idx := 10) awX4 rfl (by decide) wd_1_146 rfl (by decide +kernel)) (
  fm (z_inv (idx := 122) rfl (by decide +kernel) wd_2_64 wd_2_65 wd_2_66 wd_1_2 wd_2_67 (by decide +kernel) ⟨Nat.le_of_ble_eq_true rfl, Nat.le_of_ble_eq_true rfl⟩) (
  fm (z_aload_n (j := 0) (by decide +kernel) rfl) (
  fm (z_getf (idx := 16) awX4 rfl (by decide) wd_1_147 rfl (by decide +kernel)) (
  fm (z_iload_n (j := 1) (by decide +kernel) rfl) (
  fm (z_iload_n (j := 2) (by decide +kernel) rfl) (
  fm (z_inv (idx := 108) rfl (by decide +kernel) wd_1_238 wd_1_239 wd_2_0 wd_1_2 wd_2_1 (by decide +kernel) ⟨Nat.le_of_ble_eq_true rfl, Nat.le_of_ble_eq_true rfl⟩) (
  fm (z_aload_n (j := 0) (by decide +kernel) rfl) (
  fm (z_getf (idx := 16) awX4 rfl (by decide) wd_1_147 rfl (by decide +kernel)) (
  fm (z_iload_n (j := 3) (by decide +kernel) rfl) (
  fm (z_inv (idx := 119) rfl (by decide +kernel) wd_2_26 wd_2_27 wd_2_28 wd_1_2 wd_2_29 (by decide +kernel) ⟨Nat.le_of_ble_eq_true rfl, Nat.le_of_ble_eq_true rfl⟩) (
  fm (z_pop (by decide +kernel)) (
  fm (z_vret rfl (by decide +kernel)) (fn))))))))))))))))
def kX4_tear : Cd := [(0, s_aload 0 1), (1, s_getf 4 9 4), (4, s_if (fun x => x = 0) 11 7), (7, s_pushi 1 8), (8, s_goto 12), (11, s_pushi 0 12), (12, s_istore 1 13), (13, s_aload 0 14), (14, s_pushi 0 15), (15, s_putf .boolean 4 9 18), (18, s_iload 1 19), (19, s_iret)]
set_option maxRecDepth 20000 in
theorem zX4_tear : ∀ q ∈ kX4_tear, Snd RX4 cX4_tear 2 (some .int) (rmM mX4_tear) q.1 q.2 :=
  fm (z_aload_n (j := 0) (by decide +kernel) rfl) (
  fm (z_getf (idx := 257) awX4 rfl (by decide) wd_1_155 rfl (by decide +kernel)) (
  fm (z_if_eq (off := 7) (by decide +kernel) (by decide)) (
  fm (z_iconst (n := 1) (by decide +kernel) (by decide)) (
  fm (z_goto (off := 4) (by decide +kernel) (by decide)) (
  fm (z_iconst (n := 0) (by decide +kernel) (by decide)) (
  fm (z_istore_n (j := 1) (by decide +kernel) rfl (by decide)) (
  fm (z_aload_n (j := 0) (by decide +kernel) rfl) (
  fm (z_iconst (n := 0) (by decide +kernel) (by decide)) (
  fm (z_putf (idx := 257) tyX4 tyX4_ok nmX4 awX4 rfl (by decide) wd_1_155 rfl rfl (by decide +kernel) (by decide +kernel)) (
  fm (z_iload_n (j := 1) (by decide +kernel) rfl) (
  fm (z_iret rfl (by decide +kernel)) (fn))))))))))))
def kX4_text : Cd := [(0, s_aload 0 1), (1, s_getf 4 1 4), (4, s_aload 0 5), (5, s_getf 4 0 8), (8, s_inv mX2_become 2 1 11), (11, s_aload 0 12), (12, s_getf 4 5 15), (15, s_aload 0 16), (16, s_getf 4 1 19), (19, s_inv mX3_readText 3 1 22), (22, s_istore 1 23), (23, s_aload 0 24), (24, s_getf 4 5 27), (27, s_pushi 0 28), (28, s_putf .int 3 1 31), (31, s_iload 1 32), (32, s_if (fun x => x < 0) 46 35), (35, s_aload 0 36), (36, s_getf 4 0 39), (39, s_aload 0 40), (40, s_getf 4 1 43), (43, s_inv mX2_become 2 1 46), (46, s_iload 1 47), (47, s_iret)]
set_option maxRecDepth 20000 in
theorem zX4_text : ∀ q ∈ kX4_text, Snd RX4 cX4_text 2 (some .int) (rmM mX4_text) q.1 q.2 :=
  fm (z_aload_n (j := 0) (by decide +kernel) rfl) (
  fm (z_getf (idx := 16) awX4 rfl (by decide) wd_1_147 rfl (by decide +kernel)) (
  fm (z_aload_n (j := 0) (by decide +kernel) rfl) (
  fm (z_getf (idx := 10) awX4 rfl (by decide) wd_1_146 rfl (by decide +kernel)) (
  fm (z_inv (idx := 122) rfl (by decide +kernel) wd_2_64 wd_2_65 wd_2_66 wd_1_2 wd_2_67 (by decide +kernel) ⟨Nat.le_of_ble_eq_true rfl, Nat.le_of_ble_eq_true rfl⟩) (
  fm (z_aload_n (j := 0) (by decide +kernel) rfl) (
  fm (z_getf (idx := 35) awX4 rfl (by decide) wd_1_151 rfl (by decide +kernel)) (
  fm (z_aload_n (j := 0) (by decide +kernel) rfl) (
  fm (z_getf (idx := 16) awX4 rfl (by decide) wd_1_147 rfl (by decide +kernel)) (
  fm (z_inv (idx := 211) rfl (by decide +kernel) wd_3_20 wd_3_21 wd_3_22 wd_1_5 wd_3_23 (by decide +kernel) ⟨Nat.le_of_ble_eq_true rfl, Nat.le_of_ble_eq_true rfl⟩) (
  fm (z_istore_n (j := 1) (by decide +kernel) rfl (by decide)) (
  fm (z_aload_n (j := 0) (by decide +kernel) rfl) (
  fm (z_getf (idx := 35) awX4 rfl (by decide) wd_1_151 rfl (by decide +kernel)) (
  fm (z_iconst (n := 0) (by decide +kernel) (by decide)) (
  fm (z_putf (idx := 204) tyX3 tyX3_ok nmX3 awX3 rfl (by decide) wd_1_108 rfl rfl (by decide +kernel) (by decide +kernel)) (
  fm (z_iload_n (j := 1) (by decide +kernel) rfl) (
  fm (z_if_lt (off := 14) (by decide +kernel) (by decide)) (
  fm (z_aload_n (j := 0) (by decide +kernel) rfl) (
  fm (z_getf (idx := 10) awX4 rfl (by decide) wd_1_146 rfl (by decide +kernel)) (
  fm (z_aload_n (j := 0) (by decide +kernel) rfl) (
  fm (z_getf (idx := 16) awX4 rfl (by decide) wd_1_147 rfl (by decide +kernel)) (
  fm (z_inv (idx := 122) rfl (by decide +kernel) wd_2_64 wd_2_65 wd_2_66 wd_1_2 wd_2_67 (by decide +kernel) ⟨Nat.le_of_ble_eq_true rfl, Nat.le_of_ble_eq_true rfl⟩) (
  fm (z_iload_n (j := 1) (by decide +kernel) rfl) (
  fm (z_iret rfl (by decide +kernel)) (fn))))))))))))))))))))))))
def kX4_there : Cd := [(0, s_aload 0 1), (1, s_iload 1 2), (2, s_invS mX4_isPlace 1 5), (5, s_iload 2 6), (6, s_pushi 0 7), (7, s_pushi 96 9), (9, s_inv mX4_aheadFinding 4 4 12), (12, s_istore 3 13), (13, s_iload 3 14), (14, s_if (fun x => x = 0) 19 17), (17, s_iload 3 18), (18, s_iret), (19, s_aload 0 20), (20, s_getf 4 1 23), (23, s_aload 0 24), (24, s_getf 4 0 27), (27, s_inv mX2_become 2 1 30), (30, s_aload 0 31), (31, s_getf 4 1 34), (34, s_iload 2 35), (35, s_inv mX2_passHours 2 1 38), (38, s_pop 39), (39, s_aload 0 40), (40, s_getf 4 1 43), (43, s_iload 1 44), (44, s_inv mX2_stallAt 2 1 47), (47, s_istore 4 49), (49, s_iload 4 51), (51, s_if (fun x => x < 0) 59 54), (54, s_iload 4 56), (56, s_goto 64), (59, s_aload 0 60), (60, s_pushi 3 61), (61, s_inv mX4_finding 4 1 64), (64, s_iret)]
set_option maxRecDepth 20000 in
theorem zX4_there : ∀ q ∈ kX4_there, Snd RX4 cX4_there 5 (some .int) (rmM mX4_there) q.1 q.2 :=
  fm (z_aload_n (j := 0) (by decide +kernel) rfl) (
  fm (z_iload_n (j := 1) (by decide +kernel) rfl) (
  fm (z_invS (idx := 53) (by decide +kernel) wd_1_181 wd_1_182 wd_1_1 wd_1_183 (by decide +kernel) ⟨Nat.le_of_ble_eq_true rfl, Nat.le_of_ble_eq_true rfl⟩) (
  fm (z_iload_n (j := 2) (by decide +kernel) rfl) (
  fm (z_iconst (n := 0) (by decide +kernel) (by decide)) (
  fm (z_bipush (n := 96) (by decide +kernel) (by decide)) (
  fm (z_inv (idx := 115) rfl (by decide +kernel) wd_2_22 wd_2_24 ws_3 wd_1_1 wd_2_25 (by decide +kernel) ⟨Nat.le_of_ble_eq_true rfl, Nat.le_of_ble_eq_true rfl⟩) (
  fm (z_istore_n (j := 3) (by decide +kernel) rfl (by decide)) (
  fm (z_iload_n (j := 3) (by decide +kernel) rfl) (
  fm (z_if_eq (off := 5) (by decide +kernel) (by decide)) (
  fm (z_iload_n (j := 3) (by decide +kernel) rfl) (
  fm (z_iret rfl (by decide +kernel)) (
  fm (z_aload_n (j := 0) (by decide +kernel) rfl) (
  fm (z_getf (idx := 16) awX4 rfl (by decide) wd_1_147 rfl (by decide +kernel)) (
  fm (z_aload_n (j := 0) (by decide +kernel) rfl) (
  fm (z_getf (idx := 10) awX4 rfl (by decide) wd_1_146 rfl (by decide +kernel)) (
  fm (z_inv (idx := 122) rfl (by decide +kernel) wd_2_64 wd_2_65 wd_2_66 wd_1_2 wd_2_67 (by decide +kernel) ⟨Nat.le_of_ble_eq_true rfl, Nat.le_of_ble_eq_true rfl⟩) (
  fm (z_aload_n (j := 0) (by decide +kernel) rfl) (
  fm (z_getf (idx := 16) awX4 rfl (by decide) wd_1_147 rfl (by decide +kernel)) (
  fm (z_iload_n (j := 2) (by decide +kernel) rfl) (
  fm (z_inv (idx := 119) rfl (by decide +kernel) wd_2_26 wd_2_27 wd_2_28 wd_1_2 wd_2_29 (by decide +kernel) ⟨Nat.le_of_ble_eq_true rfl, Nat.le_of_ble_eq_true rfl⟩) (
  fm (z_pop (by decide +kernel)) (
  fm (z_aload_n (j := 0) (by decide +kernel) rfl) (
  fm (z_getf (idx := 16) awX4 rfl (by decide) wd_1_147 rfl (by decide +kernel)) (
  fm (z_iload_n (j := 1) (by decide +kernel) rfl) (
  fm (z_inv (idx := 74) rfl (by decide +kernel) wd_1_204 wd_1_205 wd_1_206 wd_1_2 wd_1_207 (by decide +kernel) ⟨Nat.le_of_ble_eq_true rfl, Nat.le_of_ble_eq_true rfl⟩) (
  fm (z_istore (i := 4) (by decide +kernel) (by decide)) (
  fm (z_iload (i := 4) (by decide +kernel)) (
  fm (z_if_lt (off := 8) (by decide +kernel) (by decide)) (
  fm (z_iload (i := 4) (by decide +kernel)) (
  fm (z_goto (off := 8) (by decide +kernel) (by decide)) (
  fm (z_aload_n (j := 0) (by decide +kernel) rfl) (
  fm (z_iconst (n := 3) (by decide +kernel) (by decide)) (
  fm (z_inv (idx := 57) rfl (by decide +kernel) wd_1_184 wd_1_186 ws_0 wd_1_1 wd_1_187 (by decide +kernel) ⟨Nat.le_of_ble_eq_true rfl, Nat.le_of_ble_eq_true rfl⟩) (
  fm (z_iret rfl (by decide +kernel)) (fn)))))))))))))))))))))))))))))))))))
def kX4_thief : Cd := [(0, s_aload 0 1), (1, s_iload 1 2), (2, s_invS mX4_isPlace 1 5), (5, s_iload 2 6), (6, s_pushi 0 7), (7, s_pushi 96 9), (9, s_inv mX4_aheadFinding 4 4 12), (12, s_istore 3 13), (13, s_iload 3 14), (14, s_if (fun x => x = 0) 19 17), (17, s_iload 3 18), (18, s_iret), (19, s_aload 0 20), (20, s_getf 4 1 23), (23, s_aload 0 24), (24, s_getf 4 0 27), (27, s_inv mX2_become 2 1 30), (30, s_aload 0 31), (31, s_getf 4 1 34), (34, s_iload 2 35), (35, s_inv mX2_passHours 2 1 38), (38, s_pop 39), (39, s_aload 0 40), (40, s_getf 4 1 43), (43, s_iload 1 44), (44, s_inv mX2_stallAt 2 1 47), (47, s_istore 4 49), (49, s_iload 4 51), (51, s_if (fun x => x < 0) 67 54), (54, s_aload 0 55), (55, s_getf 4 1 58), (58, s_getf 2 4 61), (61, s_iload 4 63), (63, s_iald 64), (64, s_goto 68), (67, s_pushi 0 68), (68, s_iret)]
set_option maxRecDepth 20000 in
theorem zX4_thief : ∀ q ∈ kX4_thief, Snd RX4 cX4_thief 5 (some .int) (rmM mX4_thief) q.1 q.2 :=
  fm (z_aload_n (j := 0) (by decide +kernel) rfl) (
  fm (z_iload_n (j := 1) (by decide +kernel) rfl) (
  fm (z_invS (idx := 53) (by decide +kernel) wd_1_181 wd_1_182 wd_1_1 wd_1_183 (by decide +kernel) ⟨Nat.le_of_ble_eq_true rfl, Nat.le_of_ble_eq_true rfl⟩) (
  fm (z_iload_n (j := 2) (by decide +kernel) rfl) (
  fm (z_iconst (n := 0) (by decide +kernel) (by decide)) (
  fm (z_bipush (n := 96) (by decide +kernel) (by decide)) (
  fm (z_inv (idx := 115) rfl (by decide +kernel) wd_2_22 wd_2_24 ws_3 wd_1_1 wd_2_25 (by decide +kernel) ⟨Nat.le_of_ble_eq_true rfl, Nat.le_of_ble_eq_true rfl⟩) (
  fm (z_istore_n (j := 3) (by decide +kernel) rfl (by decide)) (
  fm (z_iload_n (j := 3) (by decide +kernel) rfl) (
  fm (z_if_eq (off := 5) (by decide +kernel) (by decide)) (
  fm (z_iload_n (j := 3) (by decide +kernel) rfl) (
  fm (z_iret rfl (by decide +kernel)) (
  fm (z_aload_n (j := 0) (by decide +kernel) rfl) (
  fm (z_getf (idx := 16) awX4 rfl (by decide) wd_1_147 rfl (by decide +kernel)) (
  fm (z_aload_n (j := 0) (by decide +kernel) rfl) (
  fm (z_getf (idx := 10) awX4 rfl (by decide) wd_1_146 rfl (by decide +kernel)) (
  fm (z_inv (idx := 122) rfl (by decide +kernel) wd_2_64 wd_2_65 wd_2_66 wd_1_2 wd_2_67 (by decide +kernel) ⟨Nat.le_of_ble_eq_true rfl, Nat.le_of_ble_eq_true rfl⟩) (
  fm (z_aload_n (j := 0) (by decide +kernel) rfl) (
  fm (z_getf (idx := 16) awX4 rfl (by decide) wd_1_147 rfl (by decide +kernel)) (
  fm (z_iload_n (j := 2) (by decide +kernel) rfl) (
  fm (z_inv (idx := 119) rfl (by decide +kernel) wd_2_26 wd_2_27 wd_2_28 wd_1_2 wd_2_29 (by decide +kernel) ⟨Nat.le_of_ble_eq_true rfl, Nat.le_of_ble_eq_true rfl⟩) (
  fm (z_pop (by decide +kernel)) (
  fm (z_aload_n (j := 0) (by decide +kernel) rfl) (
  fm (z_getf (idx := 16) awX4 rfl (by decide) wd_1_147 rfl (by decide +kernel)) (
  fm (z_iload_n (j := 1) (by decide +kernel) rfl) (
  fm (z_inv (idx := 74) rfl (by decide +kernel) wd_1_204 wd_1_205 wd_1_206 wd_1_2 wd_1_207 (by decide +kernel) ⟨Nat.le_of_ble_eq_true rfl, Nat.le_of_ble_eq_true rfl⟩) (
  fm (z_istore (i := 4) (by decide +kernel) (by decide)) (
  fm (z_iload (i := 4) (by decide +kernel)) (
  fm (z_if_lt (off := 16) (by decide +kernel) (by decide)) (
  fm (z_aload_n (j := 0) (by decide +kernel) rfl) (
  fm (z_getf (idx := 16) awX4 rfl (by decide) wd_1_147 rfl (by decide +kernel)) (
  fm (z_getf (idx := 93) awX2 rfl (by decide) wd_1_42 rfl (by decide +kernel)) (
  fm (z_iload (i := 4) (by decide +kernel)) (
  fm (z_iald (by decide +kernel)) (
  fm (z_goto (off := 4) (by decide +kernel) (by decide)) (
  fm (z_iconst (n := 0) (by decide +kernel) (by decide)) (
  fm (z_iret rfl (by decide +kernel)) (fn)))))))))))))))))))))))))))))))))))))
def kX4_throwAway : Cd := [(0, s_aload 0 1), (1, s_aload 0 2), (2, s_iload 1 3), (3, s_inv mX4_isStall 4 1 6), (6, s_iload 2 7), (7, s_pushi 1 8), (8, s_pushi 48 10), (10, s_inv mX4_aheadFinding 4 4 13), (13, s_istore 3 14), (14, s_iload 3 15), (15, s_if (fun x => x = 0) 20 18), (18, s_iload 3 19), (19, s_iret), (20, s_pushi 0 21), (21, s_istore 4 23), (23, s_pushi (-1) 24), (24, s_istore 5 26), (26, s_pushi 0 27), (27, s_istore 6 29), (29, s_iload 6 31), (31, s_aload 0 32), (32, s_getf 4 0 35), (35, s_getf 2 4 38), (38, s_iload 1 39), (39, s_iald 40), (40, s_icmp (fun x y => y < x) 112 43), (43, s_aload 0 44), (44, s_getf 4 1 47), (47, s_aload 0 48), (48, s_getf 4 0 51), (51, s_inv mX2_become 2 1 54), (54, s_aload 0 55), (55, s_getf 4 1 58), (58, s_getf 2 4 61), (61, s_iload 1 62), (62, s_dup2 63), (63, s_iald 64), (64, s_iload 6 66), (66, s_bin (fun x y => x - y) 67), (67, s_iast 68), (68, s_aload 0 69), (69, s_getf 4 1 72), (72, s_iload 2 73), (73, s_inv mX2_passHours 2 1 76), (76, s_pop 77), (77, s_aload 0 78), (78, s_getf 4 1 81), (81, s_getf 2 5 84), (84, s_iload 1 85), (85, s_iald 86), (86, s_iload 5 88), (88, s_icmp (fun x y => x ≤ y) 106 91), (91, s_aload 0 92), (92, s_getf 4 1 95), (95, s_getf 2 5 98), (98, s_iload 1 99), (99, s_iald 100), (100, s_istore 5 102), (102, s_iload 6 104), (104, s_istore 4 106), (106, s_iinc 6 1 109), (109, s_goto 29), (112, s_iload 4 114), (114, s_iret)]
set_option maxRecDepth 20000 in
theorem zX4_throwAway : ∀ q ∈ kX4_throwAway, Snd RX4 cX4_throwAway 7 (some .int) (rmM mX4_throwAway) q.1 q.2 :=
  fm (z_aload_n (j := 0) (by decide +kernel) rfl) (
  fm (z_aload_n (j := 0) (by decide +kernel) rfl) (
  fm (z_iload_n (j := 1) (by decide +kernel) rfl) (
  fm (z_inv (idx := 84) rfl (by decide +kernel) wd_1_216 wd_1_218 ws_1 wd_1_1 wd_1_219 (by decide +kernel) ⟨Nat.le_of_ble_eq_true rfl, Nat.le_of_ble_eq_true rfl⟩) (
  fm (z_iload_n (j := 2) (by decide +kernel) rfl) (
  fm (z_iconst (n := 1) (by decide +kernel) (by decide)) (
  fm (z_bipush (n := 48) (by decide +kernel) (by decide)) (
  fm (z_inv (idx := 115) rfl (by decide +kernel) wd_2_22 wd_2_24 ws_3 wd_1_1 wd_2_25 (by decide +kernel) ⟨Nat.le_of_ble_eq_true rfl, Nat.le_of_ble_eq_true rfl⟩) (
  fm (z_istore_n (j := 3) (by decide +kernel) rfl (by decide)) (
  fm (z_iload_n (j := 3) (by decide +kernel) rfl) (
  fm (z_if_eq (off := 5) (by decide +kernel) (by decide)) (
  fm (z_iload_n (j := 3) (by decide +kernel) rfl) (
  fm (z_iret rfl (by decide +kernel)) (
  fm (z_iconst (n := 0) (by decide +kernel) (by decide)) (
  fm (z_istore (i := 4) (by decide +kernel) (by decide)) (
  fm (z_iconst (n := (-1)) (by decide +kernel) (by decide)) (
  fm (z_istore (i := 5) (by decide +kernel) (by decide)) (
  fm (z_iconst (n := 0) (by decide +kernel) (by decide)) (
  fm (z_istore (i := 6) (by decide +kernel) (by decide)) (
  fm (z_iload (i := 6) (by decide +kernel)) (
  fm (z_aload_n (j := 0) (by decide +kernel) rfl) (
  fm (z_getf (idx := 10) awX4 rfl (by decide) wd_1_146 rfl (by decide +kernel)) (
  fm (z_getf (idx := 93) awX2 rfl (by decide) wd_1_42 rfl (by decide +kernel)) (
  fm (z_iload_n (j := 1) (by decide +kernel) rfl) (
  fm (z_iald (by decide +kernel)) (
  fm (z_icmp_gt (off := 72) (by decide +kernel) (by decide)) (
  fm (z_aload_n (j := 0) (by decide +kernel) rfl) (
  fm (z_getf (idx := 16) awX4 rfl (by decide) wd_1_147 rfl (by decide +kernel)) (
  fm (z_aload_n (j := 0) (by decide +kernel) rfl) (
  fm (z_getf (idx := 10) awX4 rfl (by decide) wd_1_146 rfl (by decide +kernel)) (
  fm (z_inv (idx := 122) rfl (by decide +kernel) wd_2_64 wd_2_65 wd_2_66 wd_1_2 wd_2_67 (by decide +kernel) ⟨Nat.le_of_ble_eq_true rfl, Nat.le_of_ble_eq_true rfl⟩) (
  fm (z_aload_n (j := 0) (by decide +kernel) rfl) (
  fm (z_getf (idx := 16) awX4 rfl (by decide) wd_1_147 rfl (by decide +kernel)) (
  fm (z_getf (idx := 93) awX2 rfl (by decide) wd_1_42 rfl (by decide +kernel)) (
  fm (z_iload_n (j := 1) (by decide +kernel) rfl) (
  fm (z_dup2 (by decide +kernel)) (
  fm (z_iald (by decide +kernel)) (
  fm (z_iload (i := 6) (by decide +kernel)) (
  fm (z_isub (by decide +kernel)) (
  fm (z_iast (by decide +kernel)) (
  fm (z_aload_n (j := 0) (by decide +kernel) rfl) (
  fm (z_getf (idx := 16) awX4 rfl (by decide) wd_1_147 rfl (by decide +kernel)) (
  fm (z_iload_n (j := 2) (by decide +kernel) rfl) (
  fm (z_inv (idx := 119) rfl (by decide +kernel) wd_2_26 wd_2_27 wd_2_28 wd_1_2 wd_2_29 (by decide +kernel) ⟨Nat.le_of_ble_eq_true rfl, Nat.le_of_ble_eq_true rfl⟩) (
  fm (z_pop (by decide +kernel)) (
  fm (z_aload_n (j := 0) (by decide +kernel) rfl) (
  fm (z_getf (idx := 16) awX4 rfl (by decide) wd_1_147 rfl (by decide +kernel)) (
  fm (z_getf (idx := 96) awX2 rfl (by decide) wd_1_45 rfl (by decide +kernel)) (
  fm (z_iload_n (j := 1) (by decide +kernel) rfl) (
  fm (z_iald (by decide +kernel)) (
  fm (z_iload (i := 5) (by decide +kernel)) (
  fm (z_icmp_le (off := 18) (by decide +kernel) (by decide)) (
  fm (z_aload_n (j := 0) (by decide +kernel) rfl) (
  fm (z_getf (idx := 16) awX4 rfl (by decide) wd_1_147 rfl (by decide +kernel)) (
  fm (z_getf (idx := 96) awX2 rfl (by decide) wd_1_45 rfl (by decide +kernel)) (
  fm (z_iload_n (j := 1) (by decide +kernel) rfl) (
  fm (z_iald (by decide +kernel)) (
  fm (z_istore (i := 5) (by decide +kernel) (by decide)) (
  fm (z_iload (i := 6) (by decide +kernel)) (
  fm (z_istore (i := 4) (by decide +kernel) (by decide)) (
  fm (z_iinc (n := 1) (by decide +kernel) (by decide) (by decide)) (
  fm (z_goto (off := (-80)) (by decide +kernel) (by decide)) (
  fm (z_iload (i := 4) (by decide +kernel)) (
  fm (z_iret rfl (by decide +kernel)) (fn))))))))))))))))))))))))))))))))))))))))))))))))))))))))))))))))
def kX4_tryOrder : Cd := [(0, s_aload 0 1), (1, s_getf 4 1 4), (4, s_aload 0 5), (5, s_getf 4 0 8), (8, s_inv mX2_become 2 1 11), (11, s_pushi 0 12), (12, s_istore 1 13), (13, s_iload 1 14), (14, s_aload 0 15), (15, s_getf 4 0 18), (18, s_getf 2 9 21), (21, s_icmp (fun x y => y ≤ x) 56 24), (24, s_aload 0 25), (25, s_getf 4 1 28), (28, s_getf 2 3 31), (31, s_iload 1 32), (32, s_aload 0 33), (33, s_getf 4 0 36), (36, s_getf 2 3 39), (39, s_aload 0 40), (40, s_getf 4 3 43), (43, s_getf 0 0 46), (46, s_iload 1 47), (47, s_iald 48), (48, s_iald 49), (49, s_iast 50), (50, s_iinc 1 1 53), (53, s_goto 13), (56, s_vret)]
set_option maxRecDepth 20000 in
theorem zX4_tryOrder : ∀ q ∈ kX4_tryOrder, Snd RX4 cX4_tryOrder 2 none (rmM mX4_tryOrder) q.1 q.2 :=
  fm (z_aload_n (j := 0) (by decide +kernel) rfl) (
  fm (z_getf (idx := 16) awX4 rfl (by decide) wd_1_147 rfl (by decide +kernel)) (
  fm (z_aload_n (j := 0) (by decide +kernel) rfl) (
  fm (z_getf (idx := 10) awX4 rfl (by decide) wd_1_146 rfl (by decide +kernel)) (
  fm (z_inv (idx := 122) rfl (by decide +kernel) wd_2_64 wd_2_65 wd_2_66 wd_1_2 wd_2_67 (by decide +kernel) ⟨Nat.le_of_ble_eq_true rfl, Nat.le_of_ble_eq_true rfl⟩) (
  fm (z_iconst (n := 0) (by decide +kernel) (by decide)) (
  fm (z_istore_n (j := 1) (by decide +kernel) rfl (by decide)) (
  fm (z_iload_n (j := 1) (by decide +kernel) rfl) (
  fm (z_aload_n (j := 0) (by decide +kernel) rfl) (
  fm (z_getf (idx := 10) awX4 rfl (by decide) wd_1_146 rfl (by decide +kernel)) (
  fm (z_getf (idx := 77) awX2 rfl (by decide) wd_1_54 rfl (by decide +kernel)) (
  fm (z_icmp_ge (off := 35) (by decide +kernel) (by decide)) (
  fm (z_aload_n (j := 0) (by decide +kernel) rfl) (
  fm (z_getf (idx := 16) awX4 rfl (by decide) wd_1_147 rfl (by decide +kernel)) (
  fm (z_getf (idx := 90) awX2 rfl (by decide) wd_1_40 rfl (by decide +kernel)) (
  fm (z_iload_n (j := 1) (by decide +kernel) rfl) (
  fm (z_aload_n (j := 0) (by decide +kernel) rfl) (
  fm (z_getf (idx := 10) awX4 rfl (by decide) wd_1_146 rfl (by decide +kernel)) (
  fm (z_getf (idx := 90) awX2 rfl (by decide) wd_1_40 rfl (by decide +kernel)) (
  fm (z_aload_n (j := 0) (by decide +kernel) rfl) (
  fm (z_getf (idx := 25) awX4 rfl (by decide) wd_1_149 rfl (by decide +kernel)) (
  fm (z_getf (idx := 162) awX0 rfl (by decide) wd_1_93 rfl (by decide +kernel)) (
  fm (z_iload_n (j := 1) (by decide +kernel) rfl) (
  fm (z_iald (by decide +kernel)) (
  fm (z_iald (by decide +kernel)) (
  fm (z_iast (by decide +kernel)) (
  fm (z_iinc (n := 1) (by decide +kernel) (by decide) (by decide)) (
  fm (z_goto (off := (-40)) (by decide +kernel) (by decide)) (
  fm (z_vret rfl (by decide +kernel)) (fn)))))))))))))))))))))))))))))
def kX4_undo : Cd := [(0, s_aload 0 1), (1, s_getf 4 9 4), (4, s_if (fun x => x = 0) 7 13), (7, s_aload 0 8), (8, s_pushi 3 9), (9, s_inv mX4_finding 4 1 12), (12, s_iret), (13, s_aload 0 14), (14, s_getf 4 0 17), (17, s_aload 0 18), (18, s_getf 4 2 21), (21, s_inv mX2_become 2 1 24), (24, s_aload 0 25), (25, s_getf 4 0 28), (28, s_getf 2 10 31), (31, s_iret)]
set_option maxRecDepth 20000 in
theorem zX4_undo : ∀ q ∈ kX4_undo, Snd RX4 cX4_undo 1 (some .int) (rmM mX4_undo) q.1 q.2 :=
  fm (z_aload_n (j := 0) (by decide +kernel) rfl) (
  fm (z_getf (idx := 257) awX4 rfl (by decide) wd_1_155 rfl (by decide +kernel)) (
  fm (z_if_ne (off := 9) (by decide +kernel) (by decide)) (
  fm (z_aload_n (j := 0) (by decide +kernel) rfl) (
  fm (z_iconst (n := 3) (by decide +kernel) (by decide)) (
  fm (z_inv (idx := 57) rfl (by decide +kernel) wd_1_184 wd_1_186 ws_0 wd_1_1 wd_1_187 (by decide +kernel) ⟨Nat.le_of_ble_eq_true rfl, Nat.le_of_ble_eq_true rfl⟩) (
  fm (z_iret rfl (by decide +kernel)) (
  fm (z_aload_n (j := 0) (by decide +kernel) rfl) (
  fm (z_getf (idx := 10) awX4 rfl (by decide) wd_1_146 rfl (by decide +kernel)) (
  fm (z_aload_n (j := 0) (by decide +kernel) rfl) (
  fm (z_getf (idx := 19) awX4 rfl (by decide) wd_1_148 rfl (by decide +kernel)) (
  fm (z_inv (idx := 122) rfl (by decide +kernel) wd_2_64 wd_2_65 wd_2_66 wd_1_2 wd_2_67 (by decide +kernel) ⟨Nat.le_of_ble_eq_true rfl, Nat.le_of_ble_eq_true rfl⟩) (
  fm (z_aload_n (j := 0) (by decide +kernel) rfl) (
  fm (z_getf (idx := 10) awX4 rfl (by decide) wd_1_146 rfl (by decide +kernel)) (
  fm (z_getf (idx := 261) awX2 rfl (by decide) wd_1_57 rfl (by decide +kernel)) (
  fm (z_iret rfl (by decide +kernel)) (fn))))))))))))))))
def kX4_visits : Cd := [(0, s_iload 1 1), (1, s_invS mX4_isPlace 1 4), (4, s_if (fun x => x = 0) 17 7), (7, s_iload 2 8), (8, s_if (fun x => x < 0) 17 11), (11, s_iload 2 12), (12, s_pushi 20 14), (14, s_icmp (fun x y => x ≤ y) 23 17), (17, s_aload 0 18), (18, s_pushi 0 19), (19, s_inv mX4_finding 4 1 22), (22, s_iret), (23, s_aload 0 24), (24, s_getf 4 0 27), (27, s_getf 2 0 30), (30, s_iload 1 31), (31, s_iald 32), (32, s_istore 3 33), (33, s_aload 0 34), (34, s_getf 4 0 37), (37, s_getf 2 0 40), (40, s_iload 1 41), (41, s_iload 2 42), (42, s_iast 43), (43, s_iload 3 44), (44, s_iret)]
set_option maxRecDepth 20000 in
theorem zX4_visits : ∀ q ∈ kX4_visits, Snd RX4 cX4_visits 4 (some .int) (rmM mX4_visits) q.1 q.2 :=
  fm (z_iload_n (j := 1) (by decide +kernel) rfl) (
  fm (z_invS (idx := 53) (by decide +kernel) wd_1_181 wd_1_182 wd_1_1 wd_1_183 (by decide +kernel) ⟨Nat.le_of_ble_eq_true rfl, Nat.le_of_ble_eq_true rfl⟩) (
  fm (z_if_eq (off := 13) (by decide +kernel) (by decide)) (
  fm (z_iload_n (j := 2) (by decide +kernel) rfl) (
  fm (z_if_lt (off := 9) (by decide +kernel) (by decide)) (
  fm (z_iload_n (j := 2) (by decide +kernel) rfl) (
  fm (z_bipush (n := 20) (by decide +kernel) (by decide)) (
  fm (z_icmp_le (off := 9) (by decide +kernel) (by decide)) (
  fm (z_aload_n (j := 0) (by decide +kernel) rfl) (
  fm (z_iconst (n := 0) (by decide +kernel) (by decide)) (
  fm (z_inv (idx := 57) rfl (by decide +kernel) wd_1_184 wd_1_186 ws_0 wd_1_1 wd_1_187 (by decide +kernel) ⟨Nat.le_of_ble_eq_true rfl, Nat.le_of_ble_eq_true rfl⟩) (
  fm (z_iret rfl (by decide +kernel)) (
  fm (z_aload_n (j := 0) (by decide +kernel) rfl) (
  fm (z_getf (idx := 10) awX4 rfl (by decide) wd_1_146 rfl (by decide +kernel)) (
  fm (z_getf (idx := 61) awX2 rfl (by decide) wd_1_32 rfl (by decide +kernel)) (
  fm (z_iload_n (j := 1) (by decide +kernel) rfl) (
  fm (z_iald (by decide +kernel)) (
  fm (z_istore_n (j := 3) (by decide +kernel) rfl (by decide)) (
  fm (z_aload_n (j := 0) (by decide +kernel) rfl) (
  fm (z_getf (idx := 10) awX4 rfl (by decide) wd_1_146 rfl (by decide +kernel)) (
  fm (z_getf (idx := 61) awX2 rfl (by decide) wd_1_32 rfl (by decide +kernel)) (
  fm (z_iload_n (j := 1) (by decide +kernel) rfl) (
  fm (z_iload_n (j := 2) (by decide +kernel) rfl) (
  fm (z_iast (by decide +kernel)) (
  fm (z_iload_n (j := 3) (by decide +kernel) rfl) (
  fm (z_iret rfl (by decide +kernel)) (fn))))))))))))))))))))))))))
def kX4_when : Cd := [(0, s_aload 0 1), (1, s_aload 0 2), (2, s_iload 1 3), (3, s_inv mX4_isStall 4 1 6), (6, s_if (fun x => x = 0) 20 9), (9, s_iload 2 10), (10, s_invS mX4_isPlace 1 13), (13, s_if (fun x => x = 0) 20 16), (16, s_pushi 1 17), (17, s_goto 21), (20, s_pushi 0 21), (21, s_pushi 96 23), (23, s_pushi 0 24), (24, s_pushi 96 26), (26, s_inv mX4_aheadFinding 4 4 29), (29, s_istore 3 30), (30, s_iload 3 31), (31, s_if (fun x => x = 0) 36 34), (34, s_iload 3 35), (35, s_iret), (36, s_aload 0 37), (37, s_getf 4 1 40), (40, s_aload 0 41), (41, s_getf 4 0 44), (44, s_inv mX2_become 2 1 47), (47, s_pushi 0 48), (48, s_istore 4 50), (50, s_iload 4 52), (52, s_pushi 96 54), (54, s_icmp (fun x y => y < x) 87 57), (57, s_aload 0 58), (58, s_getf 4 1 61), (61, s_getf 2 3 64), (64, s_iload 1 65), (65, s_iald 66), (66, s_iload 2 67), (67, s_icmp (fun x y => x = y) 70 73), (70, s_iload 4 72), (72, s_iret), (73, s_aload 0 74), (74, s_getf 4 1 77), (77, s_inv mX2_passHour 2 0 80), (80, s_pop 81), (81, s_iinc 4 1 84), (84, s_goto 50), (87, s_aload 0 88), (88, s_pushi 3 89), (89, s_inv mX4_finding 4 1 92), (92, s_iret)]
set_option maxRecDepth 20000 in
theorem zX4_when : ∀ q ∈ kX4_when, Snd RX4 cX4_when 5 (some .int) (rmM mX4_when) q.1 q.2 :=
  fm (z_aload_n (j := 0) (by decide +kernel) rfl) (
  fm (z_aload_n (j := 0) (by decide +kernel) rfl) (
  fm (z_iload_n (j := 1) (by decide +kernel) rfl) (
  fm (z_inv (idx := 84) rfl (by decide +kernel) wd_1_216 wd_1_218 ws_1 wd_1_1 wd_1_219 (by decide +kernel) ⟨Nat.le_of_ble_eq_true rfl, Nat.le_of_ble_eq_true rfl⟩) (
  fm (z_if_eq (off := 14) (by decide +kernel) (by decide)) (
  fm (z_iload_n (j := 2) (by decide +kernel) rfl) (
  fm (z_invS (idx := 53) (by decide +kernel) wd_1_181 wd_1_182 wd_1_1 wd_1_183 (by decide +kernel) ⟨Nat.le_of_ble_eq_true rfl, Nat.le_of_ble_eq_true rfl⟩) (
  fm (z_if_eq (off := 7) (by decide +kernel) (by decide)) (
  fm (z_iconst (n := 1) (by decide +kernel) (by decide)) (
  fm (z_goto (off := 4) (by decide +kernel) (by decide)) (
  fm (z_iconst (n := 0) (by decide +kernel) (by decide)) (
  fm (z_bipush (n := 96) (by decide +kernel) (by decide)) (
  fm (z_iconst (n := 0) (by decide +kernel) (by decide)) (
  fm (z_bipush (n := 96) (by decide +kernel) (by decide)) (
  fm (z_inv (idx := 115) rfl (by decide +kernel) wd_2_22 wd_2_24 ws_3 wd_1_1 wd_2_25 (by decide +kernel) ⟨Nat.le_of_ble_eq_true rfl, Nat.le_of_ble_eq_true rfl⟩) (
  fm (z_istore_n (j := 3) (by decide +kernel) rfl (by decide)) (
  fm (z_iload_n (j := 3) (by decide +kernel) rfl) (
  fm (z_if_eq (off := 5) (by decide +kernel) (by decide)) (
  fm (z_iload_n (j := 3) (by decide +kernel) rfl) (
  fm (z_iret rfl (by decide +kernel)) (
  fm (z_aload_n (j := 0) (by decide +kernel) rfl) (
  fm (z_getf (idx := 16) awX4 rfl (by decide) wd_1_147 rfl (by decide +kernel)) (
  fm (z_aload_n (j := 0) (by decide +kernel) rfl) (
  fm (z_getf (idx := 10) awX4 rfl (by decide) wd_1_146 rfl (by decide +kernel)) (
  fm (z_inv (idx := 122) rfl (by decide +kernel) wd_2_64 wd_2_65 wd_2_66 wd_1_2 wd_2_67 (by decide +kernel) ⟨Nat.le_of_ble_eq_true rfl, Nat.le_of_ble_eq_true rfl⟩) (
  fm (z_iconst (n := 0) (by decide +kernel) (by decide)) (
  fm (z_istore (i := 4) (by decide +kernel) (by decide)) (
  fm (z_iload (i := 4) (by decide +kernel)) (
  fm (z_bipush (n := 96) (by decide +kernel) (by decide)) (
  fm (z_icmp_gt (off := 33) (by decide +kernel) (by decide)) (
  fm (z_aload_n (j := 0) (by decide +kernel) rfl) (
  fm (z_getf (idx := 16) awX4 rfl (by decide) wd_1_147 rfl (by decide +kernel)) (
  fm (z_getf (idx := 90) awX2 rfl (by decide) wd_1_40 rfl (by decide +kernel)) (
  fm (z_iload_n (j := 1) (by decide +kernel) rfl) (
  fm (z_iald (by decide +kernel)) (
  fm (z_iload_n (j := 2) (by decide +kernel) rfl) (
  fm (z_icmp_ne (off := 6) (by decide +kernel) (by decide)) (
  fm (z_iload (i := 4) (by decide +kernel)) (
  fm (z_iret rfl (by decide +kernel)) (
  fm (z_aload_n (j := 0) (by decide +kernel) rfl) (
  fm (z_getf (idx := 16) awX4 rfl (by decide) wd_1_147 rfl (by decide +kernel)) (
  fm (z_inv (idx := 142) rfl (by decide +kernel) wd_2_93 wd_2_31 wd_2_32 wd_1_2 wd_2_33 (by decide +kernel) ⟨Nat.le_of_ble_eq_true rfl, Nat.le_of_ble_eq_true rfl⟩) (
  fm (z_pop (by decide +kernel)) (
  fm (z_iinc (n := 1) (by decide +kernel) (by decide) (by decide)) (
  fm (z_goto (off := (-34)) (by decide +kernel) (by decide)) (
  fm (z_aload_n (j := 0) (by decide +kernel) rfl) (
  fm (z_iconst (n := 3) (by decide +kernel) (by decide)) (
  fm (z_inv (idx := 57) rfl (by decide +kernel) wd_1_184 wd_1_186 ws_0 wd_1_1 wd_1_187 (by decide +kernel) ⟨Nat.le_of_ble_eq_true rfl, Nat.le_of_ble_eq_true rfl⟩) (
  fm (z_iret rfl (by decide +kernel)) (fn)))))))))))))))))))))))))))))))))))))))))))))))))
def kX4_wipe : Cd := [(0, s_aload 0 1), (1, s_getf 4 5 4), (4, s_getf 3 1 7), (7, s_istore 1 8), (8, s_aload 0 9), (9, s_getf 4 5 12), (12, s_pushi 0 13), (13, s_putf .int 3 1 16), (16, s_iload 1 17), (17, s_iret)]
set_option maxRecDepth 20000 in
theorem zX4_wipe : ∀ q ∈ kX4_wipe, Snd RX4 cX4_wipe 2 (some .int) (rmM mX4_wipe) q.1 q.2 :=
  fm (z_aload_n (j := 0) (by decide +kernel) rfl) (
  fm (z_getf (idx := 35) awX4 rfl (by decide) wd_1_151 rfl (by decide +kernel)) (
  fm (z_getf (idx := 204) awX3 rfl (by decide) wd_1_108 rfl (by decide +kernel)) (
  fm (z_istore_n (j := 1) (by decide +kernel) rfl (by decide)) (
  fm (z_aload_n (j := 0) (by decide +kernel) rfl) (
  fm (z_getf (idx := 35) awX4 rfl (by decide) wd_1_151 rfl (by decide +kernel)) (
  fm (z_iconst (n := 0) (by decide +kernel) (by decide)) (
  fm (z_putf (idx := 204) tyX3 tyX3_ok nmX3 awX3 rfl (by decide) wd_1_108 rfl rfl (by decide +kernel) (by decide +kernel)) (
  fm (z_iload_n (j := 1) (by decide +kernel) rfl) (
  fm (z_iret rfl (by decide +kernel)) (fn))))))))))
def kX4_wishes : Cd := [(0, s_aload 0 1), (1, s_aload 0 2), (2, s_iload 1 3), (3, s_inv mX4_isStall 4 1 6), (6, s_iload 2 7), (7, s_pushi 1 8), (8, s_pushi 48 10), (10, s_inv mX4_aheadFinding 4 4 13), (13, s_istore 3 14), (14, s_iload 3 15), (15, s_if (fun x => x = 0) 20 18), (18, s_iload 3 19), (19, s_iret), (20, s_aload 0 21), (21, s_iload 1 22), (22, s_iload 1 23), (23, s_iload 2 24), (24, s_inv mX4_swapAhead 4 3 27), (27, s_iload 1 28), (28, s_istore 4 30), (30, s_aload 0 31), (31, s_getf 4 1 34), (34, s_getf 2 5 37), (37, s_iload 1 38), (38, s_iald 39), (39, s_istore 5 41), (41, s_pushi 0 42), (42, s_istore 6 44), (44, s_iload 6 46), (46, s_aload 0 47), (47, s_getf 4 0 50), (50, s_getf 2 9 53), (53, s_icmp (fun x y => y ≤ x) 99 56), (56, s_aload 0 57), (57, s_iload 1 58), (58, s_iload 6 60), (60, s_iload 2 61), (61, s_inv mX4_swapAhead 4 3 64), (64, s_aload 0 65), (65, s_getf 4 1 68), (68, s_getf 2 5 71), (71, s_iload 1 72), (72, s_iald 73), (73, s_iload 5 75), (75, s_icmp (fun x y => x ≤ y) 93 78), (78, s_aload 0 79), (79, s_getf 4 1 82), (82, s_getf 2 5 85), (85, s_iload 1 86), (86, s_iald 87), (87, s_istore 5 89), (89, s_iload 6 91), (91, s_istore 4 93), (93, s_iinc 6 1 96), (96, s_goto 44), (99, s_iload 4 101), (101, s_iret)]
set_option maxRecDepth 20000 in
theorem zX4_wishes : ∀ q ∈ kX4_wishes, Snd RX4 cX4_wishes 7 (some .int) (rmM mX4_wishes) q.1 q.2 :=
  fm (z_aload_n (j := 0) (by decide +kernel) rfl) (
  fm (z_aload_n (j := 0) (by decide +kernel) rfl) (
  fm (z_iload_n (j := 1) (by decide +kernel) rfl) (
  fm (z_inv (idx := 84) rfl (by decide +kernel) wd_1_216 wd_1_218 ws_1 wd_1_1 wd_1_219 (by decide +kernel) ⟨Nat.le_of_ble_eq_true rfl, Nat.le_of_ble_eq_true rfl⟩) (
  fm (z_iload_n (j := 2) (by decide +kernel) rfl) (
  fm (z_iconst (n := 1) (by decide +kernel) (by decide)) (
  fm (z_bipush (n := 48) (by decide +kernel) (by decide)) (
  fm (z_inv (idx := 115) rfl (by decide +kernel) wd_2_22 wd_2_24 ws_3 wd_1_1 wd_2_25 (by decide +kernel) ⟨Nat.le_of_ble_eq_true rfl, Nat.le_of_ble_eq_true rfl⟩) (
  fm (z_istore_n (j := 3) (by decide +kernel) rfl (by decide)) (
  fm (z_iload_n (j := 3) (by decide +kernel) rfl) (
  fm (z_if_eq (off := 5) (by decide +kernel) (by decide)) (
  fm (z_iload_n (j := 3) (by decide +kernel) rfl) (
  fm (z_iret rfl (by decide +kernel)) (
  fm (z_aload_n (j := 0) (by decide +kernel) rfl) (
  fm (z_iload_n (j := 1) (by decide +kernel) rfl) (
  fm (z_iload_n (j := 1) (by decide +kernel) rfl) (
  fm (z_iload_n (j := 2) (by decide +kernel) rfl) (
  fm (z_inv (idx := 174) rfl (by decide +kernel) wd_2_165 wd_2_167 ws_9 wd_1_1 wd_2_168 (by decide +kernel) ⟨Nat.le_of_ble_eq_true rfl, Nat.le_of_ble_eq_true rfl⟩) (
  fm (z_iload_n (j := 1) (by decide +kernel) rfl) (
  fm (z_istore (i := 4) (by decide +kernel) (by decide)) (
  fm (z_aload_n (j := 0) (by decide +kernel) rfl) (
  fm (z_getf (idx := 16) awX4 rfl (by decide) wd_1_147 rfl (by decide +kernel)) (
  fm (z_getf (idx := 96) awX2 rfl (by decide) wd_1_45 rfl (by decide +kernel)) (
  fm (z_iload_n (j := 1) (by decide +kernel) rfl) (
  fm (z_iald (by decide +kernel)) (
  fm (z_istore (i := 5) (by decide +kernel) (by decide)) (
  fm (z_iconst (n := 0) (by decide +kernel) (by decide)) (
  fm (z_istore (i := 6) (by decide +kernel) (by decide)) (
  fm (z_iload (i := 6) (by decide +kernel)) (
  fm (z_aload_n (j := 0) (by decide +kernel) rfl) (
  fm (z_getf (idx := 10) awX4 rfl (by decide) wd_1_146 rfl (by decide +kernel)) (
  fm (z_getf (idx := 77) awX2 rfl (by decide) wd_1_54 rfl (by decide +kernel)) (
  fm (z_icmp_ge (off := 46) (by decide +kernel) (by decide)) (
  fm (z_aload_n (j := 0) (by decide +kernel) rfl) (
  fm (z_iload_n (j := 1) (by decide +kernel) rfl) (
  fm (z_iload (i := 6) (by decide +kernel)) (
  fm (z_iload_n (j := 2) (by decide +kernel) rfl) (
  fm (z_inv (idx := 174) rfl (by decide +kernel) wd_2_165 wd_2_167 ws_9 wd_1_1 wd_2_168 (by decide +kernel) ⟨Nat.le_of_ble_eq_true rfl, Nat.le_of_ble_eq_true rfl⟩) (
  fm (z_aload_n (j := 0) (by decide +kernel) rfl) (
  fm (z_getf (idx := 16) awX4 rfl (by decide) wd_1_147 rfl (by decide +kernel)) (
  fm (z_getf (idx := 96) awX2 rfl (by decide) wd_1_45 rfl (by decide +kernel)) (
  fm (z_iload_n (j := 1) (by decide +kernel) rfl) (
  fm (z_iald (by decide +kernel)) (
  fm (z_iload (i := 5) (by decide +kernel)) (
  fm (z_icmp_le (off := 18) (by decide +kernel) (by decide)) (
  fm (z_aload_n (j := 0) (by decide +kernel) rfl) (
  fm (z_getf (idx := 16) awX4 rfl (by decide) wd_1_147 rfl (by decide +kernel)) (
  fm (z_getf (idx := 96) awX2 rfl (by decide) wd_1_45 rfl (by decide +kernel)) (
  fm (z_iload_n (j := 1) (by decide +kernel) rfl) (
  fm (z_iald (by decide +kernel)) (
  fm (z_istore (i := 5) (by decide +kernel) (by decide)) (
  fm (z_iload (i := 6) (by decide +kernel)) (
  fm (z_istore (i := 4) (by decide +kernel) (by decide)) (
  fm (z_iinc (n := 1) (by decide +kernel) (by decide) (by decide)) (
  fm (z_goto (off := (-52)) (by decide +kernel) (by decide)) (
  fm (z_iload (i := 4) (by decide +kernel)) (
  fm (z_iret rfl (by decide +kernel)) (fn)))))))))))))))))))))))))))))))))))))))))))))))))))))))))
def kX4_wordsAreSo : Cd := [(0, s_pushi 0 1), (1, s_istore 3 2), (2, s_iload 3 3), (3, s_iload 2 4), (4, s_icmp (fun x y => y < x) 96 7), (7, s_pushi 0 8), (8, s_istore 4 10), (10, s_iload 4 12), (12, s_pushi 3 13), (13, s_bin (fun x y => x + y) 14), (14, s_aload 1 15), (15, s_getf 1 2 18), (18, s_icmp (fun x y => y < x) 82 21), (21, s_aload 1 22), (22, s_getf 1 0 25), (25, s_iload 4 27), (27, s_iald 28), (28, s_istore 5 30), (30, s_aload 1 31), (31, s_getf 1 0 34), (34, s_iload 4 36), (36, s_pushi 2 37), (37, s_bin (fun x y => x + y) 38), (38, s_iald 39), (39, s_iload 3 40), (40, s_icmp (fun x y => x = y) 43 76), (43, s_aload 0 44), (44, s_iload 5 46), (46, s_inv mX4_isStall 4 1 49), (49, s_if (fun x => x = 0) 76 52), (52, s_aload 0 53), (53, s_getf 4 1 56), (56, s_getf 2 3 59), (59, s_iload 5 61), (61, s_iald 62), (62, s_aload 1 63), (63, s_getf 1 0 66), (66, s_iload 4 68), (68, s_pushi 1 69), (69, s_bin (fun x y => x + y) 70), (70, s_iald 71), (71, s_icmp (fun x y => x = y) 76 74), (74, s_pushi 0 75), (75, s_zret), (76, s_iinc 4 3 79), (79, s_goto 10), (82, s_aload 0 83), (83, s_getf 4 1 86), (86, s_inv mX2_passHour 2 0 89), (89, s_pop 90), (90, s_iinc 3 1 93), (93, s_goto 2), (96, s_pushi 1 97), (97, s_zret)]
set_option maxRecDepth 20000 in
theorem zX4_wordsAreSo : ∀ q ∈ kX4_wordsAreSo, Snd RX4 cX4_wordsAreSo 6 (some .boolean) (rmM mX4_wordsAreSo) q.1 q.2 :=
  fm (z_iconst (n := 0) (by decide +kernel) (by decide)) (
  fm (z_istore_n (j := 3) (by decide +kernel) rfl (by decide)) (
  fm (z_iload_n (j := 3) (by decide +kernel) rfl) (
  fm (z_iload_n (j := 2) (by decide +kernel) rfl) (
  fm (z_icmp_gt (off := 92) (by decide +kernel) (by decide)) (
  fm (z_iconst (n := 0) (by decide +kernel) (by decide)) (
  fm (z_istore (i := 4) (by decide +kernel) (by decide)) (
  fm (z_iload (i := 4) (by decide +kernel)) (
  fm (z_iconst (n := 3) (by decide +kernel) (by decide)) (
  fm (z_iadd (by decide +kernel)) (
  fm (z_aload_n (j := 1) (by decide +kernel) rfl) (
  fm (z_getf (idx := 229) awX1 rfl (by decide) wd_1_138 rfl (by decide +kernel)) (
  fm (z_icmp_gt (off := 64) (by decide +kernel) (by decide)) (
  fm (z_aload_n (j := 1) (by decide +kernel) rfl) (
  fm (z_getf (idx := 241) awX1 rfl (by decide) wd_1_134 rfl (by decide +kernel)) (
  fm (z_iload (i := 4) (by decide +kernel)) (
  fm (z_iald (by decide +kernel)) (
  fm (z_istore (i := 5) (by decide +kernel) (by decide)) (
  fm (z_aload_n (j := 1) (by decide +kernel) rfl) (
  fm (z_getf (idx := 241) awX1 rfl (by decide) wd_1_134 rfl (by decide +kernel)) (
  fm (z_iload (i := 4) (by decide +kernel)) (
  fm (z_iconst (n := 2) (by decide +kernel) (by decide)) (
  fm (z_iadd (by decide +kernel)) (
  fm (z_iald (by decide +kernel)) (
  fm (z_iload_n (j := 3) (by decide +kernel) rfl) (
  fm (z_icmp_ne (off := 36) (by decide +kernel) (by decide)) (
  fm (z_aload_n (j := 0) (by decide +kernel) rfl) (
  fm (z_iload (i := 5) (by decide +kernel)) (
  fm (z_inv (idx := 84) rfl (by decide +kernel) wd_1_216 wd_1_218 ws_1 wd_1_1 wd_1_219 (by decide +kernel) ⟨Nat.le_of_ble_eq_true rfl, Nat.le_of_ble_eq_true rfl⟩) (
  fm (z_if_eq (off := 27) (by decide +kernel) (by decide)) (
  fm (z_aload_n (j := 0) (by decide +kernel) rfl) (
  fm (z_getf (idx := 16) awX4 rfl (by decide) wd_1_147 rfl (by decide +kernel)) (
  fm (z_getf (idx := 90) awX2 rfl (by decide) wd_1_40 rfl (by decide +kernel)) (
  fm (z_iload (i := 5) (by decide +kernel)) (
  fm (z_iald (by decide +kernel)) (
  fm (z_aload_n (j := 1) (by decide +kernel) rfl) (
  fm (z_getf (idx := 241) awX1 rfl (by decide) wd_1_134 rfl (by decide +kernel)) (
  fm (z_iload (i := 4) (by decide +kernel)) (
  fm (z_iconst (n := 1) (by decide +kernel) (by decide)) (
  fm (z_iadd (by decide +kernel)) (
  fm (z_iald (by decide +kernel)) (
  fm (z_icmp_eq (off := 5) (by decide +kernel) (by decide)) (
  fm (z_iconst (n := 0) (by decide +kernel) (by decide)) (
  fm (z_zret rfl (by decide +kernel)) (
  fm (z_iinc (n := 3) (by decide +kernel) (by decide) (by decide)) (
  fm (z_goto (off := (-69)) (by decide +kernel) (by decide)) (
  fm (z_aload_n (j := 0) (by decide +kernel) rfl) (
  fm (z_getf (idx := 16) awX4 rfl (by decide) wd_1_147 rfl (by decide +kernel)) (
  fm (z_inv (idx := 142) rfl (by decide +kernel) wd_2_93 wd_2_31 wd_2_32 wd_1_2 wd_2_33 (by decide +kernel) ⟨Nat.le_of_ble_eq_true rfl, Nat.le_of_ble_eq_true rfl⟩) (
  fm (z_pop (by decide +kernel)) (
  fm (z_iinc (n := 1) (by decide +kernel) (by decide) (by decide)) (
  fm (z_goto (off := (-91)) (by decide +kernel) (by decide)) (
  fm (z_iconst (n := 1) (by decide +kernel) (by decide)) (
  fm (z_zret rfl (by decide +kernel)) (fn))))))))))))))))))))))))))))))))))))))))))))))))))))))
def kX4_worth : Cd := [(0, s_aload 0 1), (1, s_aload 0 2), (2, s_iload 1 3), (3, s_inv mX4_isStall 4 1 6), (6, s_if (fun x => x = 0) 20 9), (9, s_iload 2 10), (10, s_invS mX4_isPlace 1 13), (13, s_if (fun x => x = 0) 20 16), (16, s_pushi 1 17), (17, s_goto 21), (20, s_pushi 0 21), (21, s_iload 3 22), (22, s_pushi 1 23), (23, s_pushi 48 25), (25, s_inv mX4_aheadFinding 4 4 28), (28, s_istore 4 30), (30, s_iload 4 32), (32, s_if (fun x => x = 0) 38 35), (35, s_iload 4 37), (37, s_iret), (38, s_aload 0 39), (39, s_iload 1 40), (40, s_aload 0 41), (41, s_getf 4 0 44), (44, s_getf 2 3 47), (47, s_iload 1 48), (48, s_iald 49), (49, s_iload 3 50), (50, s_inv mX4_coinFrom 4 3 53), (53, s_istore 5 55), (55, s_aload 0 56), (56, s_iload 1 57), (57, s_iload 2 58), (58, s_iload 3 59), (59, s_inv mX4_coinFrom 4 3 62), (62, s_iload 5 64), (64, s_bin (fun x y => x - y) 65), (65, s_iret)]
set_option maxRecDepth 20000 in
theorem zX4_worth : ∀ q ∈ kX4_worth, Snd RX4 cX4_worth 6 (some .int) (rmM mX4_worth) q.1 q.2 :=
  fm (z_aload_n (j := 0) (by decide +kernel) rfl) (
  fm (z_aload_n (j := 0) (by decide +kernel) rfl) (
  fm (z_iload_n (j := 1) (by decide +kernel) rfl) (
  fm (z_inv (idx := 84) rfl (by decide +kernel) wd_1_216 wd_1_218 ws_1 wd_1_1 wd_1_219 (by decide +kernel) ⟨Nat.le_of_ble_eq_true rfl, Nat.le_of_ble_eq_true rfl⟩) (
  fm (z_if_eq (off := 14) (by decide +kernel) (by decide)) (
  fm (z_iload_n (j := 2) (by decide +kernel) rfl) (
  fm (z_invS (idx := 53) (by decide +kernel) wd_1_181 wd_1_182 wd_1_1 wd_1_183 (by decide +kernel) ⟨Nat.le_of_ble_eq_true rfl, Nat.le_of_ble_eq_true rfl⟩) (
  fm (z_if_eq (off := 7) (by decide +kernel) (by decide)) (
  fm (z_iconst (n := 1) (by decide +kernel) (by decide)) (
  fm (z_goto (off := 4) (by decide +kernel) (by decide)) (
  fm (z_iconst (n := 0) (by decide +kernel) (by decide)) (
  fm (z_iload_n (j := 3) (by decide +kernel) rfl) (
  fm (z_iconst (n := 1) (by decide +kernel) (by decide)) (
  fm (z_bipush (n := 48) (by decide +kernel) (by decide)) (
  fm (z_inv (idx := 115) rfl (by decide +kernel) wd_2_22 wd_2_24 ws_3 wd_1_1 wd_2_25 (by decide +kernel) ⟨Nat.le_of_ble_eq_true rfl, Nat.le_of_ble_eq_true rfl⟩) (
  fm (z_istore (i := 4) (by decide +kernel) (by decide)) (
  fm (z_iload (i := 4) (by decide +kernel)) (
  fm (z_if_eq (off := 6) (by decide +kernel) (by decide)) (
  fm (z_iload (i := 4) (by decide +kernel)) (
  fm (z_iret rfl (by decide +kernel)) (
  fm (z_aload_n (j := 0) (by decide +kernel) rfl) (
  fm (z_iload_n (j := 1) (by decide +kernel) rfl) (
  fm (z_aload_n (j := 0) (by decide +kernel) rfl) (
  fm (z_getf (idx := 10) awX4 rfl (by decide) wd_1_146 rfl (by decide +kernel)) (
  fm (z_getf (idx := 90) awX2 rfl (by decide) wd_1_40 rfl (by decide +kernel)) (
  fm (z_iload_n (j := 1) (by decide +kernel) rfl) (
  fm (z_iald (by decide +kernel)) (
  fm (z_iload_n (j := 3) (by decide +kernel) rfl) (
  fm (z_inv (idx := 195) rfl (by decide +kernel) wd_2_214 wd_2_216 ws_12 wd_1_1 wd_2_217 (by decide +kernel) ⟨Nat.le_of_ble_eq_true rfl, Nat.le_of_ble_eq_true rfl⟩) (
  fm (z_istore (i := 5) (by decide +kernel) (by decide)) (
  fm (z_aload_n (j := 0) (by decide +kernel) rfl) (
  fm (z_iload_n (j := 1) (by decide +kernel) rfl) (
  fm (z_iload_n (j := 2) (by decide +kernel) rfl) (
  fm (z_iload_n (j := 3) (by decide +kernel) rfl) (
  fm (z_inv (idx := 195) rfl (by decide +kernel) wd_2_214 wd_2_216 ws_12 wd_1_1 wd_2_217 (by decide +kernel) ⟨Nat.le_of_ble_eq_true rfl, Nat.le_of_ble_eq_true rfl⟩) (
  fm (z_iload (i := 5) (by decide +kernel)) (
  fm (z_isub (by decide +kernel)) (
  fm (z_iret rfl (by decide +kernel)) (fn))))))))))))))))))))))))))))))))))))))
def kX4_write : Cd := [(0, s_aload 0 1), (1, s_iload 1 2), (2, s_inv mX4_sheetFinding 4 1 5), (5, s_istore 4 7), (7, s_iload 4 9), (9, s_if (fun x => x = 0) 15 12), (12, s_iload 4 14), (14, s_iret), (15, s_iload 2 16), (16, s_if (fun x => x < 0) 32 19), (19, s_iload 2 20), (20, s_aload 0 21), (21, s_getf 4 6 24), (24, s_iload 1 25), (25, s_aald 26), (26, s_getf 1 2 29), (29, s_icmp (fun x y => x < y) 38 32), (32, s_aload 0 33), (33, s_pushi 0 34), (34, s_inv mX4_finding 4 1 37), (37, s_iret), (38, s_aload 0 39), (39, s_getf 4 6 42), (42, s_iload 1 43), (43, s_aald 44), (44, s_iload 2 45), (45, s_iload 3 46), (46, s_inv mX1_put 1 2 49), (49, s_pushi 1 50), (50, s_iret)]
set_option maxRecDepth 20000 in
theorem zX4_write : ∀ q ∈ kX4_write, Snd RX4 cX4_write 5 (some .int) (rmM mX4_write) q.1 q.2 :=
  fm (z_aload_n (j := 0) (by decide +kernel) rfl) (
  fm (z_iload_n (j := 1) (by decide +kernel) rfl) (
  fm (z_inv (idx := 230) rfl (by decide +kernel) wd_3_174 wd_3_176 ws_25 wd_1_1 wd_3_177 (by decide +kernel) ⟨Nat.le_of_ble_eq_true rfl, Nat.le_of_ble_eq_true rfl⟩) (
  fm (z_istore (i := 4) (by decide +kernel) (by decide)) (
  fm (z_iload (i := 4) (by decide +kernel)) (
  fm (z_if_eq (off := 6) (by decide +kernel) (by decide)) (
  fm (z_iload (i := 4) (by decide +kernel)) (
  fm (z_iret rfl (by decide +kernel)) (
  fm (z_iload_n (j := 2) (by decide +kernel) rfl) (
  fm (z_if_lt (off := 16) (by decide +kernel) (by decide)) (
  fm (z_iload_n (j := 2) (by decide +kernel) rfl) (
  fm (z_aload_n (j := 0) (by decide +kernel) rfl) (
  fm (z_getf (idx := 41) awX4 rfl (by decide) wd_1_152 rfl (by decide +kernel)) (
  fm (z_iload_n (j := 1) (by decide +kernel) rfl) (
  fm (z_aald (by decide +kernel)) (
  fm (z_getf (idx := 229) awX1 rfl (by decide) wd_1_138 rfl (by decide +kernel)) (
  fm (z_icmp_lt (off := 9) (by decide +kernel) (by decide)) (
  fm (z_aload_n (j := 0) (by decide +kernel) rfl) (
  fm (z_iconst (n := 0) (by decide +kernel) (by decide)) (
  fm (z_inv (idx := 57) rfl (by decide +kernel) wd_1_184 wd_1_186 ws_0 wd_1_1 wd_1_187 (by decide +kernel) ⟨Nat.le_of_ble_eq_true rfl, Nat.le_of_ble_eq_true rfl⟩) (
  fm (z_iret rfl (by decide +kernel)) (
  fm (z_aload_n (j := 0) (by decide +kernel) rfl) (
  fm (z_getf (idx := 41) awX4 rfl (by decide) wd_1_152 rfl (by decide +kernel)) (
  fm (z_iload_n (j := 1) (by decide +kernel) rfl) (
  fm (z_aald (by decide +kernel)) (
  fm (z_iload_n (j := 2) (by decide +kernel) rfl) (
  fm (z_iload_n (j := 3) (by decide +kernel) rfl) (
  fm (z_inv (idx := 233) rfl (by decide +kernel) wd_3_178 wd_3_179 wd_3_180 wd_1_6 wd_3_181 (by decide +kernel) ⟨Nat.le_of_ble_eq_true rfl, Nat.le_of_ble_eq_true rfl⟩) (
  fm (z_iconst (n := 1) (by decide +kernel) (by decide)) (
  fm (z_iret rfl (by decide +kernel)) (fn))))))))))))))))))))))))))))))
end
section
/-! CODE of X5, by program -/
def kX5_again : Cd := [(0, s_aload 0 1), (1, s_pushi 96 3), (3, s_inv mX5_isTooLate 5 1 6), (6, s_if (fun x => x = 0) 16 9), (9, s_aload 0 10), (10, s_pushi (-1000005) 12), (12, s_inv mX5_finds 5 1 15), (15, s_iret), (16, s_aload 0 17), (17, s_inv mX5_saves 5 0 20), (20, s_pushi 0 21), (21, s_istore 1 22), (22, s_pushi 0 23), (23, s_istore 2 24), (24, s_iload 1 25), (25, s_pushi 96 27), (27, s_icmp (fun x y => y ≤ x) 98 30), (30, s_iload 2 31), (31, s_if (fun x => x = 0) 34 98), (34, s_aload 0 35), (35, s_inv mX5_hour 5 0 38), (38, s_istore 3 39), (39, s_iinc 1 1 42), (42, s_pushi 1 43), (43, s_istore 2 44), (44, s_pushi 0 45), (45, s_istore 4 47), (47, s_iload 4 49), (49, s_aload 0 50), (50, s_getf 5 0 53), (53, s_pushi 1 54), (54, s_iald 55), (55, s_icmp (fun x y => y ≤ x) 95 58), (58, s_iload 2 59), (59, s_if (fun x => x = 0) 87 62), (62, s_aload 0 63), (63, s_iload 4 65), (65, s_pushi 1 66), (66, s_inv mX5_its 5 2 69), (69, s_aload 0 70), (70, s_getf 5 2 73), (73, s_iload 4 75), (75, s_pushi 1 76), (76, s_invS mX5_at 2 79), (79, s_iald 80), (80, s_icmp (fun x y => x = y) 83 87), (83, s_pushi 1 84), (84, s_goto 88), (87, s_pushi 0 88), (88, s_istore 2 89), (89, s_iinc 4 1 92), (92, s_goto 47), (95, s_goto 24), (98, s_aload 0 99), (99, s_inv mX5_putsBack 5 0 102), (102, s_iload 2 103), (103, s_if (fun x => x = 0) 110 106), (106, s_iload 1 107), (107, s_goto 116), (110, s_aload 0 111), (111, s_pushi (-1000004) 113), (113, s_inv mX5_finds 5 1 116), (116, s_iret)]
set_option maxRecDepth 20000 in
theorem zX5_again : ∀ q ∈ kX5_again, Snd RX5 cX5_again 5 (some .int) (rmM mX5_again) q.1 q.2 :=
  fm (z_aload_n (j := 0) (by decide +kernel) rfl) (
  fm (z_bipush (n := 96) (by decide +kernel) (by decide)) (
  fm (z_inv (idx := 119) rfl (by decide +kernel) wd_4_158 wd_4_160 ws_37 wd_1_7 wd_4_161 (by decide +kernel) ⟨Nat.le_of_ble_eq_true rfl, Nat.le_of_ble_eq_true rfl⟩) (
  fm (z_if_eq (off := 10) (by decide +kernel) (by decide)) (
  fm (z_aload_n (j := 0) (by decide +kernel) rfl) (
  fm (z_ldc (i := 70) (by decide +kernel) wd_4_105) (
  fm (z_inv (idx := 58) rfl (by decide +kernel) wd_4_77 wd_4_79 ws_28 wd_1_7 wd_4_80 (by decide +kernel) ⟨Nat.le_of_ble_eq_true rfl, Nat.le_of_ble_eq_true rfl⟩) (
  fm (z_iret rfl (by decide +kernel)) (
  fm (z_aload_n (j := 0) (by decide +kernel) rfl) (
  fm (z_inv (idx := 130) rfl (by decide +kernel) wd_4_200 wd_4_202 ws_43 wd_1_7 wd_4_203 (by decide +kernel) ⟨Nat.le_of_ble_eq_true rfl, Nat.le_of_ble_eq_true rfl⟩) (
  fm (z_iconst (n := 0) (by decide +kernel) (by decide)) (
  fm (z_istore_n (j := 1) (by decide +kernel) rfl (by decide)) (
  fm (z_iconst (n := 0) (by decide +kernel) (by decide)) (
  fm (z_istore_n (j := 2) (by decide +kernel) rfl (by decide)) (
  fm (z_iload_n (j := 1) (by decide +kernel) rfl) (
  fm (z_bipush (n := 96) (by decide +kernel) (by decide)) (
  fm (z_icmp_ge (off := 71) (by decide +kernel) (by decide)) (
  fm (z_iload_n (j := 2) (by decide +kernel) rfl) (
  fm (z_if_ne (off := 67) (by decide +kernel) (by decide)) (
  fm (z_aload_n (j := 0) (by decide +kernel) rfl) (
  fm (z_inv (idx := 113) rfl (by decide +kernel) wd_4_166 wd_4_168 ws_39 wd_1_7 wd_4_169 (by decide +kernel) ⟨Nat.le_of_ble_eq_true rfl, Nat.le_of_ble_eq_true rfl⟩) (
  fm (z_istore_n (j := 3) (by decide +kernel) rfl (by decide)) (
  fm (z_iinc (n := 1) (by decide +kernel) (by decide) (by decide)) (
  fm (z_iconst (n := 1) (by decide +kernel) (by decide)) (
  fm (z_istore_n (j := 2) (by decide +kernel) rfl (by decide)) (
  fm (z_iconst (n := 0) (by decide +kernel) (by decide)) (
  fm (z_istore (i := 4) (by decide +kernel) (by decide)) (
  fm (z_iload (i := 4) (by decide +kernel)) (
  fm (z_aload_n (j := 0) (by decide +kernel) rfl) (
  fm (z_getf (idx := 7) awX5 rfl (by decide) wd_4_12 rfl (by decide +kernel)) (
  fm (z_iconst (n := 1) (by decide +kernel) (by decide)) (
  fm (z_iald (by decide +kernel)) (
  fm (z_icmp_ge (off := 40) (by decide +kernel) (by decide)) (
  fm (z_iload_n (j := 2) (by decide +kernel) rfl) (
  fm (z_if_eq (off := 28) (by decide +kernel) (by decide)) (
  fm (z_aload_n (j := 0) (by decide +kernel) rfl) (
  fm (z_iload (i := 4) (by decide +kernel)) (
  fm (z_iconst (n := 1) (by decide +kernel) (by decide)) (
  fm (z_inv (idx := 62) rfl (by decide +kernel) wd_4_98 wd_4_100 ws_30 wd_1_7 wd_4_101 (by decide +kernel) ⟨Nat.le_of_ble_eq_true rfl, Nat.le_of_ble_eq_true rfl⟩) (
  fm (z_aload_n (j := 0) (by decide +kernel) rfl) (
  fm (z_getf (idx := 16) awX5 rfl (by decide) wd_4_14 rfl (by decide +kernel)) (
  fm (z_iload (i := 4) (by decide +kernel)) (
  fm (z_iconst (n := 1) (by decide +kernel) (by decide)) (
  fm (z_invS (idx := 48) (by decide +kernel) wd_4_102 wd_4_103 wd_1_7 wd_4_104 (by decide +kernel) ⟨Nat.le_of_ble_eq_true rfl, Nat.le_of_ble_eq_true rfl⟩) (
  fm (z_iald (by decide +kernel)) (
  fm (z_icmp_ne (off := 7) (by decide +kernel) (by decide)) (
  fm (z_iconst (n := 1) (by decide +kernel) (by decide)) (
  fm (z_goto (off := 4) (by decide +kernel) (by decide)) (
  fm (z_iconst (n := 0) (by decide +kernel) (by decide)) (
  fm (z_istore_n (j := 2) (by decide +kernel) rfl (by decide)) (
  fm (z_iinc (n := 1) (by decide +kernel) (by decide) (by decide)) (
  fm (z_goto (off := (-45)) (by decide +kernel) (by decide)) (
  fm (z_goto (off := (-71)) (by decide +kernel) (by decide)) (
  fm (z_aload_n (j := 0) (by decide +kernel) rfl) (
  fm (z_inv (idx := 142) rfl (by decide +kernel) wd_4_216 wd_4_218 ws_47 wd_1_7 wd_4_219 (by decide +kernel) ⟨Nat.le_of_ble_eq_true rfl, Nat.le_of_ble_eq_true rfl⟩) (
  fm (z_iload_n (j := 2) (by decide +kernel) rfl) (
  fm (z_if_eq (off := 7) (by decide +kernel) (by decide)) (
  fm (z_iload_n (j := 1) (by decide +kernel) rfl) (
  fm (z_goto (off := 9) (by decide +kernel) (by decide)) (
  fm (z_aload_n (j := 0) (by decide +kernel) rfl) (
  fm (z_ldc (i := 145) (by decide +kernel) wd_4_224) (
  fm (z_inv (idx := 58) rfl (by decide +kernel) wd_4_77 wd_4_79 ws_28 wd_1_7 wd_4_80 (by decide +kernel) ⟨Nat.le_of_ble_eq_true rfl, Nat.le_of_ble_eq_true rfl⟩) (
  fm (z_iret rfl (by decide +kernel)) (fn)))))))))))))))))))))))))))))))))))))))))))))))))))))))))))))))
def kX5_ahead : Cd := [(0, s_iload 1 1), (1, s_invS mX5_isSpan 1 4), (4, s_if (fun x => x = 0) 25 7), (7, s_iload 2 8), (8, s_i2l 9), (9, s_pushl 0 10), (10, s_pushi 3 11), (11, s_aload 0 12), (12, s_getf 5 0 15), (15, s_pushi 1 16), (16, s_iald 17), (17, s_bin (fun x y => x + y) 18), (18, s_i2l 19), (19, s_invS mX5_in 3 22), (22, s_if (fun x => x = 0) 25 32), (25, s_aload 0 26), (26, s_pushi (-1000001) 28), (28, s_inv mX5_finds 5 1 31), (31, s_iret), (32, s_aload 0 33), (33, s_iload 1 34), (34, s_inv mX5_isTooLate 5 1 37), (37, s_if (fun x => x = 0) 47 40), (40, s_aload 0 41), (41, s_pushi (-1000005) 43), (43, s_inv mX5_finds 5 1 46), (46, s_iret), (47, s_aload 0 48), (48, s_inv mX5_saves 5 0 51), (51, s_aload 0 52), (52, s_iload 1 53), (53, s_inv mX5_hoursGo 5 1 56), (56, s_istore 3 57), (57, s_iload 2 58), (58, s_if (fun x => x = 0) 61 65), (61, s_iload 3 62), (62, s_goto 116), (65, s_iload 2 66), (66, s_pushi 1 67), (67, s_icmp (fun x y => x = y) 70 77), (70, s_aload 0 71), (71, s_inv mX5_emptySet 5 0 74), (74, s_goto 116), (77, s_iload 2 78), (78, s_pushi 2 79), (79, s_icmp (fun x y => x = y) 82 95), (82, s_pushi 4095 85), (85, s_aload 0 86), (86, s_inv mX5_everyPlace 5 0 89), (89, s_pushi (-1) 90), (90, s_bin (fun x y => x ^^^ y) 91), (91, s_bin (fun x y => x &&& y) 92), (92, s_goto 116), (95, s_iload 2 96), (96, s_pushi 3 97), (97, s_icmp (fun x y => x = y) 100 108), (100, s_aload 0 101), (101, s_pushi 3 102), (102, s_inv mX5_sumOf 5 1 105), (105, s_goto 116), (108, s_aload 0 109), (109, s_iload 2 110), (110, s_pushi 4 111), (111, s_bin (fun x y => x - y) 112), (112, s_pushi 1 113), (113, s_inv mX5_its 5 2 116), (116, s_istore 4 118), (118, s_aload 0 119), (119, s_inv mX5_putsBack 5 0 122), (122, s_iload 4 124), (124, s_iret)]
set_option maxRecDepth 20000 in
theorem zX5_ahead : ∀ q ∈ kX5_ahead, Snd RX5 cX5_ahead 5 (some .int) (rmM mX5_ahead) q.1 q.2 :=
  fm (z_iload_n (j := 1) (by decide +kernel) rfl) (
  fm (z_invS (idx := 127) (by decide +kernel) wd_4_196 wd_4_197 wd_1_7 wd_4_198 (by decide +kernel) ⟨Nat.le_of_ble_eq_true rfl, Nat.le_of_ble_eq_true rfl⟩) (
  fm (z_if_eq (off := 21) (by decide +kernel) (by decide)) (
  fm (z_iload_n (j := 2) (by decide +kernel) rfl) (
  fm (z_i2l (by decide +kernel)) (
  fm (z_lconst (n := 0) (by decide +kernel) (by decide)) (
  fm (z_iconst (n := 3) (by decide +kernel) (by decide)) (
  fm (z_aload_n (j := 0) (by decide +kernel) rfl) (
  fm (z_getf (idx := 7) awX5 rfl (by decide) wd_4_12 rfl (by decide +kernel)) (
  fm (z_iconst (n := 1) (by decide +kernel) (by decide)) (
  fm (z_iald (by decide +kernel)) (
  fm (z_iadd (by decide +kernel)) (
  fm (z_i2l (by decide +kernel)) (
  fm (z_invS (idx := 43) (by decide +kernel) wd_4_72 wd_4_73 wd_1_7 wd_4_74 (by decide +kernel) ⟨Nat.le_of_ble_eq_true rfl, Nat.le_of_ble_eq_true rfl⟩) (
  fm (z_if_ne (off := 10) (by decide +kernel) (by decide)) (
  fm (z_aload_n (j := 0) (by decide +kernel) rfl) (
  fm (z_ldc (i := 40) (by decide +kernel) wd_4_76) (
  fm (z_inv (idx := 58) rfl (by decide +kernel) wd_4_77 wd_4_79 ws_28 wd_1_7 wd_4_80 (by decide +kernel) ⟨Nat.le_of_ble_eq_true rfl, Nat.le_of_ble_eq_true rfl⟩) (
  fm (z_iret rfl (by decide +kernel)) (
  fm (z_aload_n (j := 0) (by decide +kernel) rfl) (
  fm (z_iload_n (j := 1) (by decide +kernel) rfl) (
  fm (z_inv (idx := 119) rfl (by decide +kernel) wd_4_158 wd_4_160 ws_37 wd_1_7 wd_4_161 (by decide +kernel) ⟨Nat.le_of_ble_eq_true rfl, Nat.le_of_ble_eq_true rfl⟩) (
  fm (z_if_eq (off := 10) (by decide +kernel) (by decide)) (
  fm (z_aload_n (j := 0) (by decide +kernel) rfl) (
  fm (z_ldc (i := 70) (by decide +kernel) wd_4_105) (
  fm (z_inv (idx := 58) rfl (by decide +kernel) wd_4_77 wd_4_79 ws_28 wd_1_7 wd_4_80 (by decide +kernel) ⟨Nat.le_of_ble_eq_true rfl, Nat.le_of_ble_eq_true rfl⟩) (
  fm (z_iret rfl (by decide +kernel)) (
  fm (z_aload_n (j := 0) (by decide +kernel) rfl) (
  fm (z_inv (idx := 130) rfl (by decide +kernel) wd_4_200 wd_4_202 ws_43 wd_1_7 wd_4_203 (by decide +kernel) ⟨Nat.le_of_ble_eq_true rfl, Nat.le_of_ble_eq_true rfl⟩) (
  fm (z_aload_n (j := 0) (by decide +kernel) rfl) (
  fm (z_iload_n (j := 1) (by decide +kernel) rfl) (
  fm (z_inv (idx := 122) rfl (by decide +kernel) wd_4_162 wd_4_164 ws_38 wd_1_7 wd_4_165 (by decide +kernel) ⟨Nat.le_of_ble_eq_true rfl, Nat.le_of_ble_eq_true rfl⟩) (
  fm (z_istore_n (j := 3) (by decide +kernel) rfl (by decide)) (
  fm (z_iload_n (j := 2) (by decide +kernel) rfl) (
  fm (z_if_ne (off := 7) (by decide +kernel) (by decide)) (
  fm (z_iload_n (j := 3) (by decide +kernel) rfl) (
  fm (z_goto (off := 54) (by decide +kernel) (by decide)) (
  fm (z_iload_n (j := 2) (by decide +kernel) rfl) (
  fm (z_iconst (n := 1) (by decide +kernel) (by decide)) (
  fm (z_icmp_ne (off := 10) (by decide +kernel) (by decide)) (
  fm (z_aload_n (j := 0) (by decide +kernel) rfl) (
  fm (z_inv (idx := 133) rfl (by decide +kernel) wd_4_204 wd_4_206 ws_44 wd_1_7 wd_4_207 (by decide +kernel) ⟨Nat.le_of_ble_eq_true rfl, Nat.le_of_ble_eq_true rfl⟩) (
  fm (z_goto (off := 42) (by decide +kernel) (by decide)) (
  fm (z_iload_n (j := 2) (by decide +kernel) rfl) (
  fm (z_iconst (n := 2) (by decide +kernel) (by decide)) (
  fm (z_icmp_ne (off := 16) (by decide +kernel) (by decide)) (
  fm (z_sipush (n := 4095) (by decide +kernel) (by decide)) (
  fm (z_aload_n (j := 0) (by decide +kernel) rfl) (
  fm (z_inv (idx := 136) rfl (by decide +kernel) wd_4_208 wd_4_210 ws_45 wd_1_7 wd_4_211 (by decide +kernel) ⟨Nat.le_of_ble_eq_true rfl, Nat.le_of_ble_eq_true rfl⟩) (
  fm (z_iconst (n := (-1)) (by decide +kernel) (by decide)) (
  fm (z_ixor (by decide +kernel)) (
  fm (z_iand (by decide +kernel)) (
  fm (z_goto (off := 24) (by decide +kernel) (by decide)) (
  fm (z_iload_n (j := 2) (by decide +kernel) rfl) (
  fm (z_iconst (n := 3) (by decide +kernel) (by decide)) (
  fm (z_icmp_ne (off := 11) (by decide +kernel) (by decide)) (
  fm (z_aload_n (j := 0) (by decide +kernel) rfl) (
  fm (z_iconst (n := 3) (by decide +kernel) (by decide)) (
  fm (z_inv (idx := 139) rfl (by decide +kernel) wd_4_212 wd_4_214 ws_46 wd_1_7 wd_4_215 (by decide +kernel) ⟨Nat.le_of_ble_eq_true rfl, Nat.le_of_ble_eq_true rfl⟩) (
  fm (z_goto (off := 11) (by decide +kernel) (by decide)) (
  fm (z_aload_n (j := 0) (by decide +kernel) rfl) (
  fm (z_iload_n (j := 2) (by decide +kernel) rfl) (
  fm (z_iconst (n := 4) (by decide +kernel) (by decide)) (
  fm (z_isub (by decide +kernel)) (
  fm (z_iconst (n := 1) (by decide +kernel) (by decide)) (
  fm (z_inv (idx := 62) rfl (by decide +kernel) wd_4_98 wd_4_100 ws_30 wd_1_7 wd_4_101 (by decide +kernel) ⟨Nat.le_of_ble_eq_true rfl, Nat.le_of_ble_eq_true rfl⟩) (
  fm (z_istore (i := 4) (by decide +kernel) (by decide)) (
  fm (z_aload_n (j := 0) (by decide +kernel) rfl) (
  fm (z_inv (idx := 142) rfl (by decide +kernel) wd_4_216 wd_4_218 ws_47 wd_1_7 wd_4_219 (by decide +kernel) ⟨Nat.le_of_ble_eq_true rfl, Nat.le_of_ble_eq_true rfl⟩) (
  fm (z_iload (i := 4) (by decide +kernel)) (
  fm (z_iret rfl (by decide +kernel)) (fn)))))))))))))))))))))))))))))))))))))))))))))))))))))))))))))))))))))))
def kX5_as : Cd := [(0, s_iload 1 1), (1, s_i2l 2), (2, s_pushl 0 3), (3, s_pushl 9 6), (6, s_invS mX5_in 3 9), (9, s_if (fun x => x = 0) 24 12), (12, s_iload 2 13), (13, s_i2l 14), (14, s_pushl 0 15), (15, s_pushl 6 18), (18, s_invS mX5_in 3 21), (21, s_if (fun x => x = 0) 24 31), (24, s_aload 0 25), (25, s_pushi (-1000001) 27), (27, s_inv mX5_finds 5 1 30), (30, s_iret), (31, s_aload 0 32), (32, s_getf 5 0 35), (35, s_pushi 68 37), (37, s_iload 1 38), (38, s_bin (fun x y => x + y) 39), (39, s_iald 40), (40, s_istore 3 41), (41, s_iload 3 42), (42, s_if (fun x => 0 ≤ x) 53 45), (45, s_aload 0 46), (46, s_pushi (-1000006) 49), (49, s_inv mX5_finds 5 1 52), (52, s_iret), (53, s_aload 0 54), (54, s_iload 3 55), (55, s_pushi 0 56), (56, s_inv mX5_its 5 2 59), (59, s_istore 4 61), (61, s_iload 2 62), (62, s_if (fun x => x = 0) 105 65), (65, s_iload 4 67), (67, s_iload 2 68), (68, s_icmp (fun x y => x = y) 105 71), (71, s_iload 2 72), (72, s_pushi 1 73), (73, s_icmp (fun x y => x = y) 76 82), (76, s_iload 4 78), (78, s_pushi 3 79), (79, s_icmp (fun x y => x = y) 105 82), (82, s_iload 2 83), (83, s_pushi 2 84), (84, s_icmp (fun x y => x = y) 87 93), (87, s_iload 4 89), (89, s_pushi 4 90), (90, s_icmp (fun x y => x = y) 105 93), (93, s_iload 2 94), (94, s_pushi 5 95), (95, s_icmp (fun x y => x = y) 98 109), (98, s_iload 4 100), (100, s_pushi 6 102), (102, s_icmp (fun x y => x = y) 105 109), (105, s_pushi 1 106), (106, s_goto 110), (109, s_pushi 0 110), (110, s_istore 5 112), (112, s_iload 5 114), (114, s_if (fun x => x = 0) 121 117), (117, s_iload 3 118), (118, s_goto 128), (121, s_aload 0 122), (122, s_pushi (-1000003) 125), (125, s_inv mX5_finds 5 1 128), (128, s_iret)]
set_option maxRecDepth 20000 in
theorem zX5_as : ∀ q ∈ kX5_as, Snd RX5 cX5_as 6 (some .int) (rmM mX5_as) q.1 q.2 :=
  fm (z_iload_n (j := 1) (by decide +kernel) rfl) (
  fm (z_i2l (by decide +kernel)) (
  fm (z_lconst (n := 0) (by decide +kernel) (by decide)) (
  fm (z_ldc2 (i := 292) (by decide +kernel) wd_5_199) (
  fm (z_invS (idx := 43) (by decide +kernel) wd_4_72 wd_4_73 wd_1_7 wd_4_74 (by decide +kernel) ⟨Nat.le_of_ble_eq_true rfl, Nat.le_of_ble_eq_true rfl⟩) (
  fm (z_if_eq (off := 15) (by decide +kernel) (by decide)) (
  fm (z_iload_n (j := 2) (by decide +kernel) rfl) (
  fm (z_i2l (by decide +kernel)) (
  fm (z_lconst (n := 0) (by decide +kernel) (by decide)) (
  fm (z_ldc2 (i := 65) (by decide +kernel) wd_4_93) (
  fm (z_invS (idx := 43) (by decide +kernel) wd_4_72 wd_4_73 wd_1_7 wd_4_74 (by decide +kernel) ⟨Nat.le_of_ble_eq_true rfl, Nat.le_of_ble_eq_true rfl⟩) (
  fm (z_if_ne (off := 10) (by decide +kernel) (by decide)) (
  fm (z_aload_n (j := 0) (by decide +kernel) rfl) (
  fm (z_ldc (i := 40) (by decide +kernel) wd_4_76) (
  fm (z_inv (idx := 58) rfl (by decide +kernel) wd_4_77 wd_4_79 ws_28 wd_1_7 wd_4_80 (by decide +kernel) ⟨Nat.le_of_ble_eq_true rfl, Nat.le_of_ble_eq_true rfl⟩) (
  fm (z_iret rfl (by decide +kernel)) (
  fm (z_aload_n (j := 0) (by decide +kernel) rfl) (
  fm (z_getf (idx := 7) awX5 rfl (by decide) wd_4_12 rfl (by decide +kernel)) (
  fm (z_bipush (n := 68) (by decide +kernel) (by decide)) (
  fm (z_iload_n (j := 1) (by decide +kernel) rfl) (
  fm (z_iadd (by decide +kernel)) (
  fm (z_iald (by decide +kernel)) (
  fm (z_istore_n (j := 3) (by decide +kernel) rfl (by decide)) (
  fm (z_iload_n (j := 3) (by decide +kernel) rfl) (
  fm (z_if_ge (off := 11) (by decide +kernel) (by decide)) (
  fm (z_aload_n (j := 0) (by decide +kernel) rfl) (
  fm (z_ldcw (i := 294) (by decide +kernel) wd_5_204) (
  fm (z_inv (idx := 58) rfl (by decide +kernel) wd_4_77 wd_4_79 ws_28 wd_1_7 wd_4_80 (by decide +kernel) ⟨Nat.le_of_ble_eq_true rfl, Nat.le_of_ble_eq_true rfl⟩) (
  fm (z_iret rfl (by decide +kernel)) (
  fm (z_aload_n (j := 0) (by decide +kernel) rfl) (
  fm (z_iload_n (j := 3) (by decide +kernel) rfl) (
  fm (z_iconst (n := 0) (by decide +kernel) (by decide)) (
  fm (z_inv (idx := 62) rfl (by decide +kernel) wd_4_98 wd_4_100 ws_30 wd_1_7 wd_4_101 (by decide +kernel) ⟨Nat.le_of_ble_eq_true rfl, Nat.le_of_ble_eq_true rfl⟩) (
  fm (z_istore (i := 4) (by decide +kernel) (by decide)) (
  fm (z_iload_n (j := 2) (by decide +kernel) rfl) (
  fm (z_if_eq (off := 43) (by decide +kernel) (by decide)) (
  fm (z_iload (i := 4) (by decide +kernel)) (
  fm (z_iload_n (j := 2) (by decide +kernel) rfl) (
  fm (z_icmp_eq (off := 37) (by decide +kernel) (by decide)) (
  fm (z_iload_n (j := 2) (by decide +kernel) rfl) (
  fm (z_iconst (n := 1) (by decide +kernel) (by decide)) (
  fm (z_icmp_ne (off := 9) (by decide +kernel) (by decide)) (
  fm (z_iload (i := 4) (by decide +kernel)) (
  fm (z_iconst (n := 3) (by decide +kernel) (by decide)) (
  fm (z_icmp_eq (off := 26) (by decide +kernel) (by decide)) (
  fm (z_iload_n (j := 2) (by decide +kernel) rfl) (
  fm (z_iconst (n := 2) (by decide +kernel) (by decide)) (
  fm (z_icmp_ne (off := 9) (by decide +kernel) (by decide)) (
  fm (z_iload (i := 4) (by decide +kernel)) (
  fm (z_iconst (n := 4) (by decide +kernel) (by decide)) (
  fm (z_icmp_eq (off := 15) (by decide +kernel) (by decide)) (
  fm (z_iload_n (j := 2) (by decide +kernel) rfl) (
  fm (z_iconst (n := 5) (by decide +kernel) (by decide)) (
  fm (z_icmp_ne (off := 14) (by decide +kernel) (by decide)) (
  fm (z_iload (i := 4) (by decide +kernel)) (
  fm (z_bipush (n := 6) (by decide +kernel) (by decide)) (
  fm (z_icmp_ne (off := 7) (by decide +kernel) (by decide)) (
  fm (z_iconst (n := 1) (by decide +kernel) (by decide)) (
  fm (z_goto (off := 4) (by decide +kernel) (by decide)) (
  fm (z_iconst (n := 0) (by decide +kernel) (by decide)) (
  fm (z_istore (i := 5) (by decide +kernel) (by decide)) (
  fm (z_iload (i := 5) (by decide +kernel)) (
  fm (z_if_eq (off := 7) (by decide +kernel) (by decide)) (
  fm (z_iload_n (j := 3) (by decide +kernel) rfl) (
  fm (z_goto (off := 10) (by decide +kernel) (by decide)) (
  fm (z_aload_n (j := 0) (by decide +kernel) rfl) (
  fm (z_ldcw (i := 295) (by decide +kernel) wd_5_205) (
  fm (z_inv (idx := 58) rfl (by decide +kernel) wd_4_77 wd_4_79 ws_28 wd_1_7 wd_4_80 (by decide +kernel) ⟨Nat.le_of_ble_eq_true rfl, Nat.le_of_ble_eq_true rfl⟩) (
  fm (z_iret rfl (by decide +kernel)) (fn)))))))))))))))))))))))))))))))))))))))))))))))))))))))))))))))))))))
def kX5_at : Cd := [(0, s_pushi 28 2), (2, s_pushi 5 3), (3, s_iload 0 4), (4, s_bin (fun x y => x * y) 5), (5, s_bin (fun x y => x + y) 6), (6, s_iload 1 7), (7, s_bin (fun x y => x + y) 8), (8, s_iret)]
set_option maxRecDepth 20000 in
theorem zX5_at : ∀ q ∈ kX5_at, Snd RX5 cX5_at 2 (some .int) (rmM mX5_at) q.1 q.2 :=
  fm (z_bipush (n := 28) (by decide +kernel) (by decide)) (
  fm (z_iconst (n := 5) (by decide +kernel) (by decide)) (
  fm (z_iload_n (j := 0) (by decide +kernel) rfl) (
  fm (z_imul (by decide +kernel)) (
  fm (z_iadd (by decide +kernel)) (
  fm (z_iload_n (j := 1) (by decide +kernel) rfl) (
  fm (z_iadd (by decide +kernel)) (
  fm (z_iret rfl (by decide +kernel)) (fn))))))))
def kX5_beside : Cd := [(0, s_aload 0 1), (1, s_iload 1 2), (2, s_inv mX5_isStall 5 1 5), (5, s_if (fun x => x = 0) 16 8), (8, s_aload 0 9), (9, s_iload 1 10), (10, s_inv mX5_besideSet 5 1 13), (13, s_goto 22), (16, s_aload 0 17), (17, s_pushi (-1000001) 19), (19, s_inv mX5_finds 5 1 22), (22, s_iret)]
set_option maxRecDepth 20000 in
theorem zX5_beside : ∀ q ∈ kX5_beside, Snd RX5 cX5_beside 2 (some .int) (rmM mX5_beside) q.1 q.2 :=
  fm (z_aload_n (j := 0) (by decide +kernel) rfl) (
  fm (z_iload_n (j := 1) (by decide +kernel) rfl) (
  fm (z_inv (idx := 76) rfl (by decide +kernel) wd_4_115 wd_4_117 ws_32 wd_1_7 wd_4_118 (by decide +kernel) ⟨Nat.le_of_ble_eq_true rfl, Nat.le_of_ble_eq_true rfl⟩) (
  fm (z_if_eq (off := 11) (by decide +kernel) (by decide)) (
  fm (z_aload_n (j := 0) (by decide +kernel) rfl) (
  fm (z_iload_n (j := 1) (by decide +kernel) rfl) (
  fm (z_inv (idx := 178) rfl (by decide +kernel) wd_5_58 wd_5_60 ws_54 wd_1_7 wd_5_61 (by decide +kernel) ⟨Nat.le_of_ble_eq_true rfl, Nat.le_of_ble_eq_true rfl⟩) (
  fm (z_goto (off := 9) (by decide +kernel) (by decide)) (
  fm (z_aload_n (j := 0) (by decide +kernel) rfl) (
  fm (z_ldc (i := 40) (by decide +kernel) wd_4_76) (
  fm (z_inv (idx := 58) rfl (by decide +kernel) wd_4_77 wd_4_79 ws_28 wd_1_7 wd_4_80 (by decide +kernel) ⟨Nat.le_of_ble_eq_true rfl, Nat.le_of_ble_eq_true rfl⟩) (
  fm (z_iret rfl (by decide +kernel)) (fn))))))))))))
def kX5_besideSet : Cd := [(0, s_pushi 0 1), (1, s_istore 2 2), (2, s_pushi 0 3), (3, s_istore 3 4), (4, s_iload 3 5), (5, s_aload 0 6), (6, s_getf 5 0 9), (9, s_pushi 1 10), (10, s_iald 11), (11, s_icmp (fun x y => y ≤ x) 39 14), (14, s_iload 2 15), (15, s_aload 0 16), (16, s_iload 1 17), (17, s_iload 3 18), (18, s_inv mX5_isBeside 5 2 21), (21, s_if (fun x => x = 0) 30 24), (24, s_pushi 1 25), (25, s_iload 3 26), (26, s_bin (fun x y => x <<< (y &&& 31)) 27), (27, s_goto 31), (30, s_pushi 0 31), (31, s_bin (fun x y => x ||| y) 32), (32, s_istore 2 33), (33, s_iinc 3 1 36), (36, s_goto 4), (39, s_iload 2 40), (40, s_iret)]
set_option maxRecDepth 20000 in
theorem zX5_besideSet : ∀ q ∈ kX5_besideSet, Snd RX5 cX5_besideSet 4 (some .int) (rmM mX5_besideSet) q.1 q.2 :=
  fm (z_iconst (n := 0) (by decide +kernel) (by decide)) (
  fm (z_istore_n (j := 2) (by decide +kernel) rfl (by decide)) (
  fm (z_iconst (n := 0) (by decide +kernel) (by decide)) (
  fm (z_istore_n (j := 3) (by decide +kernel) rfl (by decide)) (
  fm (z_iload_n (j := 3) (by decide +kernel) rfl) (
  fm (z_aload_n (j := 0) (by decide +kernel) rfl) (
  fm (z_getf (idx := 7) awX5 rfl (by decide) wd_4_12 rfl (by decide +kernel)) (
  fm (z_iconst (n := 1) (by decide +kernel) (by decide)) (
  fm (z_iald (by decide +kernel)) (
  fm (z_icmp_ge (off := 28) (by decide +kernel) (by decide)) (
  fm (z_iload_n (j := 2) (by decide +kernel) rfl) (
  fm (z_aload_n (j := 0) (by decide +kernel) rfl) (
  fm (z_iload_n (j := 1) (by decide +kernel) rfl) (
  fm (z_iload_n (j := 3) (by decide +kernel) rfl) (
  fm (z_inv (idx := 175) rfl (by decide +kernel) wd_5_62 wd_5_64 ws_55 wd_1_7 wd_5_65 (by decide +kernel) ⟨Nat.le_of_ble_eq_true rfl, Nat.le_of_ble_eq_true rfl⟩) (
  fm (z_if_eq (off := 9) (by decide +kernel) (by decide)) (
  fm (z_iconst (n := 1) (by decide +kernel) (by decide)) (
  fm (z_iload_n (j := 3) (by decide +kernel) rfl) (
  fm (z_ishl (by decide +kernel)) (
  fm (z_goto (off := 4) (by decide +kernel) (by decide)) (
  fm (z_iconst (n := 0) (by decide +kernel) (by decide)) (
  fm (z_ior (by decide +kernel)) (
  fm (z_istore_n (j := 2) (by decide +kernel) rfl (by decide)) (
  fm (z_iinc (n := 1) (by decide +kernel) (by decide) (by decide)) (
  fm (z_goto (off := (-32)) (by decide +kernel) (by decide)) (
  fm (z_iload_n (j := 2) (by decide +kernel) rfl) (
  fm (z_iret rfl (by decide +kernel)) (fn)))))))))))))))))))))))))))
def kX5_best : Cd := [(0, s_aload 0 1), (1, s_iload 1 2), (2, s_inv mX5_isStall 5 1 5), (5, s_if (fun x => x = 0) 15 8), (8, s_iload 2 9), (9, s_invS mX5_isDays 1 12), (12, s_if (fun x => x = 0) 15 22), (15, s_aload 0 16), (16, s_pushi (-1000001) 18), (18, s_inv mX5_finds 5 1 21), (21, s_iret), (22, s_aload 0 23), (23, s_iload 2 24), (24, s_inv mX5_isTooLate 5 1 27), (27, s_if (fun x => x = 0) 37 30), (30, s_aload 0 31), (31, s_pushi (-1000005) 33), (33, s_inv mX5_finds 5 1 36), (36, s_iret), (37, s_aload 0 38), (38, s_inv mX5_saves 5 0 41), (41, s_pushi (-1) 42), (42, s_istore 3 43), (43, s_pushi 0 44), (44, s_istore 4 46), (46, s_pushi 0 47), (47, s_istore 5 49), (49, s_iload 5 51), (51, s_pushi 12 53), (53, s_icmp (fun x y => y ≤ x) 90 56), (56, s_aload 0 57), (57, s_iload 1 58), (58, s_iload 5 60), (60, s_iload 2 61), (61, s_inv mX5_worthOf 5 3 64), (64, s_istore 6 66), (66, s_iload 3 67), (67, s_if (fun x => x < 0) 77 70), (70, s_iload 6 72), (72, s_iload 4 74), (74, s_icmp (fun x y => x ≤ y) 84 77), (77, s_iload 5 79), (79, s_istore 3 80), (80, s_iload 6 82), (82, s_istore 4 84), (84, s_iinc 5 1 87), (87, s_goto 49), (90, s_iload 3 91), (91, s_iret)]
set_option maxRecDepth 20000 in
theorem zX5_best : ∀ q ∈ kX5_best, Snd RX5 cX5_best 7 (some .int) (rmM mX5_best) q.1 q.2 :=
  fm (z_aload_n (j := 0) (by decide +kernel) rfl) (
  fm (z_iload_n (j := 1) (by decide +kernel) rfl) (
  fm (z_inv (idx := 76) rfl (by decide +kernel) wd_4_115 wd_4_117 ws_32 wd_1_7 wd_4_118 (by decide +kernel) ⟨Nat.le_of_ble_eq_true rfl, Nat.le_of_ble_eq_true rfl⟩) (
  fm (z_if_eq (off := 10) (by decide +kernel) (by decide)) (
  fm (z_iload_n (j := 2) (by decide +kernel) rfl) (
  fm (z_invS (idx := 169) (by decide +kernel) wd_5_39 wd_5_40 wd_1_7 wd_5_41 (by decide +kernel) ⟨Nat.le_of_ble_eq_true rfl, Nat.le_of_ble_eq_true rfl⟩) (
  fm (z_if_ne (off := 10) (by decide +kernel) (by decide)) (
  fm (z_aload_n (j := 0) (by decide +kernel) rfl) (
  fm (z_ldc (i := 40) (by decide +kernel) wd_4_76) (
  fm (z_inv (idx := 58) rfl (by decide +kernel) wd_4_77 wd_4_79 ws_28 wd_1_7 wd_4_80 (by decide +kernel) ⟨Nat.le_of_ble_eq_true rfl, Nat.le_of_ble_eq_true rfl⟩) (
  fm (z_iret rfl (by decide +kernel)) (
  fm (z_aload_n (j := 0) (by decide +kernel) rfl) (
  fm (z_iload_n (j := 2) (by decide +kernel) rfl) (
  fm (z_inv (idx := 119) rfl (by decide +kernel) wd_4_158 wd_4_160 ws_37 wd_1_7 wd_4_161 (by decide +kernel) ⟨Nat.le_of_ble_eq_true rfl, Nat.le_of_ble_eq_true rfl⟩) (
  fm (z_if_eq (off := 10) (by decide +kernel) (by decide)) (
  fm (z_aload_n (j := 0) (by decide +kernel) rfl) (
  fm (z_ldc (i := 70) (by decide +kernel) wd_4_105) (
  fm (z_inv (idx := 58) rfl (by decide +kernel) wd_4_77 wd_4_79 ws_28 wd_1_7 wd_4_80 (by decide +kernel) ⟨Nat.le_of_ble_eq_true rfl, Nat.le_of_ble_eq_true rfl⟩) (
  fm (z_iret rfl (by decide +kernel)) (
  fm (z_aload_n (j := 0) (by decide +kernel) rfl) (
  fm (z_inv (idx := 130) rfl (by decide +kernel) wd_4_200 wd_4_202 ws_43 wd_1_7 wd_4_203 (by decide +kernel) ⟨Nat.le_of_ble_eq_true rfl, Nat.le_of_ble_eq_true rfl⟩) (
  fm (z_iconst (n := (-1)) (by decide +kernel) (by decide)) (
  fm (z_istore_n (j := 3) (by decide +kernel) rfl (by decide)) (
  fm (z_iconst (n := 0) (by decide +kernel) (by decide)) (
  fm (z_istore (i := 4) (by decide +kernel) (by decide)) (
  fm (z_iconst (n := 0) (by decide +kernel) (by decide)) (
  fm (z_istore (i := 5) (by decide +kernel) (by decide)) (
  fm (z_iload (i := 5) (by decide +kernel)) (
  fm (z_bipush (n := 12) (by decide +kernel) (by decide)) (
  fm (z_icmp_ge (off := 37) (by decide +kernel) (by decide)) (
  fm (z_aload_n (j := 0) (by decide +kernel) rfl) (
  fm (z_iload_n (j := 1) (by decide +kernel) rfl) (
  fm (z_iload (i := 5) (by decide +kernel)) (
  fm (z_iload_n (j := 2) (by decide +kernel) rfl) (
  fm (z_inv (idx := 184) rfl (by decide +kernel) wd_5_86 wd_5_88 ws_57 wd_1_7 wd_5_89 (by decide +kernel) ⟨Nat.le_of_ble_eq_true rfl, Nat.le_of_ble_eq_true rfl⟩) (
  fm (z_istore (i := 6) (by decide +kernel) (by decide)) (
  fm (z_iload_n (j := 3) (by decide +kernel) rfl) (
  fm (z_if_lt (off := 10) (by decide +kernel) (by decide)) (
  fm (z_iload (i := 6) (by decide +kernel)) (
  fm (z_iload (i := 4) (by decide +kernel)) (
  fm (z_icmp_le (off := 10) (by decide +kernel) (by decide)) (
  fm (z_iload (i := 5) (by decide +kernel)) (
  fm (z_istore_n (j := 3) (by decide +kernel) rfl (by decide)) (
  fm (z_iload (i := 6) (by decide +kernel)) (
  fm (z_istore (i := 4) (by decide +kernel) (by decide)) (
  fm (z_iinc (n := 1) (by decide +kernel) (by decide) (by decide)) (
  fm (z_goto (off := (-38)) (by decide +kernel) (by decide)) (
  fm (z_iload_n (j := 3) (by decide +kernel) rfl) (
  fm (z_iret rfl (by decide +kernel)) (fn)))))))))))))))))))))))))))))))))))))))))))))))))
def kX5_bestOrder : Cd := [(0, s_aload 0 1), (1, s_inv mX5_saves 5 0 4), (4, s_aload 0 5), (5, s_inv mX5_firstOrder 5 0 8), (8, s_pushi (-1) 9), (9, s_istore 3 10), (10, s_pushi 1 11), (11, s_istore 4 13), (13, s_iload 4 15), (15, s_if (fun x => x = 0) 74 18), (18, s_aload 0 19), (19, s_inv mX5_lays 5 0 22), (22, s_aload 0 23), (23, s_iload 2 24), (24, s_inv mX5_hoursGo 5 1 27), (27, s_istore 5 29), (29, s_aload 0 30), (30, s_iload 5 32), (32, s_iload 3 33), (33, s_icmp (fun x y => x ≤ y) 45 36), (36, s_aload 0 37), (37, s_getf 5 5 40), (40, s_iload 1 41), (41, s_iald 42), (42, s_goto 49), (45, s_aload 0 46), (46, s_getf 5 6 49), (49, s_putf .int 5 6 52), (52, s_iload 5 54), (54, s_iload 3 55), (55, s_icmp (fun x y => x ≤ y) 63 58), (58, s_iload 5 60), (60, s_goto 64), (63, s_iload 3 64), (64, s_istore 3 65), (65, s_aload 0 66), (66, s_inv mX5_nextOrder 5 0 69), (69, s_istore 4 71), (71, s_goto 13), (74, s_aload 0 75), (75, s_inv mX5_putsBack 5 0 78), (78, s_iload 3 79), (79, s_iret)]
set_option maxRecDepth 20000 in
theorem zX5_bestOrder : ∀ q ∈ kX5_bestOrder, Snd RX5 cX5_bestOrder 6 (some .int) (rmM mX5_bestOrder) q.1 q.2 :=
  fm (z_aload_n (j := 0) (by decide +kernel) rfl) (
  fm (z_inv (idx := 130) rfl (by decide +kernel) wd_4_200 wd_4_202 ws_43 wd_1_7 wd_4_203 (by decide +kernel) ⟨Nat.le_of_ble_eq_true rfl, Nat.le_of_ble_eq_true rfl⟩) (
  fm (z_aload_n (j := 0) (by decide +kernel) rfl) (
  fm (z_inv (idx := 147) rfl (by decide +kernel) wd_5_15 wd_5_17 ws_50 wd_1_7 wd_5_18 (by decide +kernel) ⟨Nat.le_of_ble_eq_true rfl, Nat.le_of_ble_eq_true rfl⟩) (
  fm (z_iconst (n := (-1)) (by decide +kernel) (by decide)) (
  fm (z_istore_n (j := 3) (by decide +kernel) rfl (by decide)) (
  fm (z_iconst (n := 1) (by decide +kernel) (by decide)) (
  fm (z_istore (i := 4) (by decide +kernel) (by decide)) (
  fm (z_iload (i := 4) (by decide +kernel)) (
  fm (z_if_eq (off := 59) (by decide +kernel) (by decide)) (
  fm (z_aload_n (j := 0) (by decide +kernel) rfl) (
  fm (z_inv (idx := 150) rfl (by decide +kernel) wd_5_19 wd_5_21 ws_51 wd_1_7 wd_5_22 (by decide +kernel) ⟨Nat.le_of_ble_eq_true rfl, Nat.le_of_ble_eq_true rfl⟩) (
  fm (z_aload_n (j := 0) (by decide +kernel) rfl) (
  fm (z_iload_n (j := 2) (by decide +kernel) rfl) (
  fm (z_inv (idx := 122) rfl (by decide +kernel) wd_4_162 wd_4_164 ws_38 wd_1_7 wd_4_165 (by decide +kernel) ⟨Nat.le_of_ble_eq_true rfl, Nat.le_of_ble_eq_true rfl⟩) (
  fm (z_istore (i := 5) (by decide +kernel) (by decide)) (
  fm (z_aload_n (j := 0) (by decide +kernel) rfl) (
  fm (z_iload (i := 5) (by decide +kernel)) (
  fm (z_iload_n (j := 3) (by decide +kernel) rfl) (
  fm (z_icmp_le (off := 12) (by decide +kernel) (by decide)) (
  fm (z_aload_n (j := 0) (by decide +kernel) rfl) (
  fm (z_getf (idx := 22) awX5 rfl (by decide) wd_4_17 rfl (by decide +kernel)) (
  fm (z_iload_n (j := 1) (by decide +kernel) rfl) (
  fm (z_iald (by decide +kernel)) (
  fm (z_goto (off := 7) (by decide +kernel) (by decide)) (
  fm (z_aload_n (j := 0) (by decide +kernel) rfl) (
  fm (z_getf (idx := 153) awX5 rfl (by decide) wd_4_18 rfl (by decide +kernel)) (
  fm (z_putf (idx := 153) tyX5 tyX5_ok nmX5 awX5 rfl (by decide) wd_4_18 rfl rfl (by decide +kernel) (by decide +kernel)) (
  fm (z_iload (i := 5) (by decide +kernel)) (
  fm (z_iload_n (j := 3) (by decide +kernel) rfl) (
  fm (z_icmp_le (off := 8) (by decide +kernel) (by decide)) (
  fm (z_iload (i := 5) (by decide +kernel)) (
  fm (z_goto (off := 4) (by decide +kernel) (by decide)) (
  fm (z_iload_n (j := 3) (by decide +kernel) rfl) (
  fm (z_istore_n (j := 3) (by decide +kernel) rfl (by decide)) (
  fm (z_aload_n (j := 0) (by decide +kernel) rfl) (
  fm (z_inv (idx := 157) rfl (by decide +kernel) wd_5_23 wd_5_25 ws_52 wd_1_7 wd_5_26 (by decide +kernel) ⟨Nat.le_of_ble_eq_true rfl, Nat.le_of_ble_eq_true rfl⟩) (
  fm (z_istore (i := 4) (by decide +kernel) (by decide)) (
  fm (z_goto (off := (-58)) (by decide +kernel) (by decide)) (
  fm (z_aload_n (j := 0) (by decide +kernel) rfl) (
  fm (z_inv (idx := 142) rfl (by decide +kernel) wd_4_216 wd_4_218 ws_47 wd_1_7 wd_4_219 (by decide +kernel) ⟨Nat.le_of_ble_eq_true rfl, Nat.le_of_ble_eq_true rfl⟩) (
  fm (z_iload_n (j := 3) (by decide +kernel) rfl) (
  fm (z_iret rfl (by decide +kernel)) (fn)))))))))))))))))))))))))))))))))))))))))))
def kX5_byteAt : Cd := [(0, s_iload 1 1), (1, s_aload 0 2), (2, s_getf 5 8 5), (5, s_icmp (fun x y => y ≤ x) 17 8), (8, s_aload 0 9), (9, s_getf 5 7 12), (12, s_iload 1 13), (13, s_iald 14), (14, s_goto 18), (17, s_pushi (-1) 18), (18, s_iret)]
set_option maxRecDepth 20000 in
theorem zX5_byteAt : ∀ q ∈ kX5_byteAt, Snd RX5 cX5_byteAt 2 (some .int) (rmM mX5_byteAt) q.1 q.2 :=
  fm (z_iload_n (j := 1) (by decide +kernel) rfl) (
  fm (z_aload_n (j := 0) (by decide +kernel) rfl) (
  fm (z_getf (idx := 194) awX5 rfl (by decide) wd_4_20 rfl (by decide +kernel)) (
  fm (z_icmp_ge (off := 12) (by decide +kernel) (by decide)) (
  fm (z_aload_n (j := 0) (by decide +kernel) rfl) (
  fm (z_getf (idx := 25) awX5 rfl (by decide) wd_4_19 rfl (by decide +kernel)) (
  fm (z_iload_n (j := 1) (by decide +kernel) rfl) (
  fm (z_iald (by decide +kernel)) (
  fm (z_goto (off := 4) (by decide +kernel) (by decide)) (
  fm (z_iconst (n := (-1)) (by decide +kernel) (by decide)) (
  fm (z_iret rfl (by decide +kernel)) (fn)))))))))))
def kX5_change : Cd := [(0, s_aload 0 1), (1, s_iload 1 2), (2, s_inv mX5_isStall 5 1 5), (5, s_if (fun x => x = 0) 39 8), (8, s_iload 2 9), (9, s_if (fun x => x = 0) 17 12), (12, s_iload 2 13), (13, s_pushi 2 14), (14, s_icmp (fun x y => x = y) 17 39), (17, s_iload 3 18), (18, s_i2l 19), (19, s_pushl 0 20), (20, s_iload 2 21), (21, s_if (fun x => x = 0) 24 30), (24, s_pushl 6 27), (27, s_goto 33), (30, s_pushl 99 33), (33, s_invS mX5_in 3 36), (36, s_if (fun x => x = 0) 39 46), (39, s_aload 0 40), (40, s_pushi (-1000001) 42), (42, s_inv mX5_finds 5 1 45), (45, s_iret), (46, s_aload 0 47), (47, s_iload 1 48), (48, s_iload 2 49), (49, s_inv mX5_its 5 2 52), (52, s_istore 4 54), (54, s_aload 0 55), (55, s_getf 5 0 58), (58, s_iload 1 59), (59, s_iload 2 60), (60, s_invS mX5_at 2 63), (63, s_iload 3 64), (64, s_iast 65), (65, s_iload 4 67), (67, s_iret)]
set_option maxRecDepth 20000 in
theorem zX5_change : ∀ q ∈ kX5_change, Snd RX5 cX5_change 5 (some .int) (rmM mX5_change) q.1 q.2 :=
  fm (z_aload_n (j := 0) (by decide +kernel) rfl) (
  fm (z_iload_n (j := 1) (by decide +kernel) rfl) (
  fm (z_inv (idx := 76) rfl (by decide +kernel) wd_4_115 wd_4_117 ws_32 wd_1_7 wd_4_118 (by decide +kernel) ⟨Nat.le_of_ble_eq_true rfl, Nat.le_of_ble_eq_true rfl⟩) (
  fm (z_if_eq (off := 34) (by decide +kernel) (by decide)) (
  fm (z_iload_n (j := 2) (by decide +kernel) rfl) (
  fm (z_if_eq (off := 8) (by decide +kernel) (by decide)) (
  fm (z_iload_n (j := 2) (by decide +kernel) rfl) (
  fm (z_iconst (n := 2) (by decide +kernel) (by decide)) (
  fm (z_icmp_ne (off := 25) (by decide +kernel) (by decide)) (
  fm (z_iload_n (j := 3) (by decide +kernel) rfl) (
  fm (z_i2l (by decide +kernel)) (
  fm (z_lconst (n := 0) (by decide +kernel) (by decide)) (
  fm (z_iload_n (j := 2) (by decide +kernel) rfl) (
  fm (z_if_ne (off := 9) (by decide +kernel) (by decide)) (
  fm (z_ldc2 (i := 65) (by decide +kernel) wd_4_93) (
  fm (z_goto (off := 6) (by decide +kernel) (by decide)) (
  fm (z_ldc2 (i := 85) (by decide +kernel) wd_4_131) (
  fm (z_invS (idx := 43) (by decide +kernel) wd_4_72 wd_4_73 wd_1_7 wd_4_74 (by decide +kernel) ⟨Nat.le_of_ble_eq_true rfl, Nat.le_of_ble_eq_true rfl⟩) (
  fm (z_if_ne (off := 10) (by decide +kernel) (by decide)) (
  fm (z_aload_n (j := 0) (by decide +kernel) rfl) (
  fm (z_ldc (i := 40) (by decide +kernel) wd_4_76) (
  fm (z_inv (idx := 58) rfl (by decide +kernel) wd_4_77 wd_4_79 ws_28 wd_1_7 wd_4_80 (by decide +kernel) ⟨Nat.le_of_ble_eq_true rfl, Nat.le_of_ble_eq_true rfl⟩) (
  fm (z_iret rfl (by decide +kernel)) (
  fm (z_aload_n (j := 0) (by decide +kernel) rfl) (
  fm (z_iload_n (j := 1) (by decide +kernel) rfl) (
  fm (z_iload_n (j := 2) (by decide +kernel) rfl) (
  fm (z_inv (idx := 62) rfl (by decide +kernel) wd_4_98 wd_4_100 ws_30 wd_1_7 wd_4_101 (by decide +kernel) ⟨Nat.le_of_ble_eq_true rfl, Nat.le_of_ble_eq_true rfl⟩) (
  fm (z_istore (i := 4) (by decide +kernel) (by decide)) (
  fm (z_aload_n (j := 0) (by decide +kernel) rfl) (
  fm (z_getf (idx := 7) awX5 rfl (by decide) wd_4_12 rfl (by decide +kernel)) (
  fm (z_iload_n (j := 1) (by decide +kernel) rfl) (
  fm (z_iload_n (j := 2) (by decide +kernel) rfl) (
  fm (z_invS (idx := 48) (by decide +kernel) wd_4_102 wd_4_103 wd_1_7 wd_4_104 (by decide +kernel) ⟨Nat.le_of_ble_eq_true rfl, Nat.le_of_ble_eq_true rfl⟩) (
  fm (z_iload_n (j := 3) (by decide +kernel) rfl) (
  fm (z_iast (by decide +kernel)) (
  fm (z_iload (i := 4) (by decide +kernel)) (
  fm (z_iret rfl (by decide +kernel)) (fn)))))))))))))))))))))))))))))))))))))
def kX5_coinOf : Cd := [(0, s_aload 0 1), (1, s_iload 2 2), (2, s_inv mX5_hoursGo 5 1 5), (5, s_istore 3 6), (6, s_aload 0 7), (7, s_iload 1 8), (8, s_pushi 3 9), (9, s_inv mX5_its 5 2 12), (12, s_istore 4 14), (14, s_aload 0 15), (15, s_inv mX5_putsBack 5 0 18), (18, s_iload 4 20), (20, s_iret)]
set_option maxRecDepth 20000 in
theorem zX5_coinOf : ∀ q ∈ kX5_coinOf, Snd RX5 cX5_coinOf 5 (some .int) (rmM mX5_coinOf) q.1 q.2 :=
  fm (z_aload_n (j := 0) (by decide +kernel) rfl) (
  fm (z_iload_n (j := 2) (by decide +kernel) rfl) (
  fm (z_inv (idx := 122) rfl (by decide +kernel) wd_4_162 wd_4_164 ws_38 wd_1_7 wd_4_165 (by decide +kernel) ⟨Nat.le_of_ble_eq_true rfl, Nat.le_of_ble_eq_true rfl⟩) (
  fm (z_istore_n (j := 3) (by decide +kernel) rfl (by decide)) (
  fm (z_aload_n (j := 0) (by decide +kernel) rfl) (
  fm (z_iload_n (j := 1) (by decide +kernel) rfl) (
  fm (z_iconst (n := 3) (by decide +kernel) (by decide)) (
  fm (z_inv (idx := 62) rfl (by decide +kernel) wd_4_98 wd_4_100 ws_30 wd_1_7 wd_4_101 (by decide +kernel) ⟨Nat.le_of_ble_eq_true rfl, Nat.le_of_ble_eq_true rfl⟩) (
  fm (z_istore (i := 4) (by decide +kernel) (by decide)) (
  fm (z_aload_n (j := 0) (by decide +kernel) rfl) (
  fm (z_inv (idx := 142) rfl (by decide +kernel) wd_4_216 wd_4_218 ws_47 wd_1_7 wd_4_219 (by decide +kernel) ⟨Nat.le_of_ble_eq_true rfl, Nat.le_of_ble_eq_true rfl⟩) (
  fm (z_iload (i := 4) (by decide +kernel)) (
  fm (z_iret rfl (by decide +kernel)) (fn)))))))))))))
def kX5_copy : Cd := [(0, s_iload 1 1), (1, s_invS mX5_isOne 1 4), (4, s_if (fun x => x = 0) 14 7), (7, s_iload 3 8), (8, s_invS mX5_isOne 1 11), (11, s_if (fun x => x = 0) 14 21), (14, s_aload 0 15), (15, s_pushi (-1000001) 17), (17, s_inv mX5_finds 5 1 20), (20, s_iret), (21, s_aload 0 22), (22, s_getf 5 13 25), (25, s_iload 1 26), (26, s_iald 27), (27, s_if (fun x => x = 0) 39 30), (30, s_aload 0 31), (31, s_getf 5 13 34), (34, s_iload 3 35), (35, s_iald 36), (36, s_if (fun x => x = 0) 39 47), (39, s_aload 0 40), (40, s_pushi (-1000006) 43), (43, s_inv mX5_finds 5 1 46), (46, s_iret), (47, s_aload 0 48), (48, s_getf 5 13 51), (51, s_iload 1 52), (52, s_iald 53), (53, s_aload 0 54), (54, s_getf 5 13 57), (57, s_iload 3 58), (58, s_iald 59), (59, s_icmp (fun x y => x = y) 70 62), (62, s_aload 0 63), (63, s_pushi (-1000003) 66), (66, s_inv mX5_finds 5 1 69), (69, s_iret), (70, s_iload 2 71), (71, s_if (fun x => x < 0) 111 74), (74, s_iload 4 76), (76, s_if (fun x => x < 0) 111 79), (79, s_iload 5 81), (81, s_if (fun x => x < 0) 111 84), (84, s_iload 5 86), (86, s_aload 0 87), (87, s_getf 5 14 90), (90, s_iload 1 91), (91, s_iald 92), (92, s_iload 2 93), (93, s_bin (fun x y => x - y) 94), (94, s_icmp (fun x y => y < x) 111 97), (97, s_iload 5 99), (99, s_aload 0 100), (100, s_getf 5 14 103), (103, s_iload 3 104), (104, s_iald 105), (105, s_iload 4 107), (107, s_bin (fun x y => x - y) 108), (108, s_icmp (fun x y => x ≤ y) 118 111), (111, s_aload 0 112), (112, s_pushi (-1000001) 114), (114, s_inv mX5_finds 5 1 117), (117, s_iret), (118, s_pushi 0 119), (119, s_istore 6 121), (121, s_iload 6 123), (123, s_iload 5 125), (125, s_icmp (fun x y => y ≤ x) 155 128), (128, s_aload 0 129), (129, s_getf 5 16 132), (132, s_iload 6 134), (134, s_aload 0 135), (135, s_getf 5 15 138), (138, s_pushi 40 140), (140, s_iload 1 141), (141, s_bin (fun x y => x * y) 142), (142, s_iload 2 143), (143, s_bin (fun x y => x + y) 144), (144, s_iload 6 146), (146, s_bin (fun x y => x + y) 147), (147, s_iald 148), (148, s_iast 149), (149, s_iinc 6 1 152), (152, s_goto 121), (155, s_pushi 0 156), (156, s_istore 6 158), (158, s_iload 6 160), (160, s_iload 5 162), (162, s_icmp (fun x y => y ≤ x) 193 165), (165, s_aload 0 166), (166, s_getf 5 15 169), (169, s_pushi 40 171), (171, s_iload 3 172), (172, s_bin (fun x y => x * y) 173), (173, s_iload 4 175), (175, s_bin (fun x y => x + y) 176), (176, s_iload 6 178), (178, s_bin (fun x y => x + y) 179), (179, s_aload 0 180), (180, s_getf 5 16 183), (183, s_iload 6 185), (185, s_iald 186), (186, s_iast 187), (187, s_iinc 6 1 190), (190, s_goto 158), (193, s_iload 5 195), (195, s_iret)]
set_option maxRecDepth 20000 in
theorem zX5_copy : ∀ q ∈ kX5_copy, Snd RX5 cX5_copy 7 (some .int) (rmM mX5_copy) q.1 q.2 :=
  fm (z_iload_n (j := 1) (by decide +kernel) rfl) (
  fm (z_invS (idx := 298) (by decide +kernel) wd_5_210 wd_5_211 wd_1_7 wd_5_212 (by decide +kernel) ⟨Nat.le_of_ble_eq_true rfl, Nat.le_of_ble_eq_true rfl⟩) (
  fm (z_if_eq (off := 10) (by decide +kernel) (by decide)) (
  fm (z_iload_n (j := 3) (by decide +kernel) rfl) (
  fm (z_invS (idx := 298) (by decide +kernel) wd_5_210 wd_5_211 wd_1_7 wd_5_212 (by decide +kernel) ⟨Nat.le_of_ble_eq_true rfl, Nat.le_of_ble_eq_true rfl⟩) (
  fm (z_if_ne (off := 10) (by decide +kernel) (by decide)) (
  fm (z_aload_n (j := 0) (by decide +kernel) rfl) (
  fm (z_ldc (i := 40) (by decide +kernel) wd_4_76) (
  fm (z_inv (idx := 58) rfl (by decide +kernel) wd_4_77 wd_4_79 ws_28 wd_1_7 wd_4_80 (by decide +kernel) ⟨Nat.le_of_ble_eq_true rfl, Nat.le_of_ble_eq_true rfl⟩) (
  fm (z_iret rfl (by decide +kernel)) (
  fm (z_aload_n (j := 0) (by decide +kernel) rfl) (
  fm (z_getf (idx := 28) awX5 rfl (by decide) wd_4_25 rfl (by decide +kernel)) (
  fm (z_iload_n (j := 1) (by decide +kernel) rfl) (
  fm (z_iald (by decide +kernel)) (
  fm (z_if_eq (off := 12) (by decide +kernel) (by decide)) (
  fm (z_aload_n (j := 0) (by decide +kernel) rfl) (
  fm (z_getf (idx := 28) awX5 rfl (by decide) wd_4_25 rfl (by decide +kernel)) (
  fm (z_iload_n (j := 3) (by decide +kernel) rfl) (
  fm (z_iald (by decide +kernel)) (
  fm (z_if_ne (off := 11) (by decide +kernel) (by decide)) (
  fm (z_aload_n (j := 0) (by decide +kernel) rfl) (
  fm (z_ldcw (i := 294) (by decide +kernel) wd_5_204) (
  fm (z_inv (idx := 58) rfl (by decide +kernel) wd_4_77 wd_4_79 ws_28 wd_1_7 wd_4_80 (by decide +kernel) ⟨Nat.le_of_ble_eq_true rfl, Nat.le_of_ble_eq_true rfl⟩) (
  fm (z_iret rfl (by decide +kernel)) (
  fm (z_aload_n (j := 0) (by decide +kernel) rfl) (
  fm (z_getf (idx := 28) awX5 rfl (by decide) wd_4_25 rfl (by decide +kernel)) (
  fm (z_iload_n (j := 1) (by decide +kernel) rfl) (
  fm (z_iald (by decide +kernel)) (
  fm (z_aload_n (j := 0) (by decide +kernel) rfl) (
  fm (z_getf (idx := 28) awX5 rfl (by decide) wd_4_25 rfl (by decide +kernel)) (
  fm (z_iload_n (j := 3) (by decide +kernel) rfl) (
  fm (z_iald (by decide +kernel)) (
  fm (z_icmp_eq (off := 11) (by decide +kernel) (by decide)) (
  fm (z_aload_n (j := 0) (by decide +kernel) rfl) (
  fm (z_ldcw (i := 295) (by decide +kernel) wd_5_205) (
  fm (z_inv (idx := 58) rfl (by decide +kernel) wd_4_77 wd_4_79 ws_28 wd_1_7 wd_4_80 (by decide +kernel) ⟨Nat.le_of_ble_eq_true rfl, Nat.le_of_ble_eq_true rfl⟩) (
  fm (z_iret rfl (by decide +kernel)) (
  fm (z_iload_n (j := 2) (by decide +kernel) rfl) (
  fm (z_if_lt (off := 40) (by decide +kernel) (by decide)) (
  fm (z_iload (i := 4) (by decide +kernel)) (
  fm (z_if_lt (off := 35) (by decide +kernel) (by decide)) (
  fm (z_iload (i := 5) (by decide +kernel)) (
  fm (z_if_lt (off := 30) (by decide +kernel) (by decide)) (
  fm (z_iload (i := 5) (by decide +kernel)) (
  fm (z_aload_n (j := 0) (by decide +kernel) rfl) (
  fm (z_getf (idx := 31) awX5 rfl (by decide) wd_4_26 rfl (by decide +kernel)) (
  fm (z_iload_n (j := 1) (by decide +kernel) rfl) (
  fm (z_iald (by decide +kernel)) (
  fm (z_iload_n (j := 2) (by decide +kernel) rfl) (
  fm (z_isub (by decide +kernel)) (
  fm (z_icmp_gt (off := 17) (by decide +kernel) (by decide)) (
  fm (z_iload (i := 5) (by decide +kernel)) (
  fm (z_aload_n (j := 0) (by decide +kernel) rfl) (
  fm (z_getf (idx := 31) awX5 rfl (by decide) wd_4_26 rfl (by decide +kernel)) (
  fm (z_iload_n (j := 3) (by decide +kernel) rfl) (
  fm (z_iald (by decide +kernel)) (
  fm (z_iload (i := 4) (by decide +kernel)) (
  fm (z_isub (by decide +kernel)) (
  fm (z_icmp_le (off := 10) (by decide +kernel) (by decide)) (
  fm (z_aload_n (j := 0) (by decide +kernel) rfl) (
  fm (z_ldc (i := 40) (by decide +kernel) wd_4_76) (
  fm (z_inv (idx := 58) rfl (by decide +kernel) wd_4_77 wd_4_79 ws_28 wd_1_7 wd_4_80 (by decide +kernel) ⟨Nat.le_of_ble_eq_true rfl, Nat.le_of_ble_eq_true rfl⟩) (
  fm (z_iret rfl (by decide +kernel)) (
  fm (z_iconst (n := 0) (by decide +kernel) (by decide)) (
  fm (z_istore (i := 6) (by decide +kernel) (by decide)) (
  fm (z_iload (i := 6) (by decide +kernel)) (
  fm (z_iload (i := 5) (by decide +kernel)) (
  fm (z_icmp_ge (off := 30) (by decide +kernel) (by decide)) (
  fm (z_aload_n (j := 0) (by decide +kernel) rfl) (
  fm (z_getf (idx := 37) awX5 rfl (by decide) wd_4_28 rfl (by decide +kernel)) (
  fm (z_iload (i := 6) (by decide +kernel)) (
  fm (z_aload_n (j := 0) (by decide +kernel) rfl) (
  fm (z_getf (idx := 34) awX5 rfl (by decide) wd_4_27 rfl (by decide +kernel)) (
  fm (z_bipush (n := 40) (by decide +kernel) (by decide)) (
  fm (z_iload_n (j := 1) (by decide +kernel) rfl) (
  fm (z_imul (by decide +kernel)) (
  fm (z_iload_n (j := 2) (by decide +kernel) rfl) (
  fm (z_iadd (by decide +kernel)) (
  fm (z_iload (i := 6) (by decide +kernel)) (
  fm (z_iadd (by decide +kernel)) (
  fm (z_iald (by decide +kernel)) (
  fm (z_iast (by decide +kernel)) (
  fm (z_iinc (n := 1) (by decide +kernel) (by decide) (by decide)) (
  fm (z_goto (off := (-31)) (by decide +kernel) (by decide)) (
  fm (z_iconst (n := 0) (by decide +kernel) (by decide)) (
  fm (z_istore (i := 6) (by decide +kernel) (by decide)) (
  fm (z_iload (i := 6) (by decide +kernel)) (
  fm (z_iload (i := 5) (by decide +kernel)) (
  fm (z_icmp_ge (off := 31) (by decide +kernel) (by decide)) (
  fm (z_aload_n (j := 0) (by decide +kernel) rfl) (
  fm (z_getf (idx := 34) awX5 rfl (by decide) wd_4_27 rfl (by decide +kernel)) (
  fm (z_bipush (n := 40) (by decide +kernel) (by decide)) (
  fm (z_iload_n (j := 3) (by decide +kernel) rfl) (
  fm (z_imul (by decide +kernel)) (
  fm (z_iload (i := 4) (by decide +kernel)) (
  fm (z_iadd (by decide +kernel)) (
  fm (z_iload (i := 6) (by decide +kernel)) (
  fm (z_iadd (by decide +kernel)) (
  fm (z_aload_n (j := 0) (by decide +kernel) rfl) (
  fm (z_getf (idx := 37) awX5 rfl (by decide) wd_4_28 rfl (by decide +kernel)) (
  fm (z_iload (i := 6) (by decide +kernel)) (
  fm (z_iald (by decide +kernel)) (
  fm (z_iast (by decide +kernel)) (
  fm (z_iinc (n := 1) (by decide +kernel) (by decide) (by decide)) (
  fm (z_goto (off := (-32)) (by decide +kernel) (by decide)) (
  fm (z_iload (i := 5) (by decide +kernel)) (
  fm (z_iret rfl (by decide +kernel)) (fn)))))))))))))))))))))))))))))))))))))))))))))))))))))))))))))))))))))))))))))))))))))))))))))))))))))))))))
def kX5_count : Cd := [(0, s_iload 1 1), (1, s_sw [(0, 48), (1, 55), (2, 62), (3, 68), (4, 74), (5, 79), (6, 84), (7, 91)] 96), (48, s_aload 0 49), (49, s_getf 5 0 52), (52, s_pushi 0 53), (53, s_iald 54), (54, s_iret), (55, s_aload 0 56), (56, s_getf 5 0 59), (59, s_pushi 1 60), (60, s_iald 61), (61, s_iret), (62, s_aload 0 63), (63, s_pushi 2 64), (64, s_inv mX5_sumOf 5 1 67), (67, s_iret), (68, s_aload 0 69), (69, s_pushi 3 70), (70, s_inv mX5_sumOf 5 1 73), (73, s_iret), (74, s_aload 0 75), (75, s_inv mX5_visitsOfAll 5 0 78), (78, s_iret), (79, s_aload 0 80), (80, s_getf 5 8 83), (83, s_iret), (84, s_aload 0 85), (85, s_getf 5 0 88), (88, s_pushi 3 89), (89, s_iald 90), (90, s_iret), (91, s_aload 0 92), (92, s_inv mX5_held 5 0 95), (95, s_iret), (96, s_aload 0 97), (97, s_pushi (-1000001) 99), (99, s_inv mX5_finds 5 1 102), (102, s_iret)]
set_option maxRecDepth 20000 in
theorem zX5_count : ∀ q ∈ kX5_count, Snd RX5 cX5_count 2 (some .int) (rmM mX5_count) q.1 q.2 :=
  fm (z_iload_n (j := 1) (by decide +kernel) rfl) (
  fm (z_tsw (dflt := 95) (lo := 0) (hi := 7) (offs := #[47, 54, 61, 67, 73, 78, 83, 90]) (len := 47) (by decide +kernel) (by decide) rfl (by decide) (by decide +kernel)) (
  fm (z_aload_n (j := 0) (by decide +kernel) rfl) (
  fm (z_getf (idx := 7) awX5 rfl (by decide) wd_4_12 rfl (by decide +kernel)) (
  fm (z_iconst (n := 0) (by decide +kernel) (by decide)) (
  fm (z_iald (by decide +kernel)) (
  fm (z_iret rfl (by decide +kernel)) (
  fm (z_aload_n (j := 0) (by decide +kernel) rfl) (
  fm (z_getf (idx := 7) awX5 rfl (by decide) wd_4_12 rfl (by decide +kernel)) (
  fm (z_iconst (n := 1) (by decide +kernel) (by decide)) (
  fm (z_iald (by decide +kernel)) (
  fm (z_iret rfl (by decide +kernel)) (
  fm (z_aload_n (j := 0) (by decide +kernel) rfl) (
  fm (z_iconst (n := 2) (by decide +kernel) (by decide)) (
  fm (z_inv (idx := 139) rfl (by decide +kernel) wd_4_212 wd_4_214 ws_46 wd_1_7 wd_4_215 (by decide +kernel) ⟨Nat.le_of_ble_eq_true rfl, Nat.le_of_ble_eq_true rfl⟩) (
  fm (z_iret rfl (by decide +kernel)) (
  fm (z_aload_n (j := 0) (by decide +kernel) rfl) (
  fm (z_iconst (n := 3) (by decide +kernel) (by decide)) (
  fm (z_inv (idx := 139) rfl (by decide +kernel) wd_4_212 wd_4_214 ws_46 wd_1_7 wd_4_215 (by decide +kernel) ⟨Nat.le_of_ble_eq_true rfl, Nat.le_of_ble_eq_true rfl⟩) (
  fm (z_iret rfl (by decide +kernel)) (
  fm (z_aload_n (j := 0) (by decide +kernel) rfl) (
  fm (z_inv (idx := 313) rfl (by decide +kernel) wd_6_21 wd_6_23 ws_72 wd_1_7 wd_6_24 (by decide +kernel) ⟨Nat.le_of_ble_eq_true rfl, Nat.le_of_ble_eq_true rfl⟩) (
  fm (z_iret rfl (by decide +kernel)) (
  fm (z_aload_n (j := 0) (by decide +kernel) rfl) (
  fm (z_getf (idx := 194) awX5 rfl (by decide) wd_4_20 rfl (by decide +kernel)) (
  fm (z_iret rfl (by decide +kernel)) (
  fm (z_aload_n (j := 0) (by decide +kernel) rfl) (
  fm (z_getf (idx := 7) awX5 rfl (by decide) wd_4_12 rfl (by decide +kernel)) (
  fm (z_iconst (n := 3) (by decide +kernel) (by decide)) (
  fm (z_iald (by decide +kernel)) (
  fm (z_iret rfl (by decide +kernel)) (
  fm (z_aload_n (j := 0) (by decide +kernel) rfl) (
  fm (z_inv (idx := 316) rfl (by decide +kernel) wd_6_25 wd_6_27 ws_73 wd_1_7 wd_6_28 (by decide +kernel) ⟨Nat.le_of_ble_eq_true rfl, Nat.le_of_ble_eq_true rfl⟩) (
  fm (z_iret rfl (by decide +kernel)) (
  fm (z_aload_n (j := 0) (by decide +kernel) rfl) (
  fm (z_ldc (i := 40) (by decide +kernel) wd_4_76) (
  fm (z_inv (idx := 58) rfl (by decide +kernel) wd_4_77 wd_4_79 ws_28 wd_1_7 wd_4_80 (by decide +kernel) ⟨Nat.le_of_ble_eq_true rfl, Nat.le_of_ble_eq_true rfl⟩) (
  fm (z_iret rfl (by decide +kernel)) (fn))))))))))))))))))))))))))))))))))))))
def kX5_dawn : Cd := [(0, s_aload 0 1), (1, s_iload 1 2), (2, s_inv mX5_isStall 5 1 5), (5, s_if (fun x => x = 0) 27 8), (8, s_iload 2 9), (9, s_invS mX5_isPlace 1 12), (12, s_if (fun x => x = 0) 27 15), (15, s_iload 3 16), (16, s_i2l 17), (17, s_pushl 0 18), (18, s_pushl 24 21), (21, s_invS mX5_in 3 24), (24, s_if (fun x => x = 0) 27 32), (27, s_pushi (-1000001) 29), (29, s_goto 37), (32, s_aload 0 33), (33, s_iload 3 34), (34, s_inv mX5_orderWrong 5 1 37), (37, s_istore 4 39), (39, s_iload 4 41), (41, s_if (fun x => x = 0) 51 44), (44, s_aload 0 45), (45, s_iload 4 47), (47, s_inv mX5_finds 5 1 50), (50, s_iret), (51, s_aload 0 52), (52, s_inv mX5_saves 5 0 55), (55, s_aload 0 56), (56, s_inv mX5_firstOrder 5 0 59), (59, s_pushi (-1) 60), (60, s_istore 5 62), (62, s_pushi 1 63), (63, s_istore 6 65), (65, s_iload 6 67), (67, s_if (fun x => x = 0) 125 70), (70, s_aload 0 71), (71, s_inv mX5_lays 5 0 74), (74, s_aload 0 75), (75, s_iload 3 76), (76, s_inv mX5_hoursGo 5 1 79), (79, s_istore 7 81), (81, s_aload 0 82), (82, s_iload 1 83), (83, s_pushi 1 84), (84, s_inv mX5_its 5 2 87), (87, s_iload 2 88), (88, s_icmp (fun x y => x = y) 91 100), (91, s_aload 0 92), (92, s_getf 5 5 95), (95, s_iload 1 96), (96, s_iald 97), (97, s_goto 101), (100, s_pushi (-1) 101), (101, s_istore 5 103), (103, s_iload 5 105), (105, s_if (fun x => 0 ≤ x) 119 108), (108, s_aload 0 109), (109, s_inv mX5_nextOrder 5 0 112), (112, s_if (fun x => x = 0) 119 115), (115, s_pushi 1 116), (116, s_goto 120), (119, s_pushi 0 120), (120, s_istore 6 122), (122, s_goto 65), (125, s_aload 0 126), (126, s_inv mX5_putsBack 5 0 129), (129, s_iload 5 131), (131, s_if (fun x => 0 ≤ x) 143 134), (134, s_aload 0 135), (135, s_pushi (-1000004) 137), (137, s_inv mX5_finds 5 1 140), (140, s_goto 145), (143, s_iload 5 145), (145, s_iret)]
set_option maxRecDepth 20000 in
theorem zX5_dawn : ∀ q ∈ kX5_dawn, Snd RX5 cX5_dawn 8 (some .int) (rmM mX5_dawn) q.1 q.2 :=
  fm (z_aload_n (j := 0) (by decide +kernel) rfl) (
  fm (z_iload_n (j := 1) (by decide +kernel) rfl) (
  fm (z_inv (idx := 76) rfl (by decide +kernel) wd_4_115 wd_4_117 ws_32 wd_1_7 wd_4_118 (by decide +kernel) ⟨Nat.le_of_ble_eq_true rfl, Nat.le_of_ble_eq_true rfl⟩) (
  fm (z_if_eq (off := 22) (by decide +kernel) (by decide)) (
  fm (z_iload_n (j := 2) (by decide +kernel) rfl) (
  fm (z_invS (idx := 52) (by decide +kernel) wd_4_68 wd_4_69 wd_1_7 wd_4_70 (by decide +kernel) ⟨Nat.le_of_ble_eq_true rfl, Nat.le_of_ble_eq_true rfl⟩) (
  fm (z_if_eq (off := 15) (by decide +kernel) (by decide)) (
  fm (z_iload_n (j := 3) (by decide +kernel) rfl) (
  fm (z_i2l (by decide +kernel)) (
  fm (z_lconst (n := 0) (by decide +kernel) (by decide)) (
  fm (z_ldc2 (i := 161) (by decide +kernel) wd_5_5) (
  fm (z_invS (idx := 43) (by decide +kernel) wd_4_72 wd_4_73 wd_1_7 wd_4_74 (by decide +kernel) ⟨Nat.le_of_ble_eq_true rfl, Nat.le_of_ble_eq_true rfl⟩) (
  fm (z_if_ne (off := 8) (by decide +kernel) (by decide)) (
  fm (z_ldc (i := 40) (by decide +kernel) wd_4_76) (
  fm (z_goto (off := 8) (by decide +kernel) (by decide)) (
  fm (z_aload_n (j := 0) (by decide +kernel) rfl) (
  fm (z_iload_n (j := 3) (by decide +kernel) rfl) (
  fm (z_inv (idx := 163) rfl (by decide +kernel) wd_5_6 wd_5_8 ws_48 wd_1_7 wd_5_9 (by decide +kernel) ⟨Nat.le_of_ble_eq_true rfl, Nat.le_of_ble_eq_true rfl⟩) (
  fm (z_istore (i := 4) (by decide +kernel) (by decide)) (
  fm (z_iload (i := 4) (by decide +kernel)) (
  fm (z_if_eq (off := 10) (by decide +kernel) (by decide)) (
  fm (z_aload_n (j := 0) (by decide +kernel) rfl) (
  fm (z_iload (i := 4) (by decide +kernel)) (
  fm (z_inv (idx := 58) rfl (by decide +kernel) wd_4_77 wd_4_79 ws_28 wd_1_7 wd_4_80 (by decide +kernel) ⟨Nat.le_of_ble_eq_true rfl, Nat.le_of_ble_eq_true rfl⟩) (
  fm (z_iret rfl (by decide +kernel)) (
  fm (z_aload_n (j := 0) (by decide +kernel) rfl) (
  fm (z_inv (idx := 130) rfl (by decide +kernel) wd_4_200 wd_4_202 ws_43 wd_1_7 wd_4_203 (by decide +kernel) ⟨Nat.le_of_ble_eq_true rfl, Nat.le_of_ble_eq_true rfl⟩) (
  fm (z_aload_n (j := 0) (by decide +kernel) rfl) (
  fm (z_inv (idx := 147) rfl (by decide +kernel) wd_5_15 wd_5_17 ws_50 wd_1_7 wd_5_18 (by decide +kernel) ⟨Nat.le_of_ble_eq_true rfl, Nat.le_of_ble_eq_true rfl⟩) (
  fm (z_iconst (n := (-1)) (by decide +kernel) (by decide)) (
  fm (z_istore (i := 5) (by decide +kernel) (by decide)) (
  fm (z_iconst (n := 1) (by decide +kernel) (by decide)) (
  fm (z_istore (i := 6) (by decide +kernel) (by decide)) (
  fm (z_iload (i := 6) (by decide +kernel)) (
  fm (z_if_eq (off := 58) (by decide +kernel) (by decide)) (
  fm (z_aload_n (j := 0) (by decide +kernel) rfl) (
  fm (z_inv (idx := 150) rfl (by decide +kernel) wd_5_19 wd_5_21 ws_51 wd_1_7 wd_5_22 (by decide +kernel) ⟨Nat.le_of_ble_eq_true rfl, Nat.le_of_ble_eq_true rfl⟩) (
  fm (z_aload_n (j := 0) (by decide +kernel) rfl) (
  fm (z_iload_n (j := 3) (by decide +kernel) rfl) (
  fm (z_inv (idx := 122) rfl (by decide +kernel) wd_4_162 wd_4_164 ws_38 wd_1_7 wd_4_165 (by decide +kernel) ⟨Nat.le_of_ble_eq_true rfl, Nat.le_of_ble_eq_true rfl⟩) (
  fm (z_istore (i := 7) (by decide +kernel) (by decide)) (
  fm (z_aload_n (j := 0) (by decide +kernel) rfl) (
  fm (z_iload_n (j := 1) (by decide +kernel) rfl) (
  fm (z_iconst (n := 1) (by decide +kernel) (by decide)) (
  fm (z_inv (idx := 62) rfl (by decide +kernel) wd_4_98 wd_4_100 ws_30 wd_1_7 wd_4_101 (by decide +kernel) ⟨Nat.le_of_ble_eq_true rfl, Nat.le_of_ble_eq_true rfl⟩) (
  fm (z_iload_n (j := 2) (by decide +kernel) rfl) (
  fm (z_icmp_ne (off := 12) (by decide +kernel) (by decide)) (
  fm (z_aload_n (j := 0) (by decide +kernel) rfl) (
  fm (z_getf (idx := 22) awX5 rfl (by decide) wd_4_17 rfl (by decide +kernel)) (
  fm (z_iload_n (j := 1) (by decide +kernel) rfl) (
  fm (z_iald (by decide +kernel)) (
  fm (z_goto (off := 4) (by decide +kernel) (by decide)) (
  fm (z_iconst (n := (-1)) (by decide +kernel) (by decide)) (
  fm (z_istore (i := 5) (by decide +kernel) (by decide)) (
  fm (z_iload (i := 5) (by decide +kernel)) (
  fm (z_if_ge (off := 14) (by decide +kernel) (by decide)) (
  fm (z_aload_n (j := 0) (by decide +kernel) rfl) (
  fm (z_inv (idx := 157) rfl (by decide +kernel) wd_5_23 wd_5_25 ws_52 wd_1_7 wd_5_26 (by decide +kernel) ⟨Nat.le_of_ble_eq_true rfl, Nat.le_of_ble_eq_true rfl⟩) (
  fm (z_if_eq (off := 7) (by decide +kernel) (by decide)) (
  fm (z_iconst (n := 1) (by decide +kernel) (by decide)) (
  fm (z_goto (off := 4) (by decide +kernel) (by decide)) (
  fm (z_iconst (n := 0) (by decide +kernel) (by decide)) (
  fm (z_istore (i := 6) (by decide +kernel) (by decide)) (
  fm (z_goto (off := (-57)) (by decide +kernel) (by decide)) (
  fm (z_aload_n (j := 0) (by decide +kernel) rfl) (
  fm (z_inv (idx := 142) rfl (by decide +kernel) wd_4_216 wd_4_218 ws_47 wd_1_7 wd_4_219 (by decide +kernel) ⟨Nat.le_of_ble_eq_true rfl, Nat.le_of_ble_eq_true rfl⟩) (
  fm (z_iload (i := 5) (by decide +kernel)) (
  fm (z_if_ge (off := 12) (by decide +kernel) (by decide)) (
  fm (z_aload_n (j := 0) (by decide +kernel) rfl) (
  fm (z_ldc (i := 145) (by decide +kernel) wd_4_224) (
  fm (z_inv (idx := 58) rfl (by decide +kernel) wd_4_77 wd_4_79 ws_28 wd_1_7 wd_4_80 (by decide +kernel) ⟨Nat.le_of_ble_eq_true rfl, Nat.le_of_ble_eq_true rfl⟩) (
  fm (z_goto (off := 5) (by decide +kernel) (by decide)) (
  fm (z_iload (i := 5) (by decide +kernel)) (
  fm (z_iret rfl (by decide +kernel)) (fn))))))))))))))))))))))))))))))))))))))))))))))))))))))))))))))))))))))))))
def kX5_deal : Cd := [(0, s_iload 1 1), (1, s_invS mX5_isDays 1 4), (4, s_if (fun x => x = 0) 7 14), (7, s_aload 0 8), (8, s_pushi (-1000001) 10), (10, s_inv mX5_finds 5 1 13), (13, s_iret), (14, s_aload 0 15), (15, s_iload 1 16), (16, s_inv mX5_isTooLate 5 1 19), (19, s_if (fun x => x = 0) 29 22), (22, s_aload 0 23), (23, s_pushi (-1000005) 25), (25, s_inv mX5_finds 5 1 28), (28, s_iret), (29, s_aload 0 30), (30, s_inv mX5_saves 5 0 33), (33, s_pushi (-1) 34), (34, s_istore 2 35), (35, s_pushi 0 36), (36, s_istore 3 37), (37, s_iload 3 38), (38, s_aload 0 39), (39, s_getf 5 0 42), (42, s_pushi 1 43), (43, s_iald 44), (44, s_icmp (fun x y => y ≤ x) 173 47), (47, s_iload 2 48), (48, s_if (fun x => 0 ≤ x) 173 51), (51, s_iload 3 52), (52, s_pushi 1 53), (53, s_bin (fun x y => x + y) 54), (54, s_istore 4 56), (56, s_iload 4 58), (58, s_aload 0 59), (59, s_getf 5 0 62), (62, s_pushi 1 63), (63, s_iald 64), (64, s_icmp (fun x y => y ≤ x) 167 67), (67, s_iload 2 68), (68, s_if (fun x => 0 ≤ x) 167 71), (71, s_aload 0 72), (72, s_iload 3 73), (73, s_iload 1 74), (74, s_inv mX5_coinOf 5 2 77), (77, s_istore 5 79), (79, s_aload 0 80), (80, s_iload 4 82), (82, s_iload 1 83), (83, s_inv mX5_coinOf 5 2 86), (86, s_istore 6 88), (88, s_aload 0 89), (89, s_iload 3 90), (90, s_iload 4 92), (92, s_inv mX5_swaps 5 2 95), (95, s_aload 0 96), (96, s_iload 3 97), (97, s_iload 1 98), (98, s_inv mX5_coinOf 5 2 101), (101, s_iload 5 103), (103, s_icmp (fun x y => x ≤ y) 110 106), (106, s_pushi 1 107), (107, s_goto 111), (110, s_pushi 0 111), (111, s_istore 7 113), (113, s_aload 0 114), (114, s_iload 3 115), (115, s_iload 4 117), (117, s_inv mX5_swaps 5 2 120), (120, s_aload 0 121), (121, s_iload 4 123), (123, s_iload 1 124), (124, s_inv mX5_coinOf 5 2 127), (127, s_iload 6 129), (129, s_icmp (fun x y => x ≤ y) 141 132), (132, s_iload 7 134), (134, s_if (fun x => x = 0) 141 137), (137, s_pushi 1 138), (138, s_goto 142), (141, s_pushi 0 142), (142, s_istore 7 144), (144, s_iload 7 146), (146, s_if (fun x => x = 0) 159 149), (149, s_pushi 10 151), (151, s_iload 3 152), (152, s_bin (fun x y => x * y) 153), (153, s_iload 4 155), (155, s_bin (fun x y => x + y) 156), (156, s_goto 160), (159, s_pushi (-1) 160), (160, s_istore 2 161), (161, s_iinc 4 1 164), (164, s_goto 56), (167, s_iinc 3 1 170), (170, s_goto 37), (173, s_iload 2 174), (174, s_if (fun x => 0 ≤ x) 186 177), (177, s_aload 0 178), (178, s_pushi (-1000004) 180), (180, s_inv mX5_finds 5 1 183), (183, s_goto 187), (186, s_iload 2 187), (187, s_iret)]
set_option maxRecDepth 20000 in
theorem zX5_deal : ∀ q ∈ kX5_deal, Snd RX5 cX5_deal 8 (some .int) (rmM mX5_deal) q.1 q.2 :=
  fm (z_iload_n (j := 1) (by decide +kernel) rfl) (
  fm (z_invS (idx := 169) (by decide +kernel) wd_5_39 wd_5_40 wd_1_7 wd_5_41 (by decide +kernel) ⟨Nat.le_of_ble_eq_true rfl, Nat.le_of_ble_eq_true rfl⟩) (
  fm (z_if_ne (off := 10) (by decide +kernel) (by decide)) (
  fm (z_aload_n (j := 0) (by decide +kernel) rfl) (
  fm (z_ldc (i := 40) (by decide +kernel) wd_4_76) (
  fm (z_inv (idx := 58) rfl (by decide +kernel) wd_4_77 wd_4_79 ws_28 wd_1_7 wd_4_80 (by decide +kernel) ⟨Nat.le_of_ble_eq_true rfl, Nat.le_of_ble_eq_true rfl⟩) (
  fm (z_iret rfl (by decide +kernel)) (
  fm (z_aload_n (j := 0) (by decide +kernel) rfl) (
  fm (z_iload_n (j := 1) (by decide +kernel) rfl) (
  fm (z_inv (idx := 119) rfl (by decide +kernel) wd_4_158 wd_4_160 ws_37 wd_1_7 wd_4_161 (by decide +kernel) ⟨Nat.le_of_ble_eq_true rfl, Nat.le_of_ble_eq_true rfl⟩) (
  fm (z_if_eq (off := 10) (by decide +kernel) (by decide)) (
  fm (z_aload_n (j := 0) (by decide +kernel) rfl) (
  fm (z_ldc (i := 70) (by decide +kernel) wd_4_105) (
  fm (z_inv (idx := 58) rfl (by decide +kernel) wd_4_77 wd_4_79 ws_28 wd_1_7 wd_4_80 (by decide +kernel) ⟨Nat.le_of_ble_eq_true rfl, Nat.le_of_ble_eq_true rfl⟩) (
  fm (z_iret rfl (by decide +kernel)) (
  fm (z_aload_n (j := 0) (by decide +kernel) rfl) (
  fm (z_inv (idx := 130) rfl (by decide +kernel) wd_4_200 wd_4_202 ws_43 wd_1_7 wd_4_203 (by decide +kernel) ⟨Nat.le_of_ble_eq_true rfl, Nat.le_of_ble_eq_true rfl⟩) (
  fm (z_iconst (n := (-1)) (by decide +kernel) (by decide)) (
  fm (z_istore_n (j := 2) (by decide +kernel) rfl (by decide)) (
  fm (z_iconst (n := 0) (by decide +kernel) (by decide)) (
  fm (z_istore_n (j := 3) (by decide +kernel) rfl (by decide)) (
  fm (z_iload_n (j := 3) (by decide +kernel) rfl) (
  fm (z_aload_n (j := 0) (by decide +kernel) rfl) (
  fm (z_getf (idx := 7) awX5 rfl (by decide) wd_4_12 rfl (by decide +kernel)) (
  fm (z_iconst (n := 1) (by decide +kernel) (by decide)) (
  fm (z_iald (by decide +kernel)) (
  fm (z_icmp_ge (off := 129) (by decide +kernel) (by decide)) (
  fm (z_iload_n (j := 2) (by decide +kernel) rfl) (
  fm (z_if_ge (off := 125) (by decide +kernel) (by decide)) (
  fm (z_iload_n (j := 3) (by decide +kernel) rfl) (
  fm (z_iconst (n := 1) (by decide +kernel) (by decide)) (
  fm (z_iadd (by decide +kernel)) (
  fm (z_istore (i := 4) (by decide +kernel) (by decide)) (
  fm (z_iload (i := 4) (by decide +kernel)) (
  fm (z_aload_n (j := 0) (by decide +kernel) rfl) (
  fm (z_getf (idx := 7) awX5 rfl (by decide) wd_4_12 rfl (by decide +kernel)) (
  fm (z_iconst (n := 1) (by decide +kernel) (by decide)) (
  fm (z_iald (by decide +kernel)) (
  fm (z_icmp_ge (off := 103) (by decide +kernel) (by decide)) (
  fm (z_iload_n (j := 2) (by decide +kernel) rfl) (
  fm (z_if_ge (off := 99) (by decide +kernel) (by decide)) (
  fm (z_aload_n (j := 0) (by decide +kernel) rfl) (
  fm (z_iload_n (j := 3) (by decide +kernel) rfl) (
  fm (z_iload_n (j := 1) (by decide +kernel) rfl) (
  fm (z_inv (idx := 172) rfl (by decide +kernel) wd_5_42 wd_5_44 ws_53 wd_1_7 wd_5_45 (by decide +kernel) ⟨Nat.le_of_ble_eq_true rfl, Nat.le_of_ble_eq_true rfl⟩) (
  fm (z_istore (i := 5) (by decide +kernel) (by decide)) (
  fm (z_aload_n (j := 0) (by decide +kernel) rfl) (
  fm (z_iload (i := 4) (by decide +kernel)) (
  fm (z_iload_n (j := 1) (by decide +kernel) rfl) (
  fm (z_inv (idx := 172) rfl (by decide +kernel) wd_5_42 wd_5_44 ws_53 wd_1_7 wd_5_45 (by decide +kernel) ⟨Nat.le_of_ble_eq_true rfl, Nat.le_of_ble_eq_true rfl⟩) (
  fm (z_istore (i := 6) (by decide +kernel) (by decide)) (
  fm (z_aload_n (j := 0) (by decide +kernel) rfl) (
  fm (z_iload_n (j := 3) (by decide +kernel) rfl) (
  fm (z_iload (i := 4) (by decide +kernel)) (
  fm (z_inv (idx := 87) rfl (by decide +kernel) wd_4_136 wd_4_138 ws_35 wd_1_7 wd_4_139 (by decide +kernel) ⟨Nat.le_of_ble_eq_true rfl, Nat.le_of_ble_eq_true rfl⟩) (
  fm (z_aload_n (j := 0) (by decide +kernel) rfl) (
  fm (z_iload_n (j := 3) (by decide +kernel) rfl) (
  fm (z_iload_n (j := 1) (by decide +kernel) rfl) (
  fm (z_inv (idx := 172) rfl (by decide +kernel) wd_5_42 wd_5_44 ws_53 wd_1_7 wd_5_45 (by decide +kernel) ⟨Nat.le_of_ble_eq_true rfl, Nat.le_of_ble_eq_true rfl⟩) (
  fm (z_iload (i := 5) (by decide +kernel)) (
  fm (z_icmp_le (off := 7) (by decide +kernel) (by decide)) (
  fm (z_iconst (n := 1) (by decide +kernel) (by decide)) (
  fm (z_goto (off := 4) (by decide +kernel) (by decide)) (
  fm (z_iconst (n := 0) (by decide +kernel) (by decide)) (
  fm (z_istore (i := 7) (by decide +kernel) (by decide)) (
  fm (z_aload_n (j := 0) (by decide +kernel) rfl) (
  fm (z_iload_n (j := 3) (by decide +kernel) rfl) (
  fm (z_iload (i := 4) (by decide +kernel)) (
  fm (z_inv (idx := 87) rfl (by decide +kernel) wd_4_136 wd_4_138 ws_35 wd_1_7 wd_4_139 (by decide +kernel) ⟨Nat.le_of_ble_eq_true rfl, Nat.le_of_ble_eq_true rfl⟩) (
  fm (z_aload_n (j := 0) (by decide +kernel) rfl) (
  fm (z_iload (i := 4) (by decide +kernel)) (
  fm (z_iload_n (j := 1) (by decide +kernel) rfl) (
  fm (z_inv (idx := 172) rfl (by decide +kernel) wd_5_42 wd_5_44 ws_53 wd_1_7 wd_5_45 (by decide +kernel) ⟨Nat.le_of_ble_eq_true rfl, Nat.le_of_ble_eq_true rfl⟩) (
  fm (z_iload (i := 6) (by decide +kernel)) (
  fm (z_icmp_le (off := 12) (by decide +kernel) (by decide)) (
  fm (z_iload (i := 7) (by decide +kernel)) (
  fm (z_if_eq (off := 7) (by decide +kernel) (by decide)) (
  fm (z_iconst (n := 1) (by decide +kernel) (by decide)) (
  fm (z_goto (off := 4) (by decide +kernel) (by decide)) (
  fm (z_iconst (n := 0) (by decide +kernel) (by decide)) (
  fm (z_istore (i := 7) (by decide +kernel) (by decide)) (
  fm (z_iload (i := 7) (by decide +kernel)) (
  fm (z_if_eq (off := 13) (by decide +kernel) (by decide)) (
  fm (z_bipush (n := 10) (by decide +kernel) (by decide)) (
  fm (z_iload_n (j := 3) (by decide +kernel) rfl) (
  fm (z_imul (by decide +kernel)) (
  fm (z_iload (i := 4) (by decide +kernel)) (
  fm (z_iadd (by decide +kernel)) (
  fm (z_goto (off := 4) (by decide +kernel) (by decide)) (
  fm (z_iconst (n := (-1)) (by decide +kernel) (by decide)) (
  fm (z_istore_n (j := 2) (by decide +kernel) rfl (by decide)) (
  fm (z_iinc (n := 1) (by decide +kernel) (by decide) (by decide)) (
  fm (z_goto (off := (-108)) (by decide +kernel) (by decide)) (
  fm (z_iinc (n := 1) (by decide +kernel) (by decide) (by decide)) (
  fm (z_goto (off := (-133)) (by decide +kernel) (by decide)) (
  fm (z_iload_n (j := 2) (by decide +kernel) rfl) (
  fm (z_if_ge (off := 12) (by decide +kernel) (by decide)) (
  fm (z_aload_n (j := 0) (by decide +kernel) rfl) (
  fm (z_ldc (i := 145) (by decide +kernel) wd_4_224) (
  fm (z_inv (idx := 58) rfl (by decide +kernel) wd_4_77 wd_4_79 ws_28 wd_1_7 wd_4_80 (by decide +kernel) ⟨Nat.le_of_ble_eq_true rfl, Nat.le_of_ble_eq_true rfl⟩) (
  fm (z_goto (off := 4) (by decide +kernel) (by decide)) (
  fm (z_iload_n (j := 2) (by decide +kernel) rfl) (
  fm (z_iret rfl (by decide +kernel)) (fn)))))))))))))))))))))))))))))))))))))))))))))))))))))))))))))))))))))))))))))))))))))))))))))))))))))))
def kX5_draw : Cd := [(0, s_aload 0 1), (1, s_getf 5 0 4), (4, s_pushi 3 5), (5, s_aload 0 6), (6, s_getf 5 0 9), (9, s_pushi 3 10), (10, s_iald 11), (11, s_pushi 1103515245 13), (13, s_bin (fun x y => x * y) 14), (14, s_pushi 12345 17), (17, s_bin (fun x y => x + y) 18), (18, s_iast 19), (19, s_aload 0 20), (20, s_getf 5 0 23), (23, s_pushi 3 24), (24, s_iald 25), (25, s_pushi 8 27), (27, s_bin (fun x y => (x.toUInt32 >>> (y.toUInt32 &&& Int32.toUInt32 31)).toInt32) 28), (28, s_iret)]
set_option maxRecDepth 20000 in
theorem zX5_draw : ∀ q ∈ kX5_draw, Snd RX5 cX5_draw 1 (some .int) (rmM mX5_draw) q.1 q.2 :=
  fm (z_aload_n (j := 0) (by decide +kernel) rfl) (
  fm (z_getf (idx := 7) awX5 rfl (by decide) wd_4_12 rfl (by decide +kernel)) (
  fm (z_iconst (n := 3) (by decide +kernel) (by decide)) (
  fm (z_aload_n (j := 0) (by decide +kernel) rfl) (
  fm (z_getf (idx := 7) awX5 rfl (by decide) wd_4_12 rfl (by decide +kernel)) (
  fm (z_iconst (n := 3) (by decide +kernel) (by decide)) (
  fm (z_iald (by decide +kernel)) (
  fm (z_ldc (i := 47) (by decide +kernel) wd_5_107) (
  fm (z_imul (by decide +kernel)) (
  fm (z_sipush (n := 12345) (by decide +kernel) (by decide)) (
  fm (z_iadd (by decide +kernel)) (
  fm (z_iast (by decide +kernel)) (
  fm (z_aload_n (j := 0) (by decide +kernel) rfl) (
  fm (z_getf (idx := 7) awX5 rfl (by decide) wd_4_12 rfl (by decide +kernel)) (
  fm (z_iconst (n := 3) (by decide +kernel) (by decide)) (
  fm (z_iald (by decide +kernel)) (
  fm (z_bipush (n := 8) (by decide +kernel) (by decide)) (
  fm (z_iushr (by decide +kernel)) (
  fm (z_iret rfl (by decide +kernel)) (fn)))))))))))))))))))
def kX5_empty : Cd := [(0, s_aload 0 1), (1, s_iload 1 2), (2, s_inv mX5_isStall 5 1 5), (5, s_if (fun x => x = 0) 8 15), (8, s_aload 0 9), (9, s_pushi (-1000001) 11), (11, s_inv mX5_finds 5 1 14), (14, s_iret), (15, s_aload 0 16), (16, s_pushi 96 18), (18, s_inv mX5_isTooLate 5 1 21), (21, s_if (fun x => x = 0) 31 24), (24, s_aload 0 25), (25, s_pushi (-1000005) 27), (27, s_inv mX5_finds 5 1 30), (30, s_iret), (31, s_aload 0 32), (32, s_inv mX5_saves 5 0 35), (35, s_pushi 0 36), (36, s_istore 2 37), (37, s_iload 2 38), (38, s_pushi 97 40), (40, s_icmp (fun x y => y ≤ x) 63 43), (43, s_aload 0 44), (44, s_iload 1 45), (45, s_pushi 2 46), (46, s_inv mX5_its 5 2 49), (49, s_if (fun x => x ≤ 0) 63 52), (52, s_aload 0 53), (53, s_inv mX5_hour 5 0 56), (56, s_istore 3 57), (57, s_iinc 2 1 60), (60, s_goto 37), (63, s_aload 0 64), (64, s_inv mX5_putsBack 5 0 67), (67, s_iload 2 68), (68, s_pushi 96 70), (70, s_icmp (fun x y => x ≤ y) 82 73), (73, s_aload 0 74), (74, s_pushi (-1000004) 76), (76, s_inv mX5_finds 5 1 79), (79, s_goto 83), (82, s_iload 2 83), (83, s_iret)]
set_option maxRecDepth 20000 in
theorem zX5_empty : ∀ q ∈ kX5_empty, Snd RX5 cX5_empty 4 (some .int) (rmM mX5_empty) q.1 q.2 :=
  fm (z_aload_n (j := 0) (by decide +kernel) rfl) (
  fm (z_iload_n (j := 1) (by decide +kernel) rfl) (
  fm (z_inv (idx := 76) rfl (by decide +kernel) wd_4_115 wd_4_117 ws_32 wd_1_7 wd_4_118 (by decide +kernel) ⟨Nat.le_of_ble_eq_true rfl, Nat.le_of_ble_eq_true rfl⟩) (
  fm (z_if_ne (off := 10) (by decide +kernel) (by decide)) (
  fm (z_aload_n (j := 0) (by decide +kernel) rfl) (
  fm (z_ldc (i := 40) (by decide +kernel) wd_4_76) (
  fm (z_inv (idx := 58) rfl (by decide +kernel) wd_4_77 wd_4_79 ws_28 wd_1_7 wd_4_80 (by decide +kernel) ⟨Nat.le_of_ble_eq_true rfl, Nat.le_of_ble_eq_true rfl⟩) (
  fm (z_iret rfl (by decide +kernel)) (
  fm (z_aload_n (j := 0) (by decide +kernel) rfl) (
  fm (z_bipush (n := 96) (by decide +kernel) (by decide)) (
  fm (z_inv (idx := 119) rfl (by decide +kernel) wd_4_158 wd_4_160 ws_37 wd_1_7 wd_4_161 (by decide +kernel) ⟨Nat.le_of_ble_eq_true rfl, Nat.le_of_ble_eq_true rfl⟩) (
  fm (z_if_eq (off := 10) (by decide +kernel) (by decide)) (
  fm (z_aload_n (j := 0) (by decide +kernel) rfl) (
  fm (z_ldc (i := 70) (by decide +kernel) wd_4_105) (
  fm (z_inv (idx := 58) rfl (by decide +kernel) wd_4_77 wd_4_79 ws_28 wd_1_7 wd_4_80 (by decide +kernel) ⟨Nat.le_of_ble_eq_true rfl, Nat.le_of_ble_eq_true rfl⟩) (
  fm (z_iret rfl (by decide +kernel)) (
  fm (z_aload_n (j := 0) (by decide +kernel) rfl) (
  fm (z_inv (idx := 130) rfl (by decide +kernel) wd_4_200 wd_4_202 ws_43 wd_1_7 wd_4_203 (by decide +kernel) ⟨Nat.le_of_ble_eq_true rfl, Nat.le_of_ble_eq_true rfl⟩) (
  fm (z_iconst (n := 0) (by decide +kernel) (by decide)) (
  fm (z_istore_n (j := 2) (by decide +kernel) rfl (by decide)) (
  fm (z_iload_n (j := 2) (by decide +kernel) rfl) (
  fm (z_bipush (n := 97) (by decide +kernel) (by decide)) (
  fm (z_icmp_ge (off := 23) (by decide +kernel) (by decide)) (
  fm (z_aload_n (j := 0) (by decide +kernel) rfl) (
  fm (z_iload_n (j := 1) (by decide +kernel) rfl) (
  fm (z_iconst (n := 2) (by decide +kernel) (by decide)) (
  fm (z_inv (idx := 62) rfl (by decide +kernel) wd_4_98 wd_4_100 ws_30 wd_1_7 wd_4_101 (by decide +kernel) ⟨Nat.le_of_ble_eq_true rfl, Nat.le_of_ble_eq_true rfl⟩) (
  fm (z_if_le (off := 14) (by decide +kernel) (by decide)) (
  fm (z_aload_n (j := 0) (by decide +kernel) rfl) (
  fm (z_inv (idx := 113) rfl (by decide +kernel) wd_4_166 wd_4_168 ws_39 wd_1_7 wd_4_169 (by decide +kernel) ⟨Nat.le_of_ble_eq_true rfl, Nat.le_of_ble_eq_true rfl⟩) (
  fm (z_istore_n (j := 3) (by decide +kernel) rfl (by decide)) (
  fm (z_iinc (n := 1) (by decide +kernel) (by decide) (by decide)) (
  fm (z_goto (off := (-23)) (by decide +kernel) (by decide)) (
  fm (z_aload_n (j := 0) (by decide +kernel) rfl) (
  fm (z_inv (idx := 142) rfl (by decide +kernel) wd_4_216 wd_4_218 ws_47 wd_1_7 wd_4_219 (by decide +kernel) ⟨Nat.le_of_ble_eq_true rfl, Nat.le_of_ble_eq_true rfl⟩) (
  fm (z_iload_n (j := 2) (by decide +kernel) rfl) (
  fm (z_bipush (n := 96) (by decide +kernel) (by decide)) (
  fm (z_icmp_le (off := 12) (by decide +kernel) (by decide)) (
  fm (z_aload_n (j := 0) (by decide +kernel) rfl) (
  fm (z_ldc (i := 145) (by decide +kernel) wd_4_224) (
  fm (z_inv (idx := 58) rfl (by decide +kernel) wd_4_77 wd_4_79 ws_28 wd_1_7 wd_4_80 (by decide +kernel) ⟨Nat.le_of_ble_eq_true rfl, Nat.le_of_ble_eq_true rfl⟩) (
  fm (z_goto (off := 4) (by decide +kernel) (by decide)) (
  fm (z_iload_n (j := 2) (by decide +kernel) rfl) (
  fm (z_iret rfl (by decide +kernel)) (fn))))))))))))))))))))))))))))))))))))))))))))
def kX5_emptySet : Cd := [(0, s_pushi 0 1), (1, s_istore 1 2), (2, s_pushi 0 3), (3, s_istore 2 4), (4, s_iload 2 5), (5, s_aload 0 6), (6, s_getf 5 0 9), (9, s_pushi 1 10), (10, s_iald 11), (11, s_icmp (fun x y => y ≤ x) 39 14), (14, s_iload 1 15), (15, s_aload 0 16), (16, s_iload 2 17), (17, s_pushi 2 18), (18, s_inv mX5_its 5 2 21), (21, s_if (fun x => x = 0) 24 30), (24, s_pushi 1 25), (25, s_iload 2 26), (26, s_bin (fun x y => x <<< (y &&& 31)) 27), (27, s_goto 31), (30, s_pushi 0 31), (31, s_bin (fun x y => x ||| y) 32), (32, s_istore 1 33), (33, s_iinc 2 1 36), (36, s_goto 4), (39, s_iload 1 40), (40, s_iret)]
set_option maxRecDepth 20000 in
theorem zX5_emptySet : ∀ q ∈ kX5_emptySet, Snd RX5 cX5_emptySet 3 (some .int) (rmM mX5_emptySet) q.1 q.2 :=
  fm (z_iconst (n := 0) (by decide +kernel) (by decide)) (
  fm (z_istore_n (j := 1) (by decide +kernel) rfl (by decide)) (
  fm (z_iconst (n := 0) (by decide +kernel) (by decide)) (
  fm (z_istore_n (j := 2) (by decide +kernel) rfl (by decide)) (
  fm (z_iload_n (j := 2) (by decide +kernel) rfl) (
  fm (z_aload_n (j := 0) (by decide +kernel) rfl) (
  fm (z_getf (idx := 7) awX5 rfl (by decide) wd_4_12 rfl (by decide +kernel)) (
  fm (z_iconst (n := 1) (by decide +kernel) (by decide)) (
  fm (z_iald (by decide +kernel)) (
  fm (z_icmp_ge (off := 28) (by decide +kernel) (by decide)) (
  fm (z_iload_n (j := 1) (by decide +kernel) rfl) (
  fm (z_aload_n (j := 0) (by decide +kernel) rfl) (
  fm (z_iload_n (j := 2) (by decide +kernel) rfl) (
  fm (z_iconst (n := 2) (by decide +kernel) (by decide)) (
  fm (z_inv (idx := 62) rfl (by decide +kernel) wd_4_98 wd_4_100 ws_30 wd_1_7 wd_4_101 (by decide +kernel) ⟨Nat.le_of_ble_eq_true rfl, Nat.le_of_ble_eq_true rfl⟩) (
  fm (z_if_ne (off := 9) (by decide +kernel) (by decide)) (
  fm (z_iconst (n := 1) (by decide +kernel) (by decide)) (
  fm (z_iload_n (j := 2) (by decide +kernel) rfl) (
  fm (z_ishl (by decide +kernel)) (
  fm (z_goto (off := 4) (by decide +kernel) (by decide)) (
  fm (z_iconst (n := 0) (by decide +kernel) (by decide)) (
  fm (z_ior (by decide +kernel)) (
  fm (z_istore_n (j := 1) (by decide +kernel) rfl (by decide)) (
  fm (z_iinc (n := 1) (by decide +kernel) (by decide) (by decide)) (
  fm (z_goto (off := (-32)) (by decide +kernel) (by decide)) (
  fm (z_iload_n (j := 1) (by decide +kernel) rfl) (
  fm (z_iret rfl (by decide +kernel)) (fn)))))))))))))))))))))))))))
def kX5_ever : Cd := [(0, s_aload 0 1), (1, s_iload 1 2), (2, s_inv mX5_isStall 5 1 5), (5, s_if (fun x => x = 0) 15 8), (8, s_iload 2 9), (9, s_invS mX5_isSpan 1 12), (12, s_if (fun x => x = 0) 15 22), (15, s_aload 0 16), (16, s_pushi (-1000001) 18), (18, s_inv mX5_finds 5 1 21), (21, s_iret), (22, s_aload 0 23), (23, s_iload 2 24), (24, s_inv mX5_isTooLate 5 1 27), (27, s_if (fun x => x = 0) 37 30), (30, s_aload 0 31), (31, s_pushi (-1000005) 33), (33, s_inv mX5_finds 5 1 36), (36, s_iret), (37, s_aload 0 38), (38, s_inv mX5_saves 5 0 41), (41, s_aload 0 42), (42, s_iload 1 43), (43, s_inv mX5_besideSet 5 1 46), (46, s_istore 3 47), (47, s_pushi 0 48), (48, s_istore 4 50), (50, s_iload 4 52), (52, s_iload 2 53), (53, s_icmp (fun x y => y ≤ x) 76 56), (56, s_aload 0 57), (57, s_inv mX5_hour 5 0 60), (60, s_istore 5 62), (62, s_iload 3 63), (63, s_aload 0 64), (64, s_iload 1 65), (65, s_inv mX5_besideSet 5 1 68), (68, s_bin (fun x y => x ||| y) 69), (69, s_istore 3 70), (70, s_iinc 4 1 73), (73, s_goto 50), (76, s_aload 0 77), (77, s_inv mX5_putsBack 5 0 80), (80, s_iload 3 81), (81, s_iret)]
set_option maxRecDepth 20000 in
theorem zX5_ever : ∀ q ∈ kX5_ever, Snd RX5 cX5_ever 6 (some .int) (rmM mX5_ever) q.1 q.2 :=
  fm (z_aload_n (j := 0) (by decide +kernel) rfl) (
  fm (z_iload_n (j := 1) (by decide +kernel) rfl) (
  fm (z_inv (idx := 76) rfl (by decide +kernel) wd_4_115 wd_4_117 ws_32 wd_1_7 wd_4_118 (by decide +kernel) ⟨Nat.le_of_ble_eq_true rfl, Nat.le_of_ble_eq_true rfl⟩) (
  fm (z_if_eq (off := 10) (by decide +kernel) (by decide)) (
  fm (z_iload_n (j := 2) (by decide +kernel) rfl) (
  fm (z_invS (idx := 127) (by decide +kernel) wd_4_196 wd_4_197 wd_1_7 wd_4_198 (by decide +kernel) ⟨Nat.le_of_ble_eq_true rfl, Nat.le_of_ble_eq_true rfl⟩) (
  fm (z_if_ne (off := 10) (by decide +kernel) (by decide)) (
  fm (z_aload_n (j := 0) (by decide +kernel) rfl) (
  fm (z_ldc (i := 40) (by decide +kernel) wd_4_76) (
  fm (z_inv (idx := 58) rfl (by decide +kernel) wd_4_77 wd_4_79 ws_28 wd_1_7 wd_4_80 (by decide +kernel) ⟨Nat.le_of_ble_eq_true rfl, Nat.le_of_ble_eq_true rfl⟩) (
  fm (z_iret rfl (by decide +kernel)) (
  fm (z_aload_n (j := 0) (by decide +kernel) rfl) (
  fm (z_iload_n (j := 2) (by decide +kernel) rfl) (
  fm (z_inv (idx := 119) rfl (by decide +kernel) wd_4_158 wd_4_160 ws_37 wd_1_7 wd_4_161 (by decide +kernel) ⟨Nat.le_of_ble_eq_true rfl, Nat.le_of_ble_eq_true rfl⟩) (
  fm (z_if_eq (off := 10) (by decide +kernel) (by decide)) (
  fm (z_aload_n (j := 0) (by decide +kernel) rfl) (
  fm (z_ldc (i := 70) (by decide +kernel) wd_4_105) (
  fm (z_inv (idx := 58) rfl (by decide +kernel) wd_4_77 wd_4_79 ws_28 wd_1_7 wd_4_80 (by decide +kernel) ⟨Nat.le_of_ble_eq_true rfl, Nat.le_of_ble_eq_true rfl⟩) (
  fm (z_iret rfl (by decide +kernel)) (
  fm (z_aload_n (j := 0) (by decide +kernel) rfl) (
  fm (z_inv (idx := 130) rfl (by decide +kernel) wd_4_200 wd_4_202 ws_43 wd_1_7 wd_4_203 (by decide +kernel) ⟨Nat.le_of_ble_eq_true rfl, Nat.le_of_ble_eq_true rfl⟩) (
  fm (z_aload_n (j := 0) (by decide +kernel) rfl) (
  fm (z_iload_n (j := 1) (by decide +kernel) rfl) (
  fm (z_inv (idx := 178) rfl (by decide +kernel) wd_5_58 wd_5_60 ws_54 wd_1_7 wd_5_61 (by decide +kernel) ⟨Nat.le_of_ble_eq_true rfl, Nat.le_of_ble_eq_true rfl⟩) (
  fm (z_istore_n (j := 3) (by decide +kernel) rfl (by decide)) (
  fm (z_iconst (n := 0) (by decide +kernel) (by decide)) (
  fm (z_istore (i := 4) (by decide +kernel) (by decide)) (
  fm (z_iload (i := 4) (by decide +kernel)) (
  fm (z_iload_n (j := 2) (by decide +kernel) rfl) (
  fm (z_icmp_ge (off := 23) (by decide +kernel) (by decide)) (
  fm (z_aload_n (j := 0) (by decide +kernel) rfl) (
  fm (z_inv (idx := 113) rfl (by decide +kernel) wd_4_166 wd_4_168 ws_39 wd_1_7 wd_4_169 (by decide +kernel) ⟨Nat.le_of_ble_eq_true rfl, Nat.le_of_ble_eq_true rfl⟩) (
  fm (z_istore (i := 5) (by decide +kernel) (by decide)) (
  fm (z_iload_n (j := 3) (by decide +kernel) rfl) (
  fm (z_aload_n (j := 0) (by decide +kernel) rfl) (
  fm (z_iload_n (j := 1) (by decide +kernel) rfl) (
  fm (z_inv (idx := 178) rfl (by decide +kernel) wd_5_58 wd_5_60 ws_54 wd_1_7 wd_5_61 (by decide +kernel) ⟨Nat.le_of_ble_eq_true rfl, Nat.le_of_ble_eq_true rfl⟩) (
  fm (z_ior (by decide +kernel)) (
  fm (z_istore_n (j := 3) (by decide +kernel) rfl (by decide)) (
  fm (z_iinc (n := 1) (by decide +kernel) (by decide) (by decide)) (
  fm (z_goto (off := (-23)) (by decide +kernel) (by decide)) (
  fm (z_aload_n (j := 0) (by decide +kernel) rfl) (
  fm (z_inv (idx := 142) rfl (by decide +kernel) wd_4_216 wd_4_218 ws_47 wd_1_7 wd_4_219 (by decide +kernel) ⟨Nat.le_of_ble_eq_true rfl, Nat.le_of_ble_eq_true rfl⟩) (
  fm (z_iload_n (j := 3) (by decide +kernel) rfl) (
  fm (z_iret rfl (by decide +kernel)) (fn)))))))))))))))))))))))))))))))))))))))))))))
def kX5_everyPlace : Cd := [(0, s_aload 0 1), (1, s_pushi 1 2), (2, s_aload 0 3), (3, s_getf 5 0 6), (6, s_pushi 1 7), (7, s_iald 8), (8, s_bin (fun x y => x <<< (y &&& 31)) 9), (9, s_pushi 1 10), (10, s_bin (fun x y => x - y) 11), (11, s_inv mX5_placesOf 5 1 14), (14, s_iret)]
set_option maxRecDepth 20000 in
theorem zX5_everyPlace : ∀ q ∈ kX5_everyPlace, Snd RX5 cX5_everyPlace 1 (some .int) (rmM mX5_everyPlace) q.1 q.2 :=
  fm (z_aload_n (j := 0) (by decide +kernel) rfl) (
  fm (z_iconst (n := 1) (by decide +kernel) (by decide)) (
  fm (z_aload_n (j := 0) (by decide +kernel) rfl) (
  fm (z_getf (idx := 7) awX5 rfl (by decide) wd_4_12 rfl (by decide +kernel)) (
  fm (z_iconst (n := 1) (by decide +kernel) (by decide)) (
  fm (z_iald (by decide +kernel)) (
  fm (z_ishl (by decide +kernel)) (
  fm (z_iconst (n := 1) (by decide +kernel) (by decide)) (
  fm (z_isub (by decide +kernel)) (
  fm (z_inv (idx := 107) rfl (by decide +kernel) wd_4_178 wd_4_180 ws_42 wd_1_7 wd_4_181 (by decide +kernel) ⟨Nat.le_of_ble_eq_true rfl, Nat.le_of_ble_eq_true rfl⟩) (
  fm (z_iret rfl (by decide +kernel)) (fn)))))))))))
def kX5_farFrom : Cd := [(0, s_pushi 1 1), (1, s_istore 2 2), (2, s_iload 1 3), (3, s_iload 0 4), (4, s_iload 2 5), (5, s_bin (fun x y => x + y) 6), (6, s_pushi 12 8), (8, s_rem 9), (9, s_invS mX5_has 2 12), (12, s_if (fun x => x = 0) 21 15), (15, s_iinc 2 1 18), (18, s_goto 2), (21, s_iload 2 22), (22, s_iret)]
set_option maxRecDepth 20000 in
theorem zX5_farFrom : ∀ q ∈ kX5_farFrom, Snd RX5 cX5_farFrom 3 (some .int) (rmM mX5_farFrom) q.1 q.2 :=
  fm (z_iconst (n := 1) (by decide +kernel) (by decide)) (
  fm (z_istore_n (j := 2) (by decide +kernel) rfl (by decide)) (
  fm (z_iload_n (j := 1) (by decide +kernel) rfl) (
  fm (z_iload_n (j := 0) (by decide +kernel) rfl) (
  fm (z_iload_n (j := 2) (by decide +kernel) rfl) (
  fm (z_iadd (by decide +kernel)) (
  fm (z_bipush (n := 12) (by decide +kernel) (by decide)) (
  fm (z_irem (by decide +kernel)) (
  fm (z_invS (idx := 99) (by decide +kernel) wd_4_182 wd_4_183 wd_1_7 wd_4_184 (by decide +kernel) ⟨Nat.le_of_ble_eq_true rfl, Nat.le_of_ble_eq_true rfl⟩) (
  fm (z_if_eq (off := 9) (by decide +kernel) (by decide)) (
  fm (z_iinc (n := 1) (by decide +kernel) (by decide) (by decide)) (
  fm (z_goto (off := (-16)) (by decide +kernel) (by decide)) (
  fm (z_iload_n (j := 2) (by decide +kernel) rfl) (
  fm (z_iret rfl (by decide +kernel)) (fn))))))))))))))
def kX5_feed : Cd := [(0, s_iload 2 1), (1, s_i2l 2), (2, s_pushl 1 3), (3, s_pushl 4 6), (6, s_invS mX5_in 3 9), (9, s_if (fun x => x = 0) 12 19), (12, s_aload 0 13), (13, s_pushi (-1000001) 15), (15, s_inv mX5_finds 5 1 18), (18, s_iret), (19, s_aload 0 20), (20, s_getf 5 8 23), (23, s_iload 2 24), (24, s_bin (fun x y => x + y) 25), (25, s_pushi 120 27), (27, s_icmp (fun x y => x ≤ y) 37 30), (30, s_aload 0 31), (31, s_pushi (-1000002) 33), (33, s_inv mX5_finds 5 1 36), (36, s_iret), (37, s_iload 2 38), (38, s_pushi 1 39), (39, s_bin (fun x y => x - y) 40), (40, s_istore 3 41), (41, s_iload 3 42), (42, s_if (fun x => x < 0) 80 45), (45, s_aload 0 46), (46, s_getf 5 7 49), (49, s_aload 0 50), (50, s_getf 5 8 53), (53, s_iload 1 54), (54, s_pushi 8 56), (56, s_iload 3 57), (57, s_bin (fun x y => x * y) 58), (58, s_bin (fun x y => x >>> (y &&& 31)) 59), (59, s_pushi 255 62), (62, s_bin (fun x y => x &&& y) 63), (63, s_iast 64), (64, s_aload 0 65), (65, s_dup 66), (66, s_getf 5 8 69), (69, s_pushi 1 70), (70, s_bin (fun x y => x + y) 71), (71, s_putf .int 5 8 74), (74, s_iinc 3 (-1) 77), (77, s_goto 41), (80, s_aload 0 81), (81, s_getf 5 8 84), (84, s_iret)]
set_option maxRecDepth 20000 in
theorem zX5_feed : ∀ q ∈ kX5_feed, Snd RX5 cX5_feed 4 (some .int) (rmM mX5_feed) q.1 q.2 :=
  fm (z_iload_n (j := 2) (by decide +kernel) rfl) (
  fm (z_i2l (by decide +kernel)) (
  fm (z_lconst (n := 1) (by decide +kernel) (by decide)) (
  fm (z_ldc2 (i := 192) (by decide +kernel) wd_5_116) (
  fm (z_invS (idx := 43) (by decide +kernel) wd_4_72 wd_4_73 wd_1_7 wd_4_74 (by decide +kernel) ⟨Nat.le_of_ble_eq_true rfl, Nat.le_of_ble_eq_true rfl⟩) (
  fm (z_if_ne (off := 10) (by decide +kernel) (by decide)) (
  fm (z_aload_n (j := 0) (by decide +kernel) rfl) (
  fm (z_ldc (i := 40) (by decide +kernel) wd_4_76) (
  fm (z_inv (idx := 58) rfl (by decide +kernel) wd_4_77 wd_4_79 ws_28 wd_1_7 wd_4_80 (by decide +kernel) ⟨Nat.le_of_ble_eq_true rfl, Nat.le_of_ble_eq_true rfl⟩) (
  fm (z_iret rfl (by decide +kernel)) (
  fm (z_aload_n (j := 0) (by decide +kernel) rfl) (
  fm (z_getf (idx := 194) awX5 rfl (by decide) wd_4_20 rfl (by decide +kernel)) (
  fm (z_iload_n (j := 2) (by decide +kernel) rfl) (
  fm (z_iadd (by decide +kernel)) (
  fm (z_bipush (n := 120) (by decide +kernel) (by decide)) (
  fm (z_icmp_le (off := 10) (by decide +kernel) (by decide)) (
  fm (z_aload_n (j := 0) (by decide +kernel) rfl) (
  fm (z_ldc (i := 71) (by decide +kernel) wd_4_106) (
  fm (z_inv (idx := 58) rfl (by decide +kernel) wd_4_77 wd_4_79 ws_28 wd_1_7 wd_4_80 (by decide +kernel) ⟨Nat.le_of_ble_eq_true rfl, Nat.le_of_ble_eq_true rfl⟩) (
  fm (z_iret rfl (by decide +kernel)) (
  fm (z_iload_n (j := 2) (by decide +kernel) rfl) (
  fm (z_iconst (n := 1) (by decide +kernel) (by decide)) (
  fm (z_isub (by decide +kernel)) (
  fm (z_istore_n (j := 3) (by decide +kernel) rfl (by decide)) (
  fm (z_iload_n (j := 3) (by decide +kernel) rfl) (
  fm (z_if_lt (off := 38) (by decide +kernel) (by decide)) (
  fm (z_aload_n (j := 0) (by decide +kernel) rfl) (
  fm (z_getf (idx := 25) awX5 rfl (by decide) wd_4_19 rfl (by decide +kernel)) (
  fm (z_aload_n (j := 0) (by decide +kernel) rfl) (
  fm (z_getf (idx := 194) awX5 rfl (by decide) wd_4_20 rfl (by decide +kernel)) (
  fm (z_iload_n (j := 1) (by decide +kernel) rfl) (
  fm (z_bipush (n := 8) (by decide +kernel) (by decide)) (
  fm (z_iload_n (j := 3) (by decide +kernel) rfl) (
  fm (z_imul (by decide +kernel)) (
  fm (z_ishr (by decide +kernel)) (
  fm (z_sipush (n := 255) (by decide +kernel) (by decide)) (
  fm (z_iand (by decide +kernel)) (
  fm (z_iast (by decide +kernel)) (
  fm (z_aload_n (j := 0) (by decide +kernel) rfl) (
  fm (z_dup (by decide +kernel)) (
  fm (z_getf (idx := 194) awX5 rfl (by decide) wd_4_20 rfl (by decide +kernel)) (
  fm (z_iconst (n := 1) (by decide +kernel) (by decide)) (
  fm (z_iadd (by decide +kernel)) (
  fm (z_putf (idx := 194) tyX5 tyX5_ok nmX5 awX5 rfl (by decide) wd_4_20 rfl rfl (by decide +kernel) (by decide +kernel)) (
  fm (z_iinc (n := (-1)) (by decide +kernel) (by decide) (by decide)) (
  fm (z_goto (off := (-36)) (by decide +kernel) (by decide)) (
  fm (z_aload_n (j := 0) (by decide +kernel) rfl) (
  fm (z_getf (idx := 194) awX5 rfl (by decide) wd_4_20 rfl (by decide +kernel)) (
  fm (z_iret rfl (by decide +kernel)) (fn)))))))))))))))))))))))))))))))))))))))))))))))))
def kX5_finds : Cd := [(0, s_aload 0 1), (1, s_getf 5 3 4), (4, s_pushi (-1000001) 6), (6, s_iload 1 7), (7, s_bin (fun x y => x - y) 8), (8, s_dup2 9), (9, s_iald 10), (10, s_pushi 1 11), (11, s_bin (fun x y => x + y) 12), (12, s_iast 13), (13, s_iload 1 14), (14, s_iret)]
set_option maxRecDepth 20000 in
theorem zX5_finds : ∀ q ∈ kX5_finds, Snd RX5 cX5_finds 2 (some .int) (rmM mX5_finds) q.1 q.2 :=
  fm (z_aload_n (j := 0) (by decide +kernel) rfl) (
  fm (z_getf (idx := 19) awX5 rfl (by decide) wd_4_15 rfl (by decide +kernel)) (
  fm (z_ldc (i := 40) (by decide +kernel) wd_4_76) (
  fm (z_iload_n (j := 1) (by decide +kernel) rfl) (
  fm (z_isub (by decide +kernel)) (
  fm (z_dup2 (by decide +kernel)) (
  fm (z_iald (by decide +kernel)) (
  fm (z_iconst (n := 1) (by decide +kernel) (by decide)) (
  fm (z_iadd (by decide +kernel)) (
  fm (z_iast (by decide +kernel)) (
  fm (z_iload_n (j := 1) (by decide +kernel) rfl) (
  fm (z_iret rfl (by decide +kernel)) (fn))))))))))))
def kX5_firstOrder : Cd := [(0, s_pushi 0 1), (1, s_istore 1 2), (2, s_iload 1 3), (3, s_pushi 8 5), (5, s_icmp (fun x y => y ≤ x) 21 8), (8, s_aload 0 9), (9, s_getf 5 5 12), (12, s_iload 1 13), (13, s_iload 1 14), (14, s_iast 15), (15, s_iinc 1 1 18), (18, s_goto 2), (21, s_vret)]
set_option maxRecDepth 20000 in
theorem zX5_firstOrder : ∀ q ∈ kX5_firstOrder, Snd RX5 cX5_firstOrder 2 none (rmM mX5_firstOrder) q.1 q.2 :=
  fm (z_iconst (n := 0) (by decide +kernel) (by decide)) (
  fm (z_istore_n (j := 1) (by decide +kernel) rfl (by decide)) (
  fm (z_iload_n (j := 1) (by decide +kernel) rfl) (
  fm (z_bipush (n := 8) (by decide +kernel) (by decide)) (
  fm (z_icmp_ge (off := 16) (by decide +kernel) (by decide)) (
  fm (z_aload_n (j := 0) (by decide +kernel) rfl) (
  fm (z_getf (idx := 22) awX5 rfl (by decide) wd_4_17 rfl (by decide +kernel)) (
  fm (z_iload_n (j := 1) (by decide +kernel) rfl) (
  fm (z_iload_n (j := 1) (by decide +kernel) rfl) (
  fm (z_iast (by decide +kernel)) (
  fm (z_iinc (n := 1) (by decide +kernel) (by decide) (by decide)) (
  fm (z_goto (off := (-16)) (by decide +kernel) (by decide)) (
  fm (z_vret rfl (by decide +kernel)) (fn)))))))))))))
def kX5_fit : Cd := [(0, s_aload 0 1), (1, s_iload 1 2), (2, s_inv mX5_wrong 5 1 5), (5, s_istore 2 6), (6, s_iload 2 7), (7, s_if (fun x => x = 0) 10 17), (10, s_aload 0 11), (11, s_pushi 24 13), (13, s_inv mX5_orderWrong 5 1 16), (16, s_istore 2 17), (17, s_iload 2 18), (18, s_if (fun x => x = 0) 27 21), (21, s_aload 0 22), (22, s_iload 2 23), (23, s_inv mX5_finds 5 1 26), (26, s_iret), (27, s_pushi 1 28), (28, s_istore 3 29), (29, s_pushi 40 31), (31, s_iload 1 32), (32, s_bin (fun x y => x * y) 33), (33, s_istore 4 35), (35, s_iload 4 37), (37, s_pushi 2 38), (38, s_bin (fun x y => x + y) 39), (39, s_pushi 40 41), (41, s_iload 1 42), (42, s_bin (fun x y => x * y) 43), (43, s_aload 0 44), (44, s_getf 5 14 47), (47, s_iload 1 48), (48, s_iald 49), (49, s_bin (fun x y => x + y) 50), (50, s_icmp (fun x y => y ≤ x) 118 53), (53, s_iload 3 54), (54, s_if (fun x => x = 0) 110 57), (57, s_aload 0 58), (58, s_aload 0 59), (59, s_getf 5 15 62), (62, s_iload 4 64), (64, s_iald 65), (65, s_inv mX5_isStall 5 1 68), (68, s_if (fun x => x = 0) 110 71), (71, s_aload 0 72), (72, s_getf 5 15 75), (75, s_iload 4 77), (77, s_pushi 1 78), (78, s_bin (fun x y => x + y) 79), (79, s_iald 80), (80, s_invS mX5_isPlace 1 83), (83, s_if (fun x => x = 0) 110 86), (86, s_aload 0 87), (87, s_getf 5 15 90), (90, s_iload 4 92), (92, s_pushi 2 93), (93, s_bin (fun x y => x + y) 94), (94, s_iald 95), (95, s_i2l 96), (96, s_pushl 0 97), (97, s_pushl 24 100), (100, s_invS mX5_in 3 103), (103, s_if (fun x => x = 0) 110 106), (106, s_pushi 1 107), (107, s_goto 111), (110, s_pushi 0 111), (111, s_istore 3 112), (112, s_iinc 4 3 115), (115, s_goto 35), (118, s_aload 0 119), (119, s_inv mX5_saves 5 0 122), (122, s_aload 0 123), (123, s_inv mX5_firstOrder 5 0 126), (126, s_pushi 0 127), (127, s_istore 4 129), (129, s_iload 3 130), (130, s_if (fun x => x = 0) 204 133), (133, s_aload 0 134), (134, s_inv mX5_lays 5 0 137), (137, s_aload 0 138), (138, s_iload 1 139), (139, s_pushi 0 140), (140, s_inv mX5_isSo 5 2 143), (143, s_istore 5 145), (145, s_pushi 1 146), (146, s_istore 6 148), (148, s_iload 6 150), (150, s_pushi 25 152), (152, s_icmp (fun x y => y ≤ x) 181 155), (155, s_iload 5 157), (157, s_if (fun x => x = 0) 181 160), (160, s_aload 0 161), (161, s_inv mX5_hour 5 0 164), (164, s_istore 7 166), (166, s_aload 0 167), (167, s_iload 1 168), (168, s_iload 6 170), (170, s_inv mX5_isSo 5 2 173), (173, s_istore 5 175), (175, s_iinc 6 1 178), (178, s_goto 148), (181, s_iload 4 183), (183, s_iload 5 185), (185, s_if (fun x => x = 0) 192 188), (188, s_pushi 1 189), (189, s_goto 193), (192, s_pushi 0 193), (193, s_bin (fun x y => x + y) 194), (194, s_istore 4 196), (196, s_aload 0 197), (197, s_inv mX5_nextOrder 5 0 200), (200, s_istore 3 201), (201, s_goto 129), (204, s_aload 0 205), (205, s_inv mX5_putsBack 5 0 208), (208, s_iload 4 210), (210, s_iret)]
set_option maxRecDepth 20000 in
theorem zX5_fit : ∀ q ∈ kX5_fit, Snd RX5 cX5_fit 8 (some .int) (rmM mX5_fit) q.1 q.2 :=
  fm (z_aload_n (j := 0) (by decide +kernel) rfl) (
  fm (z_iload_n (j := 1) (by decide +kernel) rfl) (
  fm (z_inv (idx := 301) rfl (by decide +kernel) wd_5_218 wd_5_220 ws_70 wd_1_7 wd_5_221 (by decide +kernel) ⟨Nat.le_of_ble_eq_true rfl, Nat.le_of_ble_eq_true rfl⟩) (
  fm (z_istore_n (j := 2) (by decide +kernel) rfl (by decide)) (
  fm (z_iload_n (j := 2) (by decide +kernel) rfl) (
  fm (z_if_ne (off := 10) (by decide +kernel) (by decide)) (
  fm (z_aload_n (j := 0) (by decide +kernel) rfl) (
  fm (z_bipush (n := 24) (by decide +kernel) (by decide)) (
  fm (z_inv (idx := 163) rfl (by decide +kernel) wd_5_6 wd_5_8 ws_48 wd_1_7 wd_5_9 (by decide +kernel) ⟨Nat.le_of_ble_eq_true rfl, Nat.le_of_ble_eq_true rfl⟩) (
  fm (z_istore_n (j := 2) (by decide +kernel) rfl (by decide)) (
  fm (z_iload_n (j := 2) (by decide +kernel) rfl) (
  fm (z_if_eq (off := 9) (by decide +kernel) (by decide)) (
  fm (z_aload_n (j := 0) (by decide +kernel) rfl) (
  fm (z_iload_n (j := 2) (by decide +kernel) rfl) (
  fm (z_inv (idx := 58) rfl (by decide +kernel) wd_4_77 wd_4_79 ws_28 wd_1_7 wd_4_80 (by decide +kernel) ⟨Nat.le_of_ble_eq_true rfl, Nat.le_of_ble_eq_true rfl⟩) (
  fm (z_iret rfl (by decide +kernel)) (
  fm (z_iconst (n := 1) (by decide +kernel) (by decide)) (
  fm (z_istore_n (j := 3) (by decide +kernel) rfl (by decide)) (
  fm (z_bipush (n := 40) (by decide +kernel) (by decide)) (
  fm (z_iload_n (j := 1) (by decide +kernel) rfl) (
  fm (z_imul (by decide +kernel)) (
  fm (z_istore (i := 4) (by decide +kernel) (by decide)) (
  fm (z_iload (i := 4) (by decide +kernel)) (
  fm (z_iconst (n := 2) (by decide +kernel) (by decide)) (
  fm (z_iadd (by decide +kernel)) (
  fm (z_bipush (n := 40) (by decide +kernel) (by decide)) (
  fm (z_iload_n (j := 1) (by decide +kernel) rfl) (
  fm (z_imul (by decide +kernel)) (
  fm (z_aload_n (j := 0) (by decide +kernel) rfl) (
  fm (z_getf (idx := 31) awX5 rfl (by decide) wd_4_26 rfl (by decide +kernel)) (
  fm (z_iload_n (j := 1) (by decide +kernel) rfl) (
  fm (z_iald (by decide +kernel)) (
  fm (z_iadd (by decide +kernel)) (
  fm (z_icmp_ge (off := 68) (by decide +kernel) (by decide)) (
  fm (z_iload_n (j := 3) (by decide +kernel) rfl) (
  fm (z_if_eq (off := 56) (by decide +kernel) (by decide)) (
  fm (z_aload_n (j := 0) (by decide +kernel) rfl) (
  fm (z_aload_n (j := 0) (by decide +kernel) rfl) (
  fm (z_getf (idx := 34) awX5 rfl (by decide) wd_4_27 rfl (by decide +kernel)) (
  fm (z_iload (i := 4) (by decide +kernel)) (
  fm (z_iald (by decide +kernel)) (
  fm (z_inv (idx := 76) rfl (by decide +kernel) wd_4_115 wd_4_117 ws_32 wd_1_7 wd_4_118 (by decide +kernel) ⟨Nat.le_of_ble_eq_true rfl, Nat.le_of_ble_eq_true rfl⟩) (
  fm (z_if_eq (off := 42) (by decide +kernel) (by decide)) (
  fm (z_aload_n (j := 0) (by decide +kernel) rfl) (
  fm (z_getf (idx := 34) awX5 rfl (by decide) wd_4_27 rfl (by decide +kernel)) (
  fm (z_iload (i := 4) (by decide +kernel)) (
  fm (z_iconst (n := 1) (by decide +kernel) (by decide)) (
  fm (z_iadd (by decide +kernel)) (
  fm (z_iald (by decide +kernel)) (
  fm (z_invS (idx := 52) (by decide +kernel) wd_4_68 wd_4_69 wd_1_7 wd_4_70 (by decide +kernel) ⟨Nat.le_of_ble_eq_true rfl, Nat.le_of_ble_eq_true rfl⟩) (
  fm (z_if_eq (off := 27) (by decide +kernel) (by decide)) (
  fm (z_aload_n (j := 0) (by decide +kernel) rfl) (
  fm (z_getf (idx := 34) awX5 rfl (by decide) wd_4_27 rfl (by decide +kernel)) (
  fm (z_iload (i := 4) (by decide +kernel)) (
  fm (z_iconst (n := 2) (by decide +kernel) (by decide)) (
  fm (z_iadd (by decide +kernel)) (
  fm (z_iald (by decide +kernel)) (
  fm (z_i2l (by decide +kernel)) (
  fm (z_lconst (n := 0) (by decide +kernel) (by decide)) (
  fm (z_ldc2 (i := 161) (by decide +kernel) wd_5_5) (
  fm (z_invS (idx := 43) (by decide +kernel) wd_4_72 wd_4_73 wd_1_7 wd_4_74 (by decide +kernel) ⟨Nat.le_of_ble_eq_true rfl, Nat.le_of_ble_eq_true rfl⟩) (
  fm (z_if_eq (off := 7) (by decide +kernel) (by decide)) (
  fm (z_iconst (n := 1) (by decide +kernel) (by decide)) (
  fm (z_goto (off := 4) (by decide +kernel) (by decide)) (
  fm (z_iconst (n := 0) (by decide +kernel) (by decide)) (
  fm (z_istore_n (j := 3) (by decide +kernel) rfl (by decide)) (
  fm (z_iinc (n := 3) (by decide +kernel) (by decide) (by decide)) (
  fm (z_goto (off := (-80)) (by decide +kernel) (by decide)) (
  fm (z_aload_n (j := 0) (by decide +kernel) rfl) (
  fm (z_inv (idx := 130) rfl (by decide +kernel) wd_4_200 wd_4_202 ws_43 wd_1_7 wd_4_203 (by decide +kernel) ⟨Nat.le_of_ble_eq_true rfl, Nat.le_of_ble_eq_true rfl⟩) (
  fm (z_aload_n (j := 0) (by decide +kernel) rfl) (
  fm (z_inv (idx := 147) rfl (by decide +kernel) wd_5_15 wd_5_17 ws_50 wd_1_7 wd_5_18 (by decide +kernel) ⟨Nat.le_of_ble_eq_true rfl, Nat.le_of_ble_eq_true rfl⟩) (
  fm (z_iconst (n := 0) (by decide +kernel) (by decide)) (
  fm (z_istore (i := 4) (by decide +kernel) (by decide)) (
  fm (z_iload_n (j := 3) (by decide +kernel) rfl) (
  fm (z_if_eq (off := 74) (by decide +kernel) (by decide)) (
  fm (z_aload_n (j := 0) (by decide +kernel) rfl) (
  fm (z_inv (idx := 150) rfl (by decide +kernel) wd_5_19 wd_5_21 ws_51 wd_1_7 wd_5_22 (by decide +kernel) ⟨Nat.le_of_ble_eq_true rfl, Nat.le_of_ble_eq_true rfl⟩) (
  fm (z_aload_n (j := 0) (by decide +kernel) rfl) (
  fm (z_iload_n (j := 1) (by decide +kernel) rfl) (
  fm (z_iconst (n := 0) (by decide +kernel) (by decide)) (
  fm (z_inv (idx := 307) rfl (by decide +kernel) wd_5_237 wd_5_239 ws_71 wd_1_7 wd_6_0 (by decide +kernel) ⟨Nat.le_of_ble_eq_true rfl, Nat.le_of_ble_eq_true rfl⟩) (
  fm (z_istore (i := 5) (by decide +kernel) (by decide)) (
  fm (z_iconst (n := 1) (by decide +kernel) (by decide)) (
  fm (z_istore (i := 6) (by decide +kernel) (by decide)) (
  fm (z_iload (i := 6) (by decide +kernel)) (
  fm (z_bipush (n := 25) (by decide +kernel) (by decide)) (
  fm (z_icmp_ge (off := 29) (by decide +kernel) (by decide)) (
  fm (z_iload (i := 5) (by decide +kernel)) (
  fm (z_if_eq (off := 24) (by decide +kernel) (by decide)) (
  fm (z_aload_n (j := 0) (by decide +kernel) rfl) (
  fm (z_inv (idx := 113) rfl (by decide +kernel) wd_4_166 wd_4_168 ws_39 wd_1_7 wd_4_169 (by decide +kernel) ⟨Nat.le_of_ble_eq_true rfl, Nat.le_of_ble_eq_true rfl⟩) (
  fm (z_istore (i := 7) (by decide +kernel) (by decide)) (
  fm (z_aload_n (j := 0) (by decide +kernel) rfl) (
  fm (z_iload_n (j := 1) (by decide +kernel) rfl) (
  fm (z_iload (i := 6) (by decide +kernel)) (
  fm (z_inv (idx := 307) rfl (by decide +kernel) wd_5_237 wd_5_239 ws_71 wd_1_7 wd_6_0 (by decide +kernel) ⟨Nat.le_of_ble_eq_true rfl, Nat.le_of_ble_eq_true rfl⟩) (
  fm (z_istore (i := 5) (by decide +kernel) (by decide)) (
  fm (z_iinc (n := 1) (by decide +kernel) (by decide) (by decide)) (
  fm (z_goto (off := (-30)) (by decide +kernel) (by decide)) (
  fm (z_iload (i := 4) (by decide +kernel)) (
  fm (z_iload (i := 5) (by decide +kernel)) (
  fm (z_if_eq (off := 7) (by decide +kernel) (by decide)) (
  fm (z_iconst (n := 1) (by decide +kernel) (by decide)) (
  fm (z_goto (off := 4) (by decide +kernel) (by decide)) (
  fm (z_iconst (n := 0) (by decide +kernel) (by decide)) (
  fm (z_iadd (by decide +kernel)) (
  fm (z_istore (i := 4) (by decide +kernel) (by decide)) (
  fm (z_aload_n (j := 0) (by decide +kernel) rfl) (
  fm (z_inv (idx := 157) rfl (by decide +kernel) wd_5_23 wd_5_25 ws_52 wd_1_7 wd_5_26 (by decide +kernel) ⟨Nat.le_of_ble_eq_true rfl, Nat.le_of_ble_eq_true rfl⟩) (
  fm (z_istore_n (j := 3) (by decide +kernel) rfl (by decide)) (
  fm (z_goto (off := (-72)) (by decide +kernel) (by decide)) (
  fm (z_aload_n (j := 0) (by decide +kernel) rfl) (
  fm (z_inv (idx := 142) rfl (by decide +kernel) wd_4_216 wd_4_218 ws_47 wd_1_7 wd_4_219 (by decide +kernel) ⟨Nat.le_of_ble_eq_true rfl, Nat.le_of_ble_eq_true rfl⟩) (
  fm (z_iload (i := 4) (by decide +kernel)) (
  fm (z_iret rfl (by decide +kernel)) (fn))))))))))))))))))))))))))))))))))))))))))))))))))))))))))))))))))))))))))))))))))))))))))))))))))))))))))))))))))))
def kX5_freePlace : Cd := [(0, s_pushi 0 1), (1, s_istore 1 2), (2, s_aload 0 3), (3, s_getf 5 9 6), (6, s_istore 2 7), (7, s_iload 2 8), (8, s_aload 0 9), (9, s_getf 5 10 12), (12, s_icmp (fun x y => y ≤ x) 61 15), (15, s_aload 0 16), (16, s_aload 0 17), (17, s_getf 5 9 20), (20, s_inv mX5_byteAt 5 1 23), (23, s_invS mX5_isDigit 1 26), (26, s_if (fun x => x = 0) 61 29), (29, s_iload 1 30), (30, s_pushi 999 33), (33, s_icmp (fun x y => x ≤ y) 40 36), (36, s_iload 1 37), (37, s_goto 54), (40, s_pushi 10 42), (42, s_iload 1 43), (43, s_bin (fun x y => x * y) 44), (44, s_aload 0 45), (45, s_getf 5 7 48), (48, s_iload 2 49), (49, s_iald 50), (50, s_bin (fun x y => x + y) 51), (51, s_pushi 48 53), (53, s_bin (fun x y => x - y) 54), (54, s_istore 1 55), (55, s_iinc 2 1 58), (58, s_goto 7), (61, s_aload 0 62), (62, s_iload 1 63), (63, s_putf .int 5 11 66), (66, s_aload 0 67), (67, s_aload 0 68), (68, s_aload 0 69), (69, s_getf 5 9 72), (72, s_inv mX5_byteAt 5 1 75), (75, s_invS mX5_isDigit 1 78), (78, s_if (fun x => x = 0) 100 81), (81, s_iload 1 82), (82, s_invS mX5_isPlace 1 85), (85, s_if (fun x => x = 0) 100 88), (88, s_aload 0 89), (89, s_iload 1 90), (90, s_inv mX5_stallAt 5 1 93), (93, s_if (fun x => 0 ≤ x) 100 96), (96, s_pushi 1 97), (97, s_goto 101), (100, s_pushi 0 101), (101, s_inv mX5_needs 5 1 104), (104, s_vret)]
set_option maxRecDepth 20000 in
theorem zX5_freePlace : ∀ q ∈ kX5_freePlace, Snd RX5 cX5_freePlace 3 none (rmM mX5_freePlace) q.1 q.2 :=
  fm (z_iconst (n := 0) (by decide +kernel) (by decide)) (
  fm (z_istore_n (j := 1) (by decide +kernel) rfl (by decide)) (
  fm (z_aload_n (j := 0) (by decide +kernel) rfl) (
  fm (z_getf (idx := 206) awX5 rfl (by decide) wd_4_21 rfl (by decide +kernel)) (
  fm (z_istore_n (j := 2) (by decide +kernel) rfl (by decide)) (
  fm (z_iload_n (j := 2) (by decide +kernel) rfl) (
  fm (z_aload_n (j := 0) (by decide +kernel) rfl) (
  fm (z_getf (idx := 203) awX5 rfl (by decide) wd_4_22 rfl (by decide +kernel)) (
  fm (z_icmp_ge (off := 49) (by decide +kernel) (by decide)) (
  fm (z_aload_n (j := 0) (by decide +kernel) rfl) (
  fm (z_aload_n (j := 0) (by decide +kernel) rfl) (
  fm (z_getf (idx := 206) awX5 rfl (by decide) wd_4_21 rfl (by decide +kernel)) (
  fm (z_inv (idx := 209) rfl (by decide +kernel) wd_5_129 wd_5_131 ws_60 wd_1_7 wd_5_132 (by decide +kernel) ⟨Nat.le_of_ble_eq_true rfl, Nat.le_of_ble_eq_true rfl⟩) (
  fm (z_invS (idx := 215) (by decide +kernel) wd_5_138 wd_5_139 wd_1_7 wd_5_140 (by decide +kernel) ⟨Nat.le_of_ble_eq_true rfl, Nat.le_of_ble_eq_true rfl⟩) (
  fm (z_if_eq (off := 35) (by decide +kernel) (by decide)) (
  fm (z_iload_n (j := 1) (by decide +kernel) rfl) (
  fm (z_sipush (n := 999) (by decide +kernel) (by decide)) (
  fm (z_icmp_le (off := 7) (by decide +kernel) (by decide)) (
  fm (z_iload_n (j := 1) (by decide +kernel) rfl) (
  fm (z_goto (off := 17) (by decide +kernel) (by decide)) (
  fm (z_bipush (n := 10) (by decide +kernel) (by decide)) (
  fm (z_iload_n (j := 1) (by decide +kernel) rfl) (
  fm (z_imul (by decide +kernel)) (
  fm (z_aload_n (j := 0) (by decide +kernel) rfl) (
  fm (z_getf (idx := 25) awX5 rfl (by decide) wd_4_19 rfl (by decide +kernel)) (
  fm (z_iload_n (j := 2) (by decide +kernel) rfl) (
  fm (z_iald (by decide +kernel)) (
  fm (z_iadd (by decide +kernel)) (
  fm (z_bipush (n := 48) (by decide +kernel) (by decide)) (
  fm (z_isub (by decide +kernel)) (
  fm (z_istore_n (j := 1) (by decide +kernel) rfl (by decide)) (
  fm (z_iinc (n := 1) (by decide +kernel) (by decide) (by decide)) (
  fm (z_goto (off := (-51)) (by decide +kernel) (by decide)) (
  fm (z_aload_n (j := 0) (by decide +kernel) rfl) (
  fm (z_iload_n (j := 1) (by decide +kernel) rfl) (
  fm (z_putf (idx := 229) tyX5 tyX5_ok nmX5 awX5 rfl (by decide) wd_4_23 rfl rfl (by decide +kernel) (by decide +kernel)) (
  fm (z_aload_n (j := 0) (by decide +kernel) rfl) (
  fm (z_aload_n (j := 0) (by decide +kernel) rfl) (
  fm (z_aload_n (j := 0) (by decide +kernel) rfl) (
  fm (z_getf (idx := 206) awX5 rfl (by decide) wd_4_21 rfl (by decide +kernel)) (
  fm (z_inv (idx := 209) rfl (by decide +kernel) wd_5_129 wd_5_131 ws_60 wd_1_7 wd_5_132 (by decide +kernel) ⟨Nat.le_of_ble_eq_true rfl, Nat.le_of_ble_eq_true rfl⟩) (
  fm (z_invS (idx := 215) (by decide +kernel) wd_5_138 wd_5_139 wd_1_7 wd_5_140 (by decide +kernel) ⟨Nat.le_of_ble_eq_true rfl, Nat.le_of_ble_eq_true rfl⟩) (
  fm (z_if_eq (off := 22) (by decide +kernel) (by decide)) (
  fm (z_iload_n (j := 1) (by decide +kernel) rfl) (
  fm (z_invS (idx := 52) (by decide +kernel) wd_4_68 wd_4_69 wd_1_7 wd_4_70 (by decide +kernel) ⟨Nat.le_of_ble_eq_true rfl, Nat.le_of_ble_eq_true rfl⟩) (
  fm (z_if_eq (off := 15) (by decide +kernel) (by decide)) (
  fm (z_aload_n (j := 0) (by decide +kernel) rfl) (
  fm (z_iload_n (j := 1) (by decide +kernel) rfl) (
  fm (z_inv (idx := 67) rfl (by decide +kernel) wd_4_94 wd_4_96 ws_29 wd_1_7 wd_4_97 (by decide +kernel) ⟨Nat.le_of_ble_eq_true rfl, Nat.le_of_ble_eq_true rfl⟩) (
  fm (z_if_ge (off := 7) (by decide +kernel) (by decide)) (
  fm (z_iconst (n := 1) (by decide +kernel) (by decide)) (
  fm (z_goto (off := 4) (by decide +kernel) (by decide)) (
  fm (z_iconst (n := 0) (by decide +kernel) (by decide)) (
  fm (z_inv (idx := 232) rfl (by decide +kernel) wd_5_168 wd_5_170 ws_65 wd_1_7 wd_5_171 (by decide +kernel) ⟨Nat.le_of_ble_eq_true rfl, Nat.le_of_ble_eq_true rfl⟩) (
  fm (z_vret rfl (by decide +kernel)) (fn)))))))))))))))))))))))))))))))))))))))))))))))))))))))
def kX5_has : Cd := [(0, s_iload 0 1), (1, s_iload 1 2), (2, s_bin (fun x y => x >>> (y &&& 31)) 3), (3, s_pushi 1 4), (4, s_bin (fun x y => x &&& y) 5), (5, s_pushi 1 6), (6, s_icmp (fun x y => x = y) 9 13), (9, s_pushi 1 10), (10, s_goto 14), (13, s_pushi 0 14), (14, s_zret)]
set_option maxRecDepth 20000 in
theorem zX5_has : ∀ q ∈ kX5_has, Snd RX5 cX5_has 2 (some .boolean) (rmM mX5_has) q.1 q.2 :=
  fm (z_iload_n (j := 0) (by decide +kernel) rfl) (
  fm (z_iload_n (j := 1) (by decide +kernel) rfl) (
  fm (z_ishr (by decide +kernel)) (
  fm (z_iconst (n := 1) (by decide +kernel) (by decide)) (
  fm (z_iand (by decide +kernel)) (
  fm (z_iconst (n := 1) (by decide +kernel) (by decide)) (
  fm (z_icmp_ne (off := 7) (by decide +kernel) (by decide)) (
  fm (z_iconst (n := 1) (by decide +kernel) (by decide)) (
  fm (z_goto (off := 4) (by decide +kernel) (by decide)) (
  fm (z_iconst (n := 0) (by decide +kernel) (by decide)) (
  fm (z_zret rfl (by decide +kernel)) (fn)))))))))))
def kX5_held : Cd := [(0, s_pushi 0 1), (1, s_istore 1 2), (2, s_pushi 0 3), (3, s_istore 2 4), (4, s_iload 2 5), (5, s_pushi 10 7), (7, s_icmp (fun x y => y ≤ x) 36 10), (10, s_iload 1 11), (11, s_aload 0 12), (12, s_getf 5 0 15), (15, s_pushi 68 17), (17, s_iload 2 18), (18, s_bin (fun x y => x + y) 19), (19, s_iald 20), (20, s_if (fun x => 0 ≤ x) 27 23), (23, s_pushi 0 24), (24, s_goto 28), (27, s_pushi 1 28), (28, s_bin (fun x y => x + y) 29), (29, s_istore 1 30), (30, s_iinc 2 1 33), (33, s_goto 4), (36, s_iload 1 37), (37, s_iret)]
set_option maxRecDepth 20000 in
theorem zX5_held : ∀ q ∈ kX5_held, Snd RX5 cX5_held 3 (some .int) (rmM mX5_held) q.1 q.2 :=
  fm (z_iconst (n := 0) (by decide +kernel) (by decide)) (
  fm (z_istore_n (j := 1) (by decide +kernel) rfl (by decide)) (
  fm (z_iconst (n := 0) (by decide +kernel) (by decide)) (
  fm (z_istore_n (j := 2) (by decide +kernel) rfl (by decide)) (
  fm (z_iload_n (j := 2) (by decide +kernel) rfl) (
  fm (z_bipush (n := 10) (by decide +kernel) (by decide)) (
  fm (z_icmp_ge (off := 29) (by decide +kernel) (by decide)) (
  fm (z_iload_n (j := 1) (by decide +kernel) rfl) (
  fm (z_aload_n (j := 0) (by decide +kernel) rfl) (
  fm (z_getf (idx := 7) awX5 rfl (by decide) wd_4_12 rfl (by decide +kernel)) (
  fm (z_bipush (n := 68) (by decide +kernel) (by decide)) (
  fm (z_iload_n (j := 2) (by decide +kernel) rfl) (
  fm (z_iadd (by decide +kernel)) (
  fm (z_iald (by decide +kernel)) (
  fm (z_if_ge (off := 7) (by decide +kernel) (by decide)) (
  fm (z_iconst (n := 0) (by decide +kernel) (by decide)) (
  fm (z_goto (off := 4) (by decide +kernel) (by decide)) (
  fm (z_iconst (n := 1) (by decide +kernel) (by decide)) (
  fm (z_iadd (by decide +kernel)) (
  fm (z_istore_n (j := 1) (by decide +kernel) rfl (by decide)) (
  fm (z_iinc (n := 1) (by decide +kernel) (by decide) (by decide)) (
  fm (z_goto (off := (-29)) (by decide +kernel) (by decide)) (
  fm (z_iload_n (j := 1) (by decide +kernel) rfl) (
  fm (z_iret rfl (by decide +kernel)) (fn))))))))))))))))))))))))
def kX5_hold : Cd := [(0, s_iload 1 1), (1, s_i2l 2), (2, s_pushl 0 3), (3, s_pushl 9 6), (6, s_invS mX5_in 3 9), (9, s_if (fun x => x = 0) 25 12), (12, s_iload 2 13), (13, s_pushi (-1) 14), (14, s_icmp (fun x y => x = y) 32 17), (17, s_aload 0 18), (18, s_iload 2 19), (19, s_inv mX5_isStall 5 1 22), (22, s_if (fun x => x = 0) 25 32), (25, s_aload 0 26), (26, s_pushi (-1000001) 28), (28, s_inv mX5_finds 5 1 31), (31, s_iret), (32, s_aload 0 33), (33, s_getf 5 0 36), (36, s_pushi 68 38), (38, s_iload 1 39), (39, s_bin (fun x y => x + y) 40), (40, s_iload 2 41), (41, s_iast 42), (42, s_pushi 1 43), (43, s_iret)]
set_option maxRecDepth 20000 in
theorem zX5_hold : ∀ q ∈ kX5_hold, Snd RX5 cX5_hold 3 (some .int) (rmM mX5_hold) q.1 q.2 :=
  fm (z_iload_n (j := 1) (by decide +kernel) rfl) (
  fm (z_i2l (by decide +kernel)) (
  fm (z_lconst (n := 0) (by decide +kernel) (by decide)) (
  fm (z_ldc2 (i := 292) (by decide +kernel) wd_5_199) (
  fm (z_invS (idx := 43) (by decide +kernel) wd_4_72 wd_4_73 wd_1_7 wd_4_74 (by decide +kernel) ⟨Nat.le_of_ble_eq_true rfl, Nat.le_of_ble_eq_true rfl⟩) (
  fm (z_if_eq (off := 16) (by decide +kernel) (by decide)) (
  fm (z_iload_n (j := 2) (by decide +kernel) rfl) (
  fm (z_iconst (n := (-1)) (by decide +kernel) (by decide)) (
  fm (z_icmp_eq (off := 18) (by decide +kernel) (by decide)) (
  fm (z_aload_n (j := 0) (by decide +kernel) rfl) (
  fm (z_iload_n (j := 2) (by decide +kernel) rfl) (
  fm (z_inv (idx := 76) rfl (by decide +kernel) wd_4_115 wd_4_117 ws_32 wd_1_7 wd_4_118 (by decide +kernel) ⟨Nat.le_of_ble_eq_true rfl, Nat.le_of_ble_eq_true rfl⟩) (
  fm (z_if_ne (off := 10) (by decide +kernel) (by decide)) (
  fm (z_aload_n (j := 0) (by decide +kernel) rfl) (
  fm (z_ldc (i := 40) (by decide +kernel) wd_4_76) (
  fm (z_inv (idx := 58) rfl (by decide +kernel) wd_4_77 wd_4_79 ws_28 wd_1_7 wd_4_80 (by decide +kernel) ⟨Nat.le_of_ble_eq_true rfl, Nat.le_of_ble_eq_true rfl⟩) (
  fm (z_iret rfl (by decide +kernel)) (
  fm (z_aload_n (j := 0) (by decide +kernel) rfl) (
  fm (z_getf (idx := 7) awX5 rfl (by decide) wd_4_12 rfl (by decide +kernel)) (
  fm (z_bipush (n := 68) (by decide +kernel) (by decide)) (
  fm (z_iload_n (j := 1) (by decide +kernel) rfl) (
  fm (z_iadd (by decide +kernel)) (
  fm (z_iload_n (j := 2) (by decide +kernel) rfl) (
  fm (z_iast (by decide +kernel)) (
  fm (z_iconst (n := 1) (by decide +kernel) (by decide)) (
  fm (z_iret rfl (by decide +kernel)) (fn))))))))))))))))))))))))))
def kX5_hour : Cd := [(0, s_pushi 0 1), (1, s_istore 1 2), (2, s_pushi 0 3), (3, s_istore 2 4), (4, s_iload 2 5), (5, s_aload 0 6), (6, s_getf 5 0 9), (9, s_pushi 1 10), (10, s_iald 11), (11, s_icmp (fun x y => y ≤ x) 78 14), (14, s_aload 0 15), (15, s_iload 2 16), (16, s_inv mX5_sells 5 1 19), (19, s_istore 3 20), (20, s_aload 0 21), (21, s_getf 5 0 24), (24, s_iload 2 25), (25, s_pushi 2 26), (26, s_invS mX5_at 2 29), (29, s_dup2 30), (30, s_iald 31), (31, s_iload 3 32), (32, s_bin (fun x y => x - y) 33), (33, s_iast 34), (34, s_aload 0 35), (35, s_getf 5 0 38), (38, s_iload 2 39), (39, s_pushi 4 40), (40, s_invS mX5_at 2 43), (43, s_dup2 44), (44, s_iald 45), (45, s_iload 3 46), (46, s_bin (fun x y => x + y) 47), (47, s_iast 48), (48, s_aload 0 49), (49, s_getf 5 0 52), (52, s_iload 2 53), (53, s_pushi 3 54), (54, s_invS mX5_at 2 57), (57, s_dup2 58), (58, s_iald 59), (59, s_iload 3 60), (60, s_aload 0 61), (61, s_iload 2 62), (62, s_inv mX5_price 5 1 65), (65, s_bin (fun x y => x * y) 66), (66, s_bin (fun x y => x + y) 67), (67, s_iast 68), (68, s_iload 1 69), (69, s_iload 3 70), (70, s_bin (fun x y => x + y) 71), (71, s_istore 1 72), (72, s_iinc 2 1 75), (75, s_goto 4), (78, s_aload 0 79), (79, s_pushi 1 80), (80, s_inv mX5_staying 5 1 83), (83, s_istore 2 84), (84, s_aload 0 85), (85, s_iload 2 86), (86, s_inv mX5_placesOf 5 1 89), (89, s_istore 3 90), (90, s_pushi 0 91), (91, s_istore 4 93), (93, s_iload 4 95), (95, s_aload 0 96), (96, s_getf 5 0 99), (99, s_pushi 1 100), (100, s_iald 101), (101, s_icmp (fun x y => y ≤ x) 156 104), (104, s_aload 0 105), (105, s_iload 4 107), (107, s_pushi 1 108), (108, s_inv mX5_its 5 2 111), (111, s_istore 5 113), (113, s_aload 0 114), (114, s_getf 5 0 117), (117, s_iload 4 119), (119, s_pushi 1 120), (120, s_invS mX5_at 2 123), (123, s_iload 2 124), (124, s_iload 4 126), (126, s_invS mX5_has 2 129), (129, s_if (fun x => x = 0) 137 132), (132, s_iload 5 134), (134, s_goto 149), (137, s_iload 5 139), (139, s_iload 5 141), (141, s_iload 3 142), (142, s_invS mX5_farFrom 2 145), (145, s_bin (fun x y => x + y) 146), (146, s_pushi 12 148), (148, s_rem 149), (149, s_iast 150), (150, s_iinc 4 1 153), (153, s_goto 93), (156, s_aload 0 157), (157, s_getf 5 0 160), (160, s_pushi 0 161), (161, s_dup2 162), (162, s_iald 163), (163, s_pushi 1 164), (164, s_bin (fun x y => x + y) 165), (165, s_iast 166), (166, s_iload 1 167), (167, s_iret)]
set_option maxRecDepth 20000 in
theorem zX5_hour : ∀ q ∈ kX5_hour, Snd RX5 cX5_hour 6 (some .int) (rmM mX5_hour) q.1 q.2 :=
  fm (z_iconst (n := 0) (by decide +kernel) (by decide)) (
  fm (z_istore_n (j := 1) (by decide +kernel) rfl (by decide)) (
  fm (z_iconst (n := 0) (by decide +kernel) (by decide)) (
  fm (z_istore_n (j := 2) (by decide +kernel) rfl (by decide)) (
  fm (z_iload_n (j := 2) (by decide +kernel) rfl) (
  fm (z_aload_n (j := 0) (by decide +kernel) rfl) (
  fm (z_getf (idx := 7) awX5 rfl (by decide) wd_4_12 rfl (by decide +kernel)) (
  fm (z_iconst (n := 1) (by decide +kernel) (by decide)) (
  fm (z_iald (by decide +kernel)) (
  fm (z_icmp_ge (off := 67) (by decide +kernel) (by decide)) (
  fm (z_aload_n (j := 0) (by decide +kernel) rfl) (
  fm (z_iload_n (j := 2) (by decide +kernel) rfl) (
  fm (z_inv (idx := 96) rfl (by decide +kernel) wd_4_170 wd_4_172 ws_40 wd_1_7 wd_4_173 (by decide +kernel) ⟨Nat.le_of_ble_eq_true rfl, Nat.le_of_ble_eq_true rfl⟩) (
  fm (z_istore_n (j := 3) (by decide +kernel) rfl (by decide)) (
  fm (z_aload_n (j := 0) (by decide +kernel) rfl) (
  fm (z_getf (idx := 7) awX5 rfl (by decide) wd_4_12 rfl (by decide +kernel)) (
  fm (z_iload_n (j := 2) (by decide +kernel) rfl) (
  fm (z_iconst (n := 2) (by decide +kernel) (by decide)) (
  fm (z_invS (idx := 48) (by decide +kernel) wd_4_102 wd_4_103 wd_1_7 wd_4_104 (by decide +kernel) ⟨Nat.le_of_ble_eq_true rfl, Nat.le_of_ble_eq_true rfl⟩) (
  fm (z_dup2 (by decide +kernel)) (
  fm (z_iald (by decide +kernel)) (
  fm (z_iload_n (j := 3) (by decide +kernel) rfl) (
  fm (z_isub (by decide +kernel)) (
  fm (z_iast (by decide +kernel)) (
  fm (z_aload_n (j := 0) (by decide +kernel) rfl) (
  fm (z_getf (idx := 7) awX5 rfl (by decide) wd_4_12 rfl (by decide +kernel)) (
  fm (z_iload_n (j := 2) (by decide +kernel) rfl) (
  fm (z_iconst (n := 4) (by decide +kernel) (by decide)) (
  fm (z_invS (idx := 48) (by decide +kernel) wd_4_102 wd_4_103 wd_1_7 wd_4_104 (by decide +kernel) ⟨Nat.le_of_ble_eq_true rfl, Nat.le_of_ble_eq_true rfl⟩) (
  fm (z_dup2 (by decide +kernel)) (
  fm (z_iald (by decide +kernel)) (
  fm (z_iload_n (j := 3) (by decide +kernel) rfl) (
  fm (z_iadd (by decide +kernel)) (
  fm (z_iast (by decide +kernel)) (
  fm (z_aload_n (j := 0) (by decide +kernel) rfl) (
  fm (z_getf (idx := 7) awX5 rfl (by decide) wd_4_12 rfl (by decide +kernel)) (
  fm (z_iload_n (j := 2) (by decide +kernel) rfl) (
  fm (z_iconst (n := 3) (by decide +kernel) (by decide)) (
  fm (z_invS (idx := 48) (by decide +kernel) wd_4_102 wd_4_103 wd_1_7 wd_4_104 (by decide +kernel) ⟨Nat.le_of_ble_eq_true rfl, Nat.le_of_ble_eq_true rfl⟩) (
  fm (z_dup2 (by decide +kernel)) (
  fm (z_iald (by decide +kernel)) (
  fm (z_iload_n (j := 3) (by decide +kernel) rfl) (
  fm (z_aload_n (j := 0) (by decide +kernel) rfl) (
  fm (z_iload_n (j := 2) (by decide +kernel) rfl) (
  fm (z_inv (idx := 79) rfl (by decide +kernel) wd_4_119 wd_4_121 ws_33 wd_1_7 wd_4_122 (by decide +kernel) ⟨Nat.le_of_ble_eq_true rfl, Nat.le_of_ble_eq_true rfl⟩) (
  fm (z_imul (by decide +kernel)) (
  fm (z_iadd (by decide +kernel)) (
  fm (z_iast (by decide +kernel)) (
  fm (z_iload_n (j := 1) (by decide +kernel) rfl) (
  fm (z_iload_n (j := 3) (by decide +kernel) rfl) (
  fm (z_iadd (by decide +kernel)) (
  fm (z_istore_n (j := 1) (by decide +kernel) rfl (by decide)) (
  fm (z_iinc (n := 1) (by decide +kernel) (by decide) (by decide)) (
  fm (z_goto (off := (-71)) (by decide +kernel) (by decide)) (
  fm (z_aload_n (j := 0) (by decide +kernel) rfl) (
  fm (z_iconst (n := 1) (by decide +kernel) (by decide)) (
  fm (z_inv (idx := 103) rfl (by decide +kernel) wd_4_174 wd_4_176 ws_41 wd_1_7 wd_4_177 (by decide +kernel) ⟨Nat.le_of_ble_eq_true rfl, Nat.le_of_ble_eq_true rfl⟩) (
  fm (z_istore_n (j := 2) (by decide +kernel) rfl (by decide)) (
  fm (z_aload_n (j := 0) (by decide +kernel) rfl) (
  fm (z_iload_n (j := 2) (by decide +kernel) rfl) (
  fm (z_inv (idx := 107) rfl (by decide +kernel) wd_4_178 wd_4_180 ws_42 wd_1_7 wd_4_181 (by decide +kernel) ⟨Nat.le_of_ble_eq_true rfl, Nat.le_of_ble_eq_true rfl⟩) (
  fm (z_istore_n (j := 3) (by decide +kernel) rfl (by decide)) (
  fm (z_iconst (n := 0) (by decide +kernel) (by decide)) (
  fm (z_istore (i := 4) (by decide +kernel) (by decide)) (
  fm (z_iload (i := 4) (by decide +kernel)) (
  fm (z_aload_n (j := 0) (by decide +kernel) rfl) (
  fm (z_getf (idx := 7) awX5 rfl (by decide) wd_4_12 rfl (by decide +kernel)) (
  fm (z_iconst (n := 1) (by decide +kernel) (by decide)) (
  fm (z_iald (by decide +kernel)) (
  fm (z_icmp_ge (off := 55) (by decide +kernel) (by decide)) (
  fm (z_aload_n (j := 0) (by decide +kernel) rfl) (
  fm (z_iload (i := 4) (by decide +kernel)) (
  fm (z_iconst (n := 1) (by decide +kernel) (by decide)) (
  fm (z_inv (idx := 62) rfl (by decide +kernel) wd_4_98 wd_4_100 ws_30 wd_1_7 wd_4_101 (by decide +kernel) ⟨Nat.le_of_ble_eq_true rfl, Nat.le_of_ble_eq_true rfl⟩) (
  fm (z_istore (i := 5) (by decide +kernel) (by decide)) (
  fm (z_aload_n (j := 0) (by decide +kernel) rfl) (
  fm (z_getf (idx := 7) awX5 rfl (by decide) wd_4_12 rfl (by decide +kernel)) (
  fm (z_iload (i := 4) (by decide +kernel)) (
  fm (z_iconst (n := 1) (by decide +kernel) (by decide)) (
  fm (z_invS (idx := 48) (by decide +kernel) wd_4_102 wd_4_103 wd_1_7 wd_4_104 (by decide +kernel) ⟨Nat.le_of_ble_eq_true rfl, Nat.le_of_ble_eq_true rfl⟩) (
  fm (z_iload_n (j := 2) (by decide +kernel) rfl) (
  fm (z_iload (i := 4) (by decide +kernel)) (
  fm (z_invS (idx := 99) (by decide +kernel) wd_4_182 wd_4_183 wd_1_7 wd_4_184 (by decide +kernel) ⟨Nat.le_of_ble_eq_true rfl, Nat.le_of_ble_eq_true rfl⟩) (
  fm (z_if_eq (off := 8) (by decide +kernel) (by decide)) (
  fm (z_iload (i := 5) (by decide +kernel)) (
  fm (z_goto (off := 15) (by decide +kernel) (by decide)) (
  fm (z_iload (i := 5) (by decide +kernel)) (
  fm (z_iload (i := 5) (by decide +kernel)) (
  fm (z_iload_n (j := 3) (by decide +kernel) rfl) (
  fm (z_invS (idx := 110) (by decide +kernel) wd_4_185 wd_4_186 wd_1_7 wd_4_187 (by decide +kernel) ⟨Nat.le_of_ble_eq_true rfl, Nat.le_of_ble_eq_true rfl⟩) (
  fm (z_iadd (by decide +kernel)) (
  fm (z_bipush (n := 12) (by decide +kernel) (by decide)) (
  fm (z_irem (by decide +kernel)) (
  fm (z_iast (by decide +kernel)) (
  fm (z_iinc (n := 1) (by decide +kernel) (by decide) (by decide)) (
  fm (z_goto (off := (-60)) (by decide +kernel) (by decide)) (
  fm (z_aload_n (j := 0) (by decide +kernel) rfl) (
  fm (z_getf (idx := 7) awX5 rfl (by decide) wd_4_12 rfl (by decide +kernel)) (
  fm (z_iconst (n := 0) (by decide +kernel) (by decide)) (
  fm (z_dup2 (by decide +kernel)) (
  fm (z_iald (by decide +kernel)) (
  fm (z_iconst (n := 1) (by decide +kernel) (by decide)) (
  fm (z_iadd (by decide +kernel)) (
  fm (z_iast (by decide +kernel)) (
  fm (z_iload_n (j := 1) (by decide +kernel) rfl) (
  fm (z_iret rfl (by decide +kernel)) (fn))))))))))))))))))))))))))))))))))))))))))))))))))))))))))))))))))))))))))))))))))))))))))))))))))))))))))
def kX5_hours : Cd := [(0, s_iload 1 1), (1, s_i2l 2), (2, s_pushl 1 3), (3, s_pushl 48 6), (6, s_invS mX5_in 3 9), (9, s_if (fun x => x = 0) 12 19), (12, s_aload 0 13), (13, s_pushi (-1000001) 15), (15, s_inv mX5_finds 5 1 18), (18, s_iret), (19, s_aload 0 20), (20, s_iload 1 21), (21, s_inv mX5_isTooLate 5 1 24), (24, s_if (fun x => x = 0) 36 27), (27, s_aload 0 28), (28, s_pushi (-1000005) 30), (30, s_inv mX5_finds 5 1 33), (33, s_goto 41), (36, s_aload 0 37), (37, s_iload 1 38), (38, s_inv mX5_hoursGo 5 1 41), (41, s_iret)]
set_option maxRecDepth 20000 in
theorem zX5_hours : ∀ q ∈ kX5_hours, Snd RX5 cX5_hours 2 (some .int) (rmM mX5_hours) q.1 q.2 :=
  fm (z_iload_n (j := 1) (by decide +kernel) rfl) (
  fm (z_i2l (by decide +kernel)) (
  fm (z_lconst (n := 1) (by decide +kernel) (by decide)) (
  fm (z_ldc2 (i := 117) (by decide +kernel) wd_4_157) (
  fm (z_invS (idx := 43) (by decide +kernel) wd_4_72 wd_4_73 wd_1_7 wd_4_74 (by decide +kernel) ⟨Nat.le_of_ble_eq_true rfl, Nat.le_of_ble_eq_true rfl⟩) (
  fm (z_if_ne (off := 10) (by decide +kernel) (by decide)) (
  fm (z_aload_n (j := 0) (by decide +kernel) rfl) (
  fm (z_ldc (i := 40) (by decide +kernel) wd_4_76) (
  fm (z_inv (idx := 58) rfl (by decide +kernel) wd_4_77 wd_4_79 ws_28 wd_1_7 wd_4_80 (by decide +kernel) ⟨Nat.le_of_ble_eq_true rfl, Nat.le_of_ble_eq_true rfl⟩) (
  fm (z_iret rfl (by decide +kernel)) (
  fm (z_aload_n (j := 0) (by decide +kernel) rfl) (
  fm (z_iload_n (j := 1) (by decide +kernel) rfl) (
  fm (z_inv (idx := 119) rfl (by decide +kernel) wd_4_158 wd_4_160 ws_37 wd_1_7 wd_4_161 (by decide +kernel) ⟨Nat.le_of_ble_eq_true rfl, Nat.le_of_ble_eq_true rfl⟩) (
  fm (z_if_eq (off := 12) (by decide +kernel) (by decide)) (
  fm (z_aload_n (j := 0) (by decide +kernel) rfl) (
  fm (z_ldc (i := 70) (by decide +kernel) wd_4_105) (
  fm (z_inv (idx := 58) rfl (by decide +kernel) wd_4_77 wd_4_79 ws_28 wd_1_7 wd_4_80 (by decide +kernel) ⟨Nat.le_of_ble_eq_true rfl, Nat.le_of_ble_eq_true rfl⟩) (
  fm (z_goto (off := 8) (by decide +kernel) (by decide)) (
  fm (z_aload_n (j := 0) (by decide +kernel) rfl) (
  fm (z_iload_n (j := 1) (by decide +kernel) rfl) (
  fm (z_inv (idx := 122) rfl (by decide +kernel) wd_4_162 wd_4_164 ws_38 wd_1_7 wd_4_165 (by decide +kernel) ⟨Nat.le_of_ble_eq_true rfl, Nat.le_of_ble_eq_true rfl⟩) (
  fm (z_iret rfl (by decide +kernel)) (fn))))))))))))))))))))))
def kX5_hoursGo : Cd := [(0, s_pushi 0 1), (1, s_istore 2 2), (2, s_pushi 0 3), (3, s_istore 3 4), (4, s_iload 3 5), (5, s_iload 1 6), (6, s_icmp (fun x y => y ≤ x) 22 9), (9, s_iload 2 10), (10, s_aload 0 11), (11, s_inv mX5_hour 5 0 14), (14, s_bin (fun x y => x + y) 15), (15, s_istore 2 16), (16, s_iinc 3 1 19), (19, s_goto 4), (22, s_iload 2 23), (23, s_iret)]
set_option maxRecDepth 20000 in
theorem zX5_hoursGo : ∀ q ∈ kX5_hoursGo, Snd RX5 cX5_hoursGo 4 (some .int) (rmM mX5_hoursGo) q.1 q.2 :=
  fm (z_iconst (n := 0) (by decide +kernel) (by decide)) (
  fm (z_istore_n (j := 2) (by decide +kernel) rfl (by decide)) (
  fm (z_iconst (n := 0) (by decide +kernel) (by decide)) (
  fm (z_istore_n (j := 3) (by decide +kernel) rfl (by decide)) (
  fm (z_iload_n (j := 3) (by decide +kernel) rfl) (
  fm (z_iload_n (j := 1) (by decide +kernel) rfl) (
  fm (z_icmp_ge (off := 16) (by decide +kernel) (by decide)) (
  fm (z_iload_n (j := 2) (by decide +kernel) rfl) (
  fm (z_aload_n (j := 0) (by decide +kernel) rfl) (
  fm (z_inv (idx := 113) rfl (by decide +kernel) wd_4_166 wd_4_168 ws_39 wd_1_7 wd_4_169 (by decide +kernel) ⟨Nat.le_of_ble_eq_true rfl, Nat.le_of_ble_eq_true rfl⟩) (
  fm (z_iadd (by decide +kernel)) (
  fm (z_istore_n (j := 2) (by decide +kernel) rfl (by decide)) (
  fm (z_iinc (n := 1) (by decide +kernel) (by decide) (by decide)) (
  fm (z_goto (off := (-15)) (by decide +kernel) (by decide)) (
  fm (z_iload_n (j := 2) (by decide +kernel) rfl) (
  fm (z_iret rfl (by decide +kernel)) (fn))))))))))))))))
def kX5_image : Cd := [(0, s_pushi 0 1), (1, s_istore 1 2), (2, s_iload 1 3), (3, s_pushi 78 5), (5, s_icmp (fun x y => y ≤ x) 26 8), (8, s_aload 0 9), (9, s_getf 5 1 12), (12, s_iload 1 13), (13, s_aload 0 14), (14, s_getf 5 0 17), (17, s_iload 1 18), (18, s_iald 19), (19, s_iast 20), (20, s_iinc 1 1 23), (23, s_goto 2), (26, s_aload 0 27), (27, s_pushi 1 28), (28, s_putf .boolean 5 4 31), (31, s_pushi 1 32), (32, s_iret)]
set_option maxRecDepth 20000 in
theorem zX5_image : ∀ q ∈ kX5_image, Snd RX5 cX5_image 2 (some .int) (rmM mX5_image) q.1 q.2 :=
  fm (z_iconst (n := 0) (by decide +kernel) (by decide)) (
  fm (z_istore_n (j := 1) (by decide +kernel) rfl (by decide)) (
  fm (z_iload_n (j := 1) (by decide +kernel) rfl) (
  fm (z_bipush (n := 78) (by decide +kernel) (by decide)) (
  fm (z_icmp_ge (off := 21) (by decide +kernel) (by decide)) (
  fm (z_aload_n (j := 0) (by decide +kernel) rfl) (
  fm (z_getf (idx := 13) awX5 rfl (by decide) wd_4_13 rfl (by decide +kernel)) (
  fm (z_iload_n (j := 1) (by decide +kernel) rfl) (
  fm (z_aload_n (j := 0) (by decide +kernel) rfl) (
  fm (z_getf (idx := 7) awX5 rfl (by decide) wd_4_12 rfl (by decide +kernel)) (
  fm (z_iload_n (j := 1) (by decide +kernel) rfl) (
  fm (z_iald (by decide +kernel)) (
  fm (z_iast (by decide +kernel)) (
  fm (z_iinc (n := 1) (by decide +kernel) (by decide) (by decide)) (
  fm (z_goto (off := (-21)) (by decide +kernel) (by decide)) (
  fm (z_aload_n (j := 0) (by decide +kernel) rfl) (
  fm (z_iconst (n := 1) (by decide +kernel) (by decide)) (
  fm (z_putf (idx := 310) tyX5 tyX5_ok nmX5 awX5 rfl (by decide) wd_4_16 rfl rfl (by decide +kernel) (by decide +kernel)) (
  fm (z_iconst (n := 1) (by decide +kernel) (by decide)) (
  fm (z_iret rfl (by decide +kernel)) (fn))))))))))))))))))))
def kX5_in : Cd := [(0, s_lload 0 1), (1, s_lload 2 2), (2, s_lcmp 3), (3, s_if (fun x => x < 0) 17 6), (6, s_lload 0 7), (7, s_lload 4 9), (9, s_lcmp 10), (10, s_if (fun x => 0 < x) 17 13), (13, s_pushi 1 14), (14, s_goto 18), (17, s_pushi 0 18), (18, s_zret)]
set_option maxRecDepth 20000 in
theorem zX5_in : ∀ q ∈ kX5_in, Snd RX5 cX5_in 6 (some .boolean) (rmM mX5_in) q.1 q.2 :=
  fm (z_lload_n (j := 0) (by decide +kernel) rfl) (
  fm (z_lload_n (j := 2) (by decide +kernel) rfl) (
  fm (z_lcmp (by decide +kernel)) (
  fm (z_if_lt (off := 14) (by decide +kernel) (by decide)) (
  fm (z_lload_n (j := 0) (by decide +kernel) rfl) (
  fm (z_lload (i := 4) (by decide +kernel)) (
  fm (z_lcmp (by decide +kernel)) (
  fm (z_if_gt (off := 7) (by decide +kernel) (by decide)) (
  fm (z_iconst (n := 1) (by decide +kernel) (by decide)) (
  fm (z_goto (off := 4) (by decide +kernel) (by decide)) (
  fm (z_iconst (n := 0) (by decide +kernel) (by decide)) (
  fm (z_zret rfl (by decide +kernel)) (fn))))))))))))
def kX5_isBeside : Cd := [(0, s_aload 0 1), (1, s_iload 1 2), (2, s_pushi 1 3), (3, s_inv mX5_its 5 2 6), (6, s_pushi 12 8), (8, s_bin (fun x y => x + y) 9), (9, s_aload 0 10), (10, s_iload 2 11), (11, s_pushi 1 12), (12, s_inv mX5_its 5 2 15), (15, s_bin (fun x y => x - y) 16), (16, s_pushi 12 18), (18, s_rem 19), (19, s_istore 3 20), (20, s_iload 3 21), (21, s_pushi 1 22), (22, s_icmp (fun x y => x = y) 31 25), (25, s_iload 3 26), (26, s_pushi 11 28), (28, s_icmp (fun x y => x = y) 31 35), (31, s_pushi 1 32), (32, s_goto 36), (35, s_pushi 0 36), (36, s_zret)]
set_option maxRecDepth 20000 in
theorem zX5_isBeside : ∀ q ∈ kX5_isBeside, Snd RX5 cX5_isBeside 4 (some .boolean) (rmM mX5_isBeside) q.1 q.2 :=
  fm (z_aload_n (j := 0) (by decide +kernel) rfl) (
  fm (z_iload_n (j := 1) (by decide +kernel) rfl) (
  fm (z_iconst (n := 1) (by decide +kernel) (by decide)) (
  fm (z_inv (idx := 62) rfl (by decide +kernel) wd_4_98 wd_4_100 ws_30 wd_1_7 wd_4_101 (by decide +kernel) ⟨Nat.le_of_ble_eq_true rfl, Nat.le_of_ble_eq_true rfl⟩) (
  fm (z_bipush (n := 12) (by decide +kernel) (by decide)) (
  fm (z_iadd (by decide +kernel)) (
  fm (z_aload_n (j := 0) (by decide +kernel) rfl) (
  fm (z_iload_n (j := 2) (by decide +kernel) rfl) (
  fm (z_iconst (n := 1) (by decide +kernel) (by decide)) (
  fm (z_inv (idx := 62) rfl (by decide +kernel) wd_4_98 wd_4_100 ws_30 wd_1_7 wd_4_101 (by decide +kernel) ⟨Nat.le_of_ble_eq_true rfl, Nat.le_of_ble_eq_true rfl⟩) (
  fm (z_isub (by decide +kernel)) (
  fm (z_bipush (n := 12) (by decide +kernel) (by decide)) (
  fm (z_irem (by decide +kernel)) (
  fm (z_istore_n (j := 3) (by decide +kernel) rfl (by decide)) (
  fm (z_iload_n (j := 3) (by decide +kernel) rfl) (
  fm (z_iconst (n := 1) (by decide +kernel) (by decide)) (
  fm (z_icmp_eq (off := 9) (by decide +kernel) (by decide)) (
  fm (z_iload_n (j := 3) (by decide +kernel) rfl) (
  fm (z_bipush (n := 11) (by decide +kernel) (by decide)) (
  fm (z_icmp_ne (off := 7) (by decide +kernel) (by decide)) (
  fm (z_iconst (n := 1) (by decide +kernel) (by decide)) (
  fm (z_goto (off := 4) (by decide +kernel) (by decide)) (
  fm (z_iconst (n := 0) (by decide +kernel) (by decide)) (
  fm (z_zret rfl (by decide +kernel)) (fn))))))))))))))))))))))))
def kX5_isDays : Cd := [(0, s_iload 0 1), (1, s_i2l 2), (2, s_pushl 1 3), (3, s_pushl 48 6), (6, s_invS mX5_in 3 9), (9, s_zret)]
set_option maxRecDepth 20000 in
theorem zX5_isDays : ∀ q ∈ kX5_isDays, Snd RX5 cX5_isDays 1 (some .boolean) (rmM mX5_isDays) q.1 q.2 :=
  fm (z_iload_n (j := 0) (by decide +kernel) rfl) (
  fm (z_i2l (by decide +kernel)) (
  fm (z_lconst (n := 1) (by decide +kernel) (by decide)) (
  fm (z_ldc2 (i := 117) (by decide +kernel) wd_4_157) (
  fm (z_invS (idx := 43) (by decide +kernel) wd_4_72 wd_4_73 wd_1_7 wd_4_74 (by decide +kernel) ⟨Nat.le_of_ble_eq_true rfl, Nat.le_of_ble_eq_true rfl⟩) (
  fm (z_zret rfl (by decide +kernel)) (fn))))))
def kX5_isDigit : Cd := [(0, s_iload 0 1), (1, s_i2l 2), (2, s_pushl 48 5), (5, s_pushl 57 8), (8, s_invS mX5_in 3 11), (11, s_zret)]
set_option maxRecDepth 20000 in
theorem zX5_isDigit : ∀ q ∈ kX5_isDigit, Snd RX5 cX5_isDigit 1 (some .boolean) (rmM mX5_isDigit) q.1 q.2 :=
  fm (z_iload_n (j := 0) (by decide +kernel) rfl) (
  fm (z_i2l (by decide +kernel)) (
  fm (z_ldc2 (i := 117) (by decide +kernel) wd_4_157) (
  fm (z_ldc2 (i := 201) (by decide +kernel) wd_5_141) (
  fm (z_invS (idx := 43) (by decide +kernel) wd_4_72 wd_4_73 wd_1_7 wd_4_74 (by decide +kernel) ⟨Nat.le_of_ble_eq_true rfl, Nat.le_of_ble_eq_true rfl⟩) (
  fm (z_zret rfl (by decide +kernel)) (fn))))))
def kX5_isGoing : Cd := [(0, s_aload 0 1), (1, s_iload 1 2), (2, s_pushi 0 3), (3, s_inv mX5_its 5 2 6), (6, s_istore 2 7), (7, s_aload 0 8), (8, s_getf 5 0 11), (11, s_pushi 0 12), (12, s_iald 13), (13, s_pushi 2 14), (14, s_rem 15), (15, s_if (fun x => x = 0) 18 22), (18, s_pushi 1 19), (19, s_goto 23), (22, s_pushi 0 23), (23, s_istore 3 24), (24, s_iload 2 25), (25, s_pushi 2 26), (26, s_icmp (fun x y => x = y) 29 33), (29, s_iload 3 30), (30, s_goto 58), (33, s_iload 2 34), (34, s_pushi 4 35), (35, s_icmp (fun x y => x = y) 38 53), (38, s_iload 3 39), (39, s_if (fun x => x = 0) 57 42), (42, s_aload 0 43), (43, s_getf 5 0 46), (46, s_pushi 0 47), (47, s_iald 48), (48, s_pushi 3 49), (49, s_rem 50), (50, s_if (fun x => x = 0) 53 57), (53, s_pushi 1 54), (54, s_goto 58), (57, s_pushi 0 58), (58, s_zret)]
set_option maxRecDepth 20000 in
theorem zX5_isGoing : ∀ q ∈ kX5_isGoing, Snd RX5 cX5_isGoing 4 (some .boolean) (rmM mX5_isGoing) q.1 q.2 :=
  fm (z_aload_n (j := 0) (by decide +kernel) rfl) (
  fm (z_iload_n (j := 1) (by decide +kernel) rfl) (
  fm (z_iconst (n := 0) (by decide +kernel) (by decide)) (
  fm (z_inv (idx := 62) rfl (by decide +kernel) wd_4_98 wd_4_100 ws_30 wd_1_7 wd_4_101 (by decide +kernel) ⟨Nat.le_of_ble_eq_true rfl, Nat.le_of_ble_eq_true rfl⟩) (
  fm (z_istore_n (j := 2) (by decide +kernel) rfl (by decide)) (
  fm (z_aload_n (j := 0) (by decide +kernel) rfl) (
  fm (z_getf (idx := 7) awX5 rfl (by decide) wd_4_12 rfl (by decide +kernel)) (
  fm (z_iconst (n := 0) (by decide +kernel) (by decide)) (
  fm (z_iald (by decide +kernel)) (
  fm (z_iconst (n := 2) (by decide +kernel) (by decide)) (
  fm (z_irem (by decide +kernel)) (
  fm (z_if_ne (off := 7) (by decide +kernel) (by decide)) (
  fm (z_iconst (n := 1) (by decide +kernel) (by decide)) (
  fm (z_goto (off := 4) (by decide +kernel) (by decide)) (
  fm (z_iconst (n := 0) (by decide +kernel) (by decide)) (
  fm (z_istore_n (j := 3) (by decide +kernel) rfl (by decide)) (
  fm (z_iload_n (j := 2) (by decide +kernel) rfl) (
  fm (z_iconst (n := 2) (by decide +kernel) (by decide)) (
  fm (z_icmp_ne (off := 7) (by decide +kernel) (by decide)) (
  fm (z_iload_n (j := 3) (by decide +kernel) rfl) (
  fm (z_goto (off := 28) (by decide +kernel) (by decide)) (
  fm (z_iload_n (j := 2) (by decide +kernel) rfl) (
  fm (z_iconst (n := 4) (by decide +kernel) (by decide)) (
  fm (z_icmp_ne (off := 18) (by decide +kernel) (by decide)) (
  fm (z_iload_n (j := 3) (by decide +kernel) rfl) (
  fm (z_if_eq (off := 18) (by decide +kernel) (by decide)) (
  fm (z_aload_n (j := 0) (by decide +kernel) rfl) (
  fm (z_getf (idx := 7) awX5 rfl (by decide) wd_4_12 rfl (by decide +kernel)) (
  fm (z_iconst (n := 0) (by decide +kernel) (by decide)) (
  fm (z_iald (by decide +kernel)) (
  fm (z_iconst (n := 3) (by decide +kernel) (by decide)) (
  fm (z_irem (by decide +kernel)) (
  fm (z_if_ne (off := 7) (by decide +kernel) (by decide)) (
  fm (z_iconst (n := 1) (by decide +kernel) (by decide)) (
  fm (z_goto (off := 4) (by decide +kernel) (by decide)) (
  fm (z_iconst (n := 0) (by decide +kernel) (by decide)) (
  fm (z_zret rfl (by decide +kernel)) (fn)))))))))))))))))))))))))))))))))))))
def kX5_isLetter : Cd := [(0, s_iload 0 1), (1, s_i2l 2), (2, s_pushl 97 5), (5, s_pushl 122 8), (8, s_invS mX5_in 3 11), (11, s_zret)]
set_option maxRecDepth 20000 in
theorem zX5_isLetter : ∀ q ∈ kX5_isLetter, Snd RX5 cX5_isLetter 1 (some .boolean) (rmM mX5_isLetter) q.1 q.2 :=
  fm (z_iload_n (j := 0) (by decide +kernel) rfl) (
  fm (z_i2l (by decide +kernel)) (
  fm (z_ldc2 (i := 197) (by decide +kernel) wd_5_136) (
  fm (z_ldc2 (i := 199) (by decide +kernel) wd_5_137) (
  fm (z_invS (idx := 43) (by decide +kernel) wd_4_72 wd_4_73 wd_1_7 wd_4_74 (by decide +kernel) ⟨Nat.le_of_ble_eq_true rfl, Nat.le_of_ble_eq_true rfl⟩) (
  fm (z_zret rfl (by decide +kernel)) (fn))))))
def kX5_isOne : Cd := [(0, s_iload 0 1), (1, s_i2l 2), (2, s_pushl 0 3), (3, s_pushl 3 6), (6, s_invS mX5_in 3 9), (9, s_zret)]
set_option maxRecDepth 20000 in
theorem zX5_isOne : ∀ q ∈ kX5_isOne, Snd RX5 cX5_isOne 1 (some .boolean) (rmM mX5_isOne) q.1 q.2 :=
  fm (z_iload_n (j := 0) (by decide +kernel) rfl) (
  fm (z_i2l (by decide +kernel)) (
  fm (z_lconst (n := 0) (by decide +kernel) (by decide)) (
  fm (z_ldc2 (i := 296) (by decide +kernel) wd_5_213) (
  fm (z_invS (idx := 43) (by decide +kernel) wd_4_72 wd_4_73 wd_1_7 wd_4_74 (by decide +kernel) ⟨Nat.le_of_ble_eq_true rfl, Nat.le_of_ble_eq_true rfl⟩) (
  fm (z_zret rfl (by decide +kernel)) (fn))))))
def kX5_isPlace : Cd := [(0, s_iload 0 1), (1, s_i2l 2), (2, s_pushl 0 3), (3, s_pushl 11 6), (6, s_invS mX5_in 3 9), (9, s_zret)]
set_option maxRecDepth 20000 in
theorem zX5_isPlace : ∀ q ∈ kX5_isPlace, Snd RX5 cX5_isPlace 1 (some .boolean) (rmM mX5_isPlace) q.1 q.2 :=
  fm (z_iload_n (j := 0) (by decide +kernel) rfl) (
  fm (z_i2l (by decide +kernel)) (
  fm (z_lconst (n := 0) (by decide +kernel) (by decide)) (
  fm (z_ldc2 (i := 41) (by decide +kernel) wd_4_71) (
  fm (z_invS (idx := 43) (by decide +kernel) wd_4_72 wd_4_73 wd_1_7 wd_4_74 (by decide +kernel) ⟨Nat.le_of_ble_eq_true rfl, Nat.le_of_ble_eq_true rfl⟩) (
  fm (z_zret rfl (by decide +kernel)) (fn))))))
def kX5_isSo : Cd := [(0, s_pushi 1 1), (1, s_istore 3 2), (2, s_pushi 40 4), (4, s_iload 1 5), (5, s_bin (fun x y => x * y) 6), (6, s_istore 4 8), (8, s_iload 4 10), (10, s_pushi 2 11), (11, s_bin (fun x y => x + y) 12), (12, s_pushi 40 14), (14, s_iload 1 15), (15, s_bin (fun x y => x * y) 16), (16, s_aload 0 17), (17, s_getf 5 14 20), (20, s_iload 1 21), (21, s_iald 22), (22, s_bin (fun x y => x + y) 23), (23, s_icmp (fun x y => y ≤ x) 79 26), (26, s_iload 3 27), (27, s_if (fun x => x = 0) 71 30), (30, s_aload 0 31), (31, s_getf 5 15 34), (34, s_iload 4 36), (36, s_pushi 2 37), (37, s_bin (fun x y => x + y) 38), (38, s_iald 39), (39, s_iload 2 40), (40, s_icmp (fun x y => x = y) 43 67), (43, s_aload 0 44), (44, s_aload 0 45), (45, s_getf 5 15 48), (48, s_iload 4 50), (50, s_iald 51), (51, s_pushi 1 52), (52, s_inv mX5_its 5 2 55), (55, s_aload 0 56), (56, s_getf 5 15 59), (59, s_iload 4 61), (61, s_pushi 1 62), (62, s_bin (fun x y => x + y) 63), (63, s_iald 64), (64, s_icmp (fun x y => x = y) 67 71), (67, s_pushi 1 68), (68, s_goto 72), (71, s_pushi 0 72), (72, s_istore 3 73), (73, s_iinc 4 3 76), (76, s_goto 8), (79, s_iload 3 80), (80, s_zret)]
set_option maxRecDepth 20000 in
theorem zX5_isSo : ∀ q ∈ kX5_isSo, Snd RX5 cX5_isSo 5 (some .boolean) (rmM mX5_isSo) q.1 q.2 :=
  fm (z_iconst (n := 1) (by decide +kernel) (by decide)) (
  fm (z_istore_n (j := 3) (by decide +kernel) rfl (by decide)) (
  fm (z_bipush (n := 40) (by decide +kernel) (by decide)) (
  fm (z_iload_n (j := 1) (by decide +kernel) rfl) (
  fm (z_imul (by decide +kernel)) (
  fm (z_istore (i := 4) (by decide +kernel) (by decide)) (
  fm (z_iload (i := 4) (by decide +kernel)) (
  fm (z_iconst (n := 2) (by decide +kernel) (by decide)) (
  fm (z_iadd (by decide +kernel)) (
  fm (z_bipush (n := 40) (by decide +kernel) (by decide)) (
  fm (z_iload_n (j := 1) (by decide +kernel) rfl) (
  fm (z_imul (by decide +kernel)) (
  fm (z_aload_n (j := 0) (by decide +kernel) rfl) (
  fm (z_getf (idx := 31) awX5 rfl (by decide) wd_4_26 rfl (by decide +kernel)) (
  fm (z_iload_n (j := 1) (by decide +kernel) rfl) (
  fm (z_iald (by decide +kernel)) (
  fm (z_iadd (by decide +kernel)) (
  fm (z_icmp_ge (off := 56) (by decide +kernel) (by decide)) (
  fm (z_iload_n (j := 3) (by decide +kernel) rfl) (
  fm (z_if_eq (off := 44) (by decide +kernel) (by decide)) (
  fm (z_aload_n (j := 0) (by decide +kernel) rfl) (
  fm (z_getf (idx := 34) awX5 rfl (by decide) wd_4_27 rfl (by decide +kernel)) (
  fm (z_iload (i := 4) (by decide +kernel)) (
  fm (z_iconst (n := 2) (by decide +kernel) (by decide)) (
  fm (z_iadd (by decide +kernel)) (
  fm (z_iald (by decide +kernel)) (
  fm (z_iload_n (j := 2) (by decide +kernel) rfl) (
  fm (z_icmp_ne (off := 27) (by decide +kernel) (by decide)) (
  fm (z_aload_n (j := 0) (by decide +kernel) rfl) (
  fm (z_aload_n (j := 0) (by decide +kernel) rfl) (
  fm (z_getf (idx := 34) awX5 rfl (by decide) wd_4_27 rfl (by decide +kernel)) (
  fm (z_iload (i := 4) (by decide +kernel)) (
  fm (z_iald (by decide +kernel)) (
  fm (z_iconst (n := 1) (by decide +kernel) (by decide)) (
  fm (z_inv (idx := 62) rfl (by decide +kernel) wd_4_98 wd_4_100 ws_30 wd_1_7 wd_4_101 (by decide +kernel) ⟨Nat.le_of_ble_eq_true rfl, Nat.le_of_ble_eq_true rfl⟩) (
  fm (z_aload_n (j := 0) (by decide +kernel) rfl) (
  fm (z_getf (idx := 34) awX5 rfl (by decide) wd_4_27 rfl (by decide +kernel)) (
  fm (z_iload (i := 4) (by decide +kernel)) (
  fm (z_iconst (n := 1) (by decide +kernel) (by decide)) (
  fm (z_iadd (by decide +kernel)) (
  fm (z_iald (by decide +kernel)) (
  fm (z_icmp_ne (off := 7) (by decide +kernel) (by decide)) (
  fm (z_iconst (n := 1) (by decide +kernel) (by decide)) (
  fm (z_goto (off := 4) (by decide +kernel) (by decide)) (
  fm (z_iconst (n := 0) (by decide +kernel) (by decide)) (
  fm (z_istore_n (j := 3) (by decide +kernel) rfl (by decide)) (
  fm (z_iinc (n := 3) (by decide +kernel) (by decide) (by decide)) (
  fm (z_goto (off := (-68)) (by decide +kernel) (by decide)) (
  fm (z_iload_n (j := 3) (by decide +kernel) rfl) (
  fm (z_zret rfl (by decide +kernel)) (fn))))))))))))))))))))))))))))))))))))))))))))))))))
def kX5_isSpan : Cd := [(0, s_iload 0 1), (1, s_i2l 2), (2, s_pushl 0 3), (3, s_pushl 96 6), (6, s_invS mX5_in 3 9), (9, s_zret)]
set_option maxRecDepth 20000 in
theorem zX5_isSpan : ∀ q ∈ kX5_isSpan, Snd RX5 cX5_isSpan 1 (some .boolean) (rmM mX5_isSpan) q.1 q.2 :=
  fm (z_iload_n (j := 0) (by decide +kernel) rfl) (
  fm (z_i2l (by decide +kernel)) (
  fm (z_lconst (n := 0) (by decide +kernel) (by decide)) (
  fm (z_ldc2 (i := 125) (by decide +kernel) wd_4_199) (
  fm (z_invS (idx := 43) (by decide +kernel) wd_4_72 wd_4_73 wd_1_7 wd_4_74 (by decide +kernel) ⟨Nat.le_of_ble_eq_true rfl, Nat.le_of_ble_eq_true rfl⟩) (
  fm (z_zret rfl (by decide +kernel)) (fn))))))
def kX5_isStall : Cd := [(0, s_iload 1 1), (1, s_i2l 2), (2, s_pushl 0 3), (3, s_aload 0 4), (4, s_getf 5 0 7), (7, s_pushi 1 8), (8, s_iald 9), (9, s_pushi 1 10), (10, s_bin (fun x y => x - y) 11), (11, s_i2l 12), (12, s_invS mX5_in 3 15), (15, s_zret)]
set_option maxRecDepth 20000 in
theorem zX5_isStall : ∀ q ∈ kX5_isStall, Snd RX5 cX5_isStall 2 (some .boolean) (rmM mX5_isStall) q.1 q.2 :=
  fm (z_iload_n (j := 1) (by decide +kernel) rfl) (
  fm (z_i2l (by decide +kernel)) (
  fm (z_lconst (n := 0) (by decide +kernel) (by decide)) (
  fm (z_aload_n (j := 0) (by decide +kernel) rfl) (
  fm (z_getf (idx := 7) awX5 rfl (by decide) wd_4_12 rfl (by decide +kernel)) (
  fm (z_iconst (n := 1) (by decide +kernel) (by decide)) (
  fm (z_iald (by decide +kernel)) (
  fm (z_iconst (n := 1) (by decide +kernel) (by decide)) (
  fm (z_isub (by decide +kernel)) (
  fm (z_i2l (by decide +kernel)) (
  fm (z_invS (idx := 43) (by decide +kernel) wd_4_72 wd_4_73 wd_1_7 wd_4_74 (by decide +kernel) ⟨Nat.le_of_ble_eq_true rfl, Nat.le_of_ble_eq_true rfl⟩) (
  fm (z_zret rfl (by decide +kernel)) (fn))))))))))))
def kX5_isTooLate : Cd := [(0, s_aload 0 1), (1, s_getf 5 0 4), (4, s_pushi 0 5), (5, s_iald 6), (6, s_iload 1 7), (7, s_bin (fun x y => x + y) 8), (8, s_pushi 999 11), (11, s_icmp (fun x y => x ≤ y) 18 14), (14, s_pushi 1 15), (15, s_goto 19), (18, s_pushi 0 19), (19, s_zret)]
set_option maxRecDepth 20000 in
theorem zX5_isTooLate : ∀ q ∈ kX5_isTooLate, Snd RX5 cX5_isTooLate 2 (some .boolean) (rmM mX5_isTooLate) q.1 q.2 :=
  fm (z_aload_n (j := 0) (by decide +kernel) rfl) (
  fm (z_getf (idx := 7) awX5 rfl (by decide) wd_4_12 rfl (by decide +kernel)) (
  fm (z_iconst (n := 0) (by decide +kernel) (by decide)) (
  fm (z_iald (by decide +kernel)) (
  fm (z_iload_n (j := 1) (by decide +kernel) rfl) (
  fm (z_iadd (by decide +kernel)) (
  fm (z_sipush (n := 999) (by decide +kernel) (by decide)) (
  fm (z_icmp_le (off := 7) (by decide +kernel) (by decide)) (
  fm (z_iconst (n := 1) (by decide +kernel) (by decide)) (
  fm (z_goto (off := 4) (by decide +kernel) (by decide)) (
  fm (z_iconst (n := 0) (by decide +kernel) (by decide)) (
  fm (z_zret rfl (by decide +kernel)) (fn))))))))))))
def kX5_isTwo : Cd := [(0, s_aload 0 1), (1, s_iload 1 2), (2, s_inv mX5_isStall 5 1 5), (5, s_if (fun x => x = 0) 25 8), (8, s_aload 0 9), (9, s_iload 2 10), (10, s_inv mX5_isStall 5 1 13), (13, s_if (fun x => x = 0) 25 16), (16, s_iload 1 17), (17, s_iload 2 18), (18, s_icmp (fun x y => x = y) 25 21), (21, s_pushi 1 22), (22, s_goto 26), (25, s_pushi 0 26), (26, s_zret)]
set_option maxRecDepth 20000 in
theorem zX5_isTwo : ∀ q ∈ kX5_isTwo, Snd RX5 cX5_isTwo 3 (some .boolean) (rmM mX5_isTwo) q.1 q.2 :=
  fm (z_aload_n (j := 0) (by decide +kernel) rfl) (
  fm (z_iload_n (j := 1) (by decide +kernel) rfl) (
  fm (z_inv (idx := 76) rfl (by decide +kernel) wd_4_115 wd_4_117 ws_32 wd_1_7 wd_4_118 (by decide +kernel) ⟨Nat.le_of_ble_eq_true rfl, Nat.le_of_ble_eq_true rfl⟩) (
  fm (z_if_eq (off := 20) (by decide +kernel) (by decide)) (
  fm (z_aload_n (j := 0) (by decide +kernel) rfl) (
  fm (z_iload_n (j := 2) (by decide +kernel) rfl) (
  fm (z_inv (idx := 76) rfl (by decide +kernel) wd_4_115 wd_4_117 ws_32 wd_1_7 wd_4_118 (by decide +kernel) ⟨Nat.le_of_ble_eq_true rfl, Nat.le_of_ble_eq_true rfl⟩) (
  fm (z_if_eq (off := 12) (by decide +kernel) (by decide)) (
  fm (z_iload_n (j := 1) (by decide +kernel) rfl) (
  fm (z_iload_n (j := 2) (by decide +kernel) rfl) (
  fm (z_icmp_eq (off := 7) (by decide +kernel) (by decide)) (
  fm (z_iconst (n := 1) (by decide +kernel) (by decide)) (
  fm (z_goto (off := 4) (by decide +kernel) (by decide)) (
  fm (z_iconst (n := 0) (by decide +kernel) (by decide)) (
  fm (z_zret rfl (by decide +kernel)) (fn)))))))))))))))
def kX5_item : Cd := [(0, s_aload 0 1), (1, s_inv mX5_kindHere 5 0 4), (4, s_istore 1 5), (5, s_aload 0 6), (6, s_inv mX5_word 5 0 9), (9, s_pushl 20186245 12), (12, s_lcmp 13), (13, s_if (fun x => x = 0) 16 20), (16, s_pushi 1 17), (17, s_goto 21), (20, s_pushi 0 21), (21, s_istore 2 22), (22, s_iload 1 23), (23, s_if (fun x => x < 0) 34 26), (26, s_aload 0 27), (27, s_iload 1 28), (28, s_inv mX5_stallItem 5 1 31), (31, s_goto 146), (34, s_aload 0 35), (35, s_inv mX5_word 5 0 38), (38, s_pushl 748267155 41), (41, s_lcmp 42), (42, s_if (fun x => x = 0) 45 52), (45, s_aload 0 46), (46, s_inv mX5_visitsItem 5 0 49), (49, s_goto 146), (52, s_iload 2 53), (53, s_if (fun x => x = 0) 56 67), (56, s_aload 0 57), (57, s_inv mX5_word 5 0 60), (60, s_pushl 20142 63), (63, s_lcmp 64), (64, s_if (fun x => x = 0) 67 109), (67, s_aload 0 68), (68, s_pushi 1 69), (69, s_pushi 0 70), (70, s_pushi 11 72), (72, s_pushi 0 73), (73, s_inv mX5_perhaps 5 4 76), (76, s_istore 3 77), (77, s_aload 0 78), (78, s_getf 5 0 81), (81, s_pushi 16 83), (83, s_aload 0 84), (84, s_getf 5 12 87), (87, s_if (fun x => x = 0) 94 90), (90, s_pushi 0 91), (91, s_goto 95), (94, s_iload 3 95), (95, s_bin (fun x y => x + y) 96), (96, s_iload 2 97), (97, s_if (fun x => x = 0) 104 100), (100, s_pushi 1 101), (101, s_goto 105), (104, s_pushi 0 105), (105, s_iast 106), (106, s_goto 146), (109, s_aload 0 110), (110, s_aload 0 111), (111, s_inv mX5_word 5 0 114), (114, s_pushl 654910919 117), (117, s_lcmp 118), (118, s_if (fun x => x = 0) 121 125), (121, s_pushi 1 122), (122, s_goto 126), (125, s_pushi 0 126), (126, s_inv mX5_needs 5 1 129), (129, s_aload 0 130), (130, s_pushi 0 131), (131, s_pushi 11 133), (133, s_inv mX5_number 5 2 136), (136, s_aload 0 137), (137, s_getf 5 0 140), (140, s_pushi 2 141), (141, s_aload 0 142), (142, s_getf 5 11 145), (145, s_iast 146), (146, s_vret)]
set_option maxRecDepth 20000 in
theorem zX5_item : ∀ q ∈ kX5_item, Snd RX5 cX5_item 4 none (rmM mX5_item) q.1 q.2 :=
  fm (z_aload_n (j := 0) (by decide +kernel) rfl) (
  fm (z_inv (idx := 271) rfl (by decide +kernel) wd_5_146 wd_5_148 ws_62 wd_1_7 wd_5_149 (by decide +kernel) ⟨Nat.le_of_ble_eq_true rfl, Nat.le_of_ble_eq_true rfl⟩) (
  fm (z_istore_n (j := 1) (by decide +kernel) rfl (by decide)) (
  fm (z_aload_n (j := 0) (by decide +kernel) rfl) (
  fm (z_inv (idx := 236) rfl (by decide +kernel) wd_5_150 wd_5_152 ws_63 wd_1_7 wd_5_153 (by decide +kernel) ⟨Nat.le_of_ble_eq_true rfl, Nat.le_of_ble_eq_true rfl⟩) (
  fm (z_ldc2 (i := 274) (by decide +kernel) wd_5_163) (
  fm (z_lcmp (by decide +kernel)) (
  fm (z_if_ne (off := 7) (by decide +kernel) (by decide)) (
  fm (z_iconst (n := 1) (by decide +kernel) (by decide)) (
  fm (z_goto (off := 4) (by decide +kernel) (by decide)) (
  fm (z_iconst (n := 0) (by decide +kernel) (by decide)) (
  fm (z_istore_n (j := 2) (by decide +kernel) rfl (by decide)) (
  fm (z_iload_n (j := 1) (by decide +kernel) rfl) (
  fm (z_if_lt (off := 11) (by decide +kernel) (by decide)) (
  fm (z_aload_n (j := 0) (by decide +kernel) rfl) (
  fm (z_iload_n (j := 1) (by decide +kernel) rfl) (
  fm (z_inv (idx := 276) rfl (by decide +kernel) wd_5_164 wd_5_166 ws_64 wd_1_7 wd_5_167 (by decide +kernel) ⟨Nat.le_of_ble_eq_true rfl, Nat.le_of_ble_eq_true rfl⟩) (
  fm (z_goto (off := 115) (by decide +kernel) (by decide)) (
  fm (z_aload_n (j := 0) (by decide +kernel) rfl) (
  fm (z_inv (idx := 236) rfl (by decide +kernel) wd_5_150 wd_5_152 ws_63 wd_1_7 wd_5_153 (by decide +kernel) ⟨Nat.le_of_ble_eq_true rfl, Nat.le_of_ble_eq_true rfl⟩) (
  fm (z_ldc2 (i := 280) (by decide +kernel) wd_5_186) (
  fm (z_lcmp (by decide +kernel)) (
  fm (z_if_ne (off := 10) (by decide +kernel) (by decide)) (
  fm (z_aload_n (j := 0) (by decide +kernel) rfl) (
  fm (z_inv (idx := 282) rfl (by decide +kernel) wd_5_187 wd_5_189 ws_69 wd_1_7 wd_5_190 (by decide +kernel) ⟨Nat.le_of_ble_eq_true rfl, Nat.le_of_ble_eq_true rfl⟩) (
  fm (z_goto (off := 97) (by decide +kernel) (by decide)) (
  fm (z_iload_n (j := 2) (by decide +kernel) rfl) (
  fm (z_if_ne (off := 14) (by decide +kernel) (by decide)) (
  fm (z_aload_n (j := 0) (by decide +kernel) rfl) (
  fm (z_inv (idx := 236) rfl (by decide +kernel) wd_5_150 wd_5_152 ws_63 wd_1_7 wd_5_153 (by decide +kernel) ⟨Nat.le_of_ble_eq_true rfl, Nat.le_of_ble_eq_true rfl⟩) (
  fm (z_ldc2 (i := 285) (by decide +kernel) wd_5_193) (
  fm (z_lcmp (by decide +kernel)) (
  fm (z_if_ne (off := 45) (by decide +kernel) (by decide)) (
  fm (z_aload_n (j := 0) (by decide +kernel) rfl) (
  fm (z_iconst (n := 1) (by decide +kernel) (by decide)) (
  fm (z_iconst (n := 0) (by decide +kernel) (by decide)) (
  fm (z_bipush (n := 11) (by decide +kernel) (by decide)) (
  fm (z_iconst (n := 0) (by decide +kernel) (by decide)) (
  fm (z_inv (idx := 263) rfl (by decide +kernel) wd_5_178 wd_5_180 ws_67 wd_1_7 wd_5_181 (by decide +kernel) ⟨Nat.le_of_ble_eq_true rfl, Nat.le_of_ble_eq_true rfl⟩) (
  fm (z_istore_n (j := 3) (by decide +kernel) rfl (by decide)) (
  fm (z_aload_n (j := 0) (by decide +kernel) rfl) (
  fm (z_getf (idx := 7) awX5 rfl (by decide) wd_4_12 rfl (by decide +kernel)) (
  fm (z_bipush (n := 16) (by decide +kernel) (by decide)) (
  fm (z_aload_n (j := 0) (by decide +kernel) rfl) (
  fm (z_getf (idx := 218) awX5 rfl (by decide) wd_4_24 rfl (by decide +kernel)) (
  fm (z_if_eq (off := 7) (by decide +kernel) (by decide)) (
  fm (z_iconst (n := 0) (by decide +kernel) (by decide)) (
  fm (z_goto (off := 4) (by decide +kernel) (by decide)) (
  fm (z_iload_n (j := 3) (by decide +kernel) rfl) (
  fm (z_iadd (by decide +kernel)) (
  fm (z_iload_n (j := 2) (by decide +kernel) rfl) (
  fm (z_if_eq (off := 7) (by decide +kernel) (by decide)) (
  fm (z_iconst (n := 1) (by decide +kernel) (by decide)) (
  fm (z_goto (off := 4) (by decide +kernel) (by decide)) (
  fm (z_iconst (n := 0) (by decide +kernel) (by decide)) (
  fm (z_iast (by decide +kernel)) (
  fm (z_goto (off := 40) (by decide +kernel) (by decide)) (
  fm (z_aload_n (j := 0) (by decide +kernel) rfl) (
  fm (z_aload_n (j := 0) (by decide +kernel) rfl) (
  fm (z_inv (idx := 236) rfl (by decide +kernel) wd_5_150 wd_5_152 ws_63 wd_1_7 wd_5_153 (by decide +kernel) ⟨Nat.le_of_ble_eq_true rfl, Nat.le_of_ble_eq_true rfl⟩) (
  fm (z_ldc2 (i := 287) (by decide +kernel) wd_5_194) (
  fm (z_lcmp (by decide +kernel)) (
  fm (z_if_ne (off := 7) (by decide +kernel) (by decide)) (
  fm (z_iconst (n := 1) (by decide +kernel) (by decide)) (
  fm (z_goto (off := 4) (by decide +kernel) (by decide)) (
  fm (z_iconst (n := 0) (by decide +kernel) (by decide)) (
  fm (z_inv (idx := 232) rfl (by decide +kernel) wd_5_168 wd_5_170 ws_65 wd_1_7 wd_5_171 (by decide +kernel) ⟨Nat.le_of_ble_eq_true rfl, Nat.le_of_ble_eq_true rfl⟩) (
  fm (z_aload_n (j := 0) (by decide +kernel) rfl) (
  fm (z_iconst (n := 0) (by decide +kernel) (by decide)) (
  fm (z_bipush (n := 11) (by decide +kernel) (by decide)) (
  fm (z_inv (idx := 254) rfl (by decide +kernel) wd_5_182 wd_5_184 ws_68 wd_1_7 wd_5_185 (by decide +kernel) ⟨Nat.le_of_ble_eq_true rfl, Nat.le_of_ble_eq_true rfl⟩) (
  fm (z_aload_n (j := 0) (by decide +kernel) rfl) (
  fm (z_getf (idx := 7) awX5 rfl (by decide) wd_4_12 rfl (by decide +kernel)) (
  fm (z_iconst (n := 2) (by decide +kernel) (by decide)) (
  fm (z_aload_n (j := 0) (by decide +kernel) rfl) (
  fm (z_getf (idx := 229) awX5 rfl (by decide) wd_4_23 rfl (by decide +kernel)) (
  fm (z_iast (by decide +kernel)) (
  fm (z_vret rfl (by decide +kernel)) (fn))))))))))))))))))))))))))))))))))))))))))))))))))))))))))))))))))))))))))))))
def kX5_its : Cd := [(0, s_aload 0 1), (1, s_getf 5 0 4), (4, s_iload 1 5), (5, s_iload 2 6), (6, s_invS mX5_at 2 9), (9, s_iald 10), (10, s_iret)]
set_option maxRecDepth 20000 in
theorem zX5_its : ∀ q ∈ kX5_its, Snd RX5 cX5_its 3 (some .int) (rmM mX5_its) q.1 q.2 :=
  fm (z_aload_n (j := 0) (by decide +kernel) rfl) (
  fm (z_getf (idx := 7) awX5 rfl (by decide) wd_4_12 rfl (by decide +kernel)) (
  fm (z_iload_n (j := 1) (by decide +kernel) rfl) (
  fm (z_iload_n (j := 2) (by decide +kernel) rfl) (
  fm (z_invS (idx := 48) (by decide +kernel) wd_4_102 wd_4_103 wd_1_7 wd_4_104 (by decide +kernel) ⟨Nat.le_of_ble_eq_true rfl, Nat.le_of_ble_eq_true rfl⟩) (
  fm (z_iald (by decide +kernel)) (
  fm (z_iret rfl (by decide +kernel)) (fn)))))))
def kX5_judge : Cd := [(0, s_aload 0 1), (1, s_iload 1 2), (2, s_inv mX5_wrong 5 1 5), (5, s_istore 3 6), (6, s_iload 3 7), (7, s_if (fun x => x = 0) 10 37), (10, s_iload 2 11), (11, s_invS mX5_isSpan 1 14), (14, s_if (fun x => x = 0) 17 22), (17, s_pushi (-1000001) 19), (19, s_goto 36), (22, s_aload 0 23), (23, s_iload 2 24), (24, s_inv mX5_isTooLate 5 1 27), (27, s_if (fun x => x = 0) 35 30), (30, s_pushi (-1000005) 32), (32, s_goto 36), (35, s_pushi 0 36), (36, s_istore 3 37), (37, s_iload 3 38), (38, s_if (fun x => x = 0) 47 41), (41, s_aload 0 42), (42, s_iload 3 43), (43, s_inv mX5_finds 5 1 46), (46, s_iret), (47, s_aload 0 48), (48, s_inv mX5_saves 5 0 51), (51, s_aload 0 52), (52, s_iload 2 53), (53, s_inv mX5_hoursGo 5 1 56), (56, s_istore 4 58), (58, s_pushi 0 59), (59, s_istore 5 61), (61, s_iload 5 63), (63, s_aload 0 64), (64, s_getf 5 14 67), (67, s_iload 1 68), (68, s_iald 69), (69, s_icmp (fun x y => y ≤ x) 106 72), (72, s_iload 5 74), (74, s_pushi 12 76), (76, s_icmp (fun x y => y ≤ x) 106 79), (79, s_aload 0 80), (80, s_getf 5 15 83), (83, s_pushi 40 85), (85, s_iload 1 86), (86, s_bin (fun x y => x * y) 87), (87, s_iload 5 89), (89, s_bin (fun x y => x + y) 90), (90, s_iald 91), (91, s_aload 0 92), (92, s_iload 5 94), (94, s_inv mX5_stallAt 5 1 97), (97, s_icmp (fun x y => x = y) 100 106), (100, s_iinc 5 1 103), (103, s_goto 61), (106, s_aload 0 107), (107, s_inv mX5_putsBack 5 0 110), (110, s_iload 5 112), (112, s_pushi 12 114), (114, s_icmp (fun x y => x = y) 117 132), (117, s_aload 0 118), (118, s_getf 5 14 121), (121, s_iload 1 122), (122, s_iald 123), (123, s_pushi 12 125), (125, s_icmp (fun x y => x = y) 128 132), (128, s_pushi 0 129), (129, s_goto 136), (132, s_pushi 1 133), (133, s_iload 5 135), (135, s_bin (fun x y => x + y) 136), (136, s_iret)]
set_option maxRecDepth 20000 in
theorem zX5_judge : ∀ q ∈ kX5_judge, Snd RX5 cX5_judge 6 (some .int) (rmM mX5_judge) q.1 q.2 :=
  fm (z_aload_n (j := 0) (by decide +kernel) rfl) (
  fm (z_iload_n (j := 1) (by decide +kernel) rfl) (
  fm (z_inv (idx := 301) rfl (by decide +kernel) wd_5_218 wd_5_220 ws_70 wd_1_7 wd_5_221 (by decide +kernel) ⟨Nat.le_of_ble_eq_true rfl, Nat.le_of_ble_eq_true rfl⟩) (
  fm (z_istore_n (j := 3) (by decide +kernel) rfl (by decide)) (
  fm (z_iload_n (j := 3) (by decide +kernel) rfl) (
  fm (z_if_ne (off := 30) (by decide +kernel) (by decide)) (
  fm (z_iload_n (j := 2) (by decide +kernel) rfl) (
  fm (z_invS (idx := 127) (by decide +kernel) wd_4_196 wd_4_197 wd_1_7 wd_4_198 (by decide +kernel) ⟨Nat.le_of_ble_eq_true rfl, Nat.le_of_ble_eq_true rfl⟩) (
  fm (z_if_ne (off := 8) (by decide +kernel) (by decide)) (
  fm (z_ldc (i := 40) (by decide +kernel) wd_4_76) (
  fm (z_goto (off := 17) (by decide +kernel) (by decide)) (
  fm (z_aload_n (j := 0) (by decide +kernel) rfl) (
  fm (z_iload_n (j := 2) (by decide +kernel) rfl) (
  fm (z_inv (idx := 119) rfl (by decide +kernel) wd_4_158 wd_4_160 ws_37 wd_1_7 wd_4_161 (by decide +kernel) ⟨Nat.le_of_ble_eq_true rfl, Nat.le_of_ble_eq_true rfl⟩) (
  fm (z_if_eq (off := 8) (by decide +kernel) (by decide)) (
  fm (z_ldc (i := 70) (by decide +kernel) wd_4_105) (
  fm (z_goto (off := 4) (by decide +kernel) (by decide)) (
  fm (z_iconst (n := 0) (by decide +kernel) (by decide)) (
  fm (z_istore_n (j := 3) (by decide +kernel) rfl (by decide)) (
  fm (z_iload_n (j := 3) (by decide +kernel) rfl) (
  fm (z_if_eq (off := 9) (by decide +kernel) (by decide)) (
  fm (z_aload_n (j := 0) (by decide +kernel) rfl) (
  fm (z_iload_n (j := 3) (by decide +kernel) rfl) (
  fm (z_inv (idx := 58) rfl (by decide +kernel) wd_4_77 wd_4_79 ws_28 wd_1_7 wd_4_80 (by decide +kernel) ⟨Nat.le_of_ble_eq_true rfl, Nat.le_of_ble_eq_true rfl⟩) (
  fm (z_iret rfl (by decide +kernel)) (
  fm (z_aload_n (j := 0) (by decide +kernel) rfl) (
  fm (z_inv (idx := 130) rfl (by decide +kernel) wd_4_200 wd_4_202 ws_43 wd_1_7 wd_4_203 (by decide +kernel) ⟨Nat.le_of_ble_eq_true rfl, Nat.le_of_ble_eq_true rfl⟩) (
  fm (z_aload_n (j := 0) (by decide +kernel) rfl) (
  fm (z_iload_n (j := 2) (by decide +kernel) rfl) (
  fm (z_inv (idx := 122) rfl (by decide +kernel) wd_4_162 wd_4_164 ws_38 wd_1_7 wd_4_165 (by decide +kernel) ⟨Nat.le_of_ble_eq_true rfl, Nat.le_of_ble_eq_true rfl⟩) (
  fm (z_istore (i := 4) (by decide +kernel) (by decide)) (
  fm (z_iconst (n := 0) (by decide +kernel) (by decide)) (
  fm (z_istore (i := 5) (by decide +kernel) (by decide)) (
  fm (z_iload (i := 5) (by decide +kernel)) (
  fm (z_aload_n (j := 0) (by decide +kernel) rfl) (
  fm (z_getf (idx := 31) awX5 rfl (by decide) wd_4_26 rfl (by decide +kernel)) (
  fm (z_iload_n (j := 1) (by decide +kernel) rfl) (
  fm (z_iald (by decide +kernel)) (
  fm (z_icmp_ge (off := 37) (by decide +kernel) (by decide)) (
  fm (z_iload (i := 5) (by decide +kernel)) (
  fm (z_bipush (n := 12) (by decide +kernel) (by decide)) (
  fm (z_icmp_ge (off := 30) (by decide +kernel) (by decide)) (
  fm (z_aload_n (j := 0) (by decide +kernel) rfl) (
  fm (z_getf (idx := 34) awX5 rfl (by decide) wd_4_27 rfl (by decide +kernel)) (
  fm (z_bipush (n := 40) (by decide +kernel) (by decide)) (
  fm (z_iload_n (j := 1) (by decide +kernel) rfl) (
  fm (z_imul (by decide +kernel)) (
  fm (z_iload (i := 5) (by decide +kernel)) (
  fm (z_iadd (by decide +kernel)) (
  fm (z_iald (by decide +kernel)) (
  fm (z_aload_n (j := 0) (by decide +kernel) rfl) (
  fm (z_iload (i := 5) (by decide +kernel)) (
  fm (z_inv (idx := 67) rfl (by decide +kernel) wd_4_94 wd_4_96 ws_29 wd_1_7 wd_4_97 (by decide +kernel) ⟨Nat.le_of_ble_eq_true rfl, Nat.le_of_ble_eq_true rfl⟩) (
  fm (z_icmp_ne (off := 9) (by decide +kernel) (by decide)) (
  fm (z_iinc (n := 1) (by decide +kernel) (by decide) (by decide)) (
  fm (z_goto (off := (-42)) (by decide +kernel) (by decide)) (
  fm (z_aload_n (j := 0) (by decide +kernel) rfl) (
  fm (z_inv (idx := 142) rfl (by decide +kernel) wd_4_216 wd_4_218 ws_47 wd_1_7 wd_4_219 (by decide +kernel) ⟨Nat.le_of_ble_eq_true rfl, Nat.le_of_ble_eq_true rfl⟩) (
  fm (z_iload (i := 5) (by decide +kernel)) (
  fm (z_bipush (n := 12) (by decide +kernel) (by decide)) (
  fm (z_icmp_ne (off := 18) (by decide +kernel) (by decide)) (
  fm (z_aload_n (j := 0) (by decide +kernel) rfl) (
  fm (z_getf (idx := 31) awX5 rfl (by decide) wd_4_26 rfl (by decide +kernel)) (
  fm (z_iload_n (j := 1) (by decide +kernel) rfl) (
  fm (z_iald (by decide +kernel)) (
  fm (z_bipush (n := 12) (by decide +kernel) (by decide)) (
  fm (z_icmp_ne (off := 7) (by decide +kernel) (by decide)) (
  fm (z_iconst (n := 0) (by decide +kernel) (by decide)) (
  fm (z_goto (off := 7) (by decide +kernel) (by decide)) (
  fm (z_iconst (n := 1) (by decide +kernel) (by decide)) (
  fm (z_iload (i := 5) (by decide +kernel)) (
  fm (z_iadd (by decide +kernel)) (
  fm (z_iret rfl (by decide +kernel)) (fn)))))))))))))))))))))))))))))))))))))))))))))))))))))))))))))))))))))))))
def kX5_kindHere : Cd := [(0, s_aload 0 1), (1, s_inv mX5_word 5 0 4), (4, s_lstore 1 5), (5, s_lload 1 6), (6, s_pushl 20579724 9), (9, s_lcmp 10), (10, s_if (fun x => x = 0) 13 17), (13, s_pushi 0 14), (14, s_goto 91), (17, s_lload 1 18), (18, s_pushl 150636933 21), (21, s_lcmp 22), (22, s_if (fun x => x = 0) 25 29), (25, s_pushi 1 26), (26, s_goto 91), (29, s_lload 1 30), (30, s_pushl 299397 33), (33, s_lcmp 34), (34, s_if (fun x => x = 0) 37 41), (37, s_pushi 2 38), (38, s_goto 91), (41, s_lload 1 42), (42, s_pushl 645959844 45), (45, s_lcmp 46), (46, s_if (fun x => x = 0) 49 53), (49, s_pushi 3 50), (50, s_goto 91), (53, s_lload 1 54), (54, s_pushl 395097 57), (57, s_lcmp 58), (58, s_if (fun x => x = 0) 61 65), (61, s_pushi 4 62), (62, s_goto 91), (65, s_lload 1 66), (66, s_pushl 2500036 69), (69, s_lcmp 70), (70, s_if (fun x => x = 0) 73 77), (73, s_pushi 5 74), (74, s_goto 91), (77, s_lload 1 78), (78, s_pushl 109221477 81), (81, s_lcmp 82), (82, s_if (fun x => x = 0) 85 90), (85, s_pushi 6 87), (87, s_goto 91), (90, s_pushi (-1) 91), (91, s_iret)]
set_option maxRecDepth 20000 in
theorem zX5_kindHere : ∀ q ∈ kX5_kindHere, Snd RX5 cX5_kindHere 3 (some .int) (rmM mX5_kindHere) q.1 q.2 :=
  fm (z_aload_n (j := 0) (by decide +kernel) rfl) (
  fm (z_inv (idx := 236) rfl (by decide +kernel) wd_5_150 wd_5_152 ws_63 wd_1_7 wd_5_153 (by decide +kernel) ⟨Nat.le_of_ble_eq_true rfl, Nat.le_of_ble_eq_true rfl⟩) (
  fm (z_lstore_n (j := 1) (by decide +kernel) rfl (by decide)) (
  fm (z_lload_n (j := 1) (by decide +kernel) rfl) (
  fm (z_ldc2 (i := 240) (by decide +kernel) wd_5_156) (
  fm (z_lcmp (by decide +kernel)) (
  fm (z_if_ne (off := 7) (by decide +kernel) (by decide)) (
  fm (z_iconst (n := 0) (by decide +kernel) (by decide)) (
  fm (z_goto (off := 77) (by decide +kernel) (by decide)) (
  fm (z_lload_n (j := 1) (by decide +kernel) rfl) (
  fm (z_ldc2 (i := 242) (by decide +kernel) wd_5_157) (
  fm (z_lcmp (by decide +kernel)) (
  fm (z_if_ne (off := 7) (by decide +kernel) (by decide)) (
  fm (z_iconst (n := 1) (by decide +kernel) (by decide)) (
  fm (z_goto (off := 65) (by decide +kernel) (by decide)) (
  fm (z_lload_n (j := 1) (by decide +kernel) rfl) (
  fm (z_ldc2 (i := 244) (by decide +kernel) wd_5_158) (
  fm (z_lcmp (by decide +kernel)) (
  fm (z_if_ne (off := 7) (by decide +kernel) (by decide)) (
  fm (z_iconst (n := 2) (by decide +kernel) (by decide)) (
  fm (z_goto (off := 53) (by decide +kernel) (by decide)) (
  fm (z_lload_n (j := 1) (by decide +kernel) rfl) (
  fm (z_ldc2 (i := 246) (by decide +kernel) wd_5_159) (
  fm (z_lcmp (by decide +kernel)) (
  fm (z_if_ne (off := 7) (by decide +kernel) (by decide)) (
  fm (z_iconst (n := 3) (by decide +kernel) (by decide)) (
  fm (z_goto (off := 41) (by decide +kernel) (by decide)) (
  fm (z_lload_n (j := 1) (by decide +kernel) rfl) (
  fm (z_ldc2 (i := 248) (by decide +kernel) wd_5_160) (
  fm (z_lcmp (by decide +kernel)) (
  fm (z_if_ne (off := 7) (by decide +kernel) (by decide)) (
  fm (z_iconst (n := 4) (by decide +kernel) (by decide)) (
  fm (z_goto (off := 29) (by decide +kernel) (by decide)) (
  fm (z_lload_n (j := 1) (by decide +kernel) rfl) (
  fm (z_ldc2 (i := 250) (by decide +kernel) wd_5_161) (
  fm (z_lcmp (by decide +kernel)) (
  fm (z_if_ne (off := 7) (by decide +kernel) (by decide)) (
  fm (z_iconst (n := 5) (by decide +kernel) (by decide)) (
  fm (z_goto (off := 17) (by decide +kernel) (by decide)) (
  fm (z_lload_n (j := 1) (by decide +kernel) rfl) (
  fm (z_ldc2 (i := 252) (by decide +kernel) wd_5_162) (
  fm (z_lcmp (by decide +kernel)) (
  fm (z_if_ne (off := 8) (by decide +kernel) (by decide)) (
  fm (z_bipush (n := 6) (by decide +kernel) (by decide)) (
  fm (z_goto (off := 4) (by decide +kernel) (by decide)) (
  fm (z_iconst (n := (-1)) (by decide +kernel) (by decide)) (
  fm (z_iret rfl (by decide +kernel)) (fn)))))))))))))))))))))))))))))))))))))))))))))))
def kX5_lays : Cd := [(0, s_aload 0 1), (1, s_inv mX5_putsBack 5 0 4), (4, s_pushi 0 5), (5, s_istore 1 6), (6, s_iload 1 7), (7, s_aload 0 8), (8, s_getf 5 0 11), (11, s_pushi 1 12), (12, s_iald 13), (13, s_icmp (fun x y => y ≤ x) 47 16), (16, s_aload 0 17), (17, s_getf 5 0 20), (20, s_iload 1 21), (21, s_pushi 1 22), (22, s_invS mX5_at 2 25), (25, s_aload 0 26), (26, s_getf 5 2 29), (29, s_aload 0 30), (30, s_getf 5 5 33), (33, s_iload 1 34), (34, s_iald 35), (35, s_pushi 1 36), (36, s_invS mX5_at 2 39), (39, s_iald 40), (40, s_iast 41), (41, s_iinc 1 1 44), (44, s_goto 6), (47, s_vret)]
set_option maxRecDepth 20000 in
theorem zX5_lays : ∀ q ∈ kX5_lays, Snd RX5 cX5_lays 2 none (rmM mX5_lays) q.1 q.2 :=
  fm (z_aload_n (j := 0) (by decide +kernel) rfl) (
  fm (z_inv (idx := 142) rfl (by decide +kernel) wd_4_216 wd_4_218 ws_47 wd_1_7 wd_4_219 (by decide +kernel) ⟨Nat.le_of_ble_eq_true rfl, Nat.le_of_ble_eq_true rfl⟩) (
  fm (z_iconst (n := 0) (by decide +kernel) (by decide)) (
  fm (z_istore_n (j := 1) (by decide +kernel) rfl (by decide)) (
  fm (z_iload_n (j := 1) (by decide +kernel) rfl) (
  fm (z_aload_n (j := 0) (by decide +kernel) rfl) (
  fm (z_getf (idx := 7) awX5 rfl (by decide) wd_4_12 rfl (by decide +kernel)) (
  fm (z_iconst (n := 1) (by decide +kernel) (by decide)) (
  fm (z_iald (by decide +kernel)) (
  fm (z_icmp_ge (off := 34) (by decide +kernel) (by decide)) (
  fm (z_aload_n (j := 0) (by decide +kernel) rfl) (
  fm (z_getf (idx := 7) awX5 rfl (by decide) wd_4_12 rfl (by decide +kernel)) (
  fm (z_iload_n (j := 1) (by decide +kernel) rfl) (
  fm (z_iconst (n := 1) (by decide +kernel) (by decide)) (
  fm (z_invS (idx := 48) (by decide +kernel) wd_4_102 wd_4_103 wd_1_7 wd_4_104 (by decide +kernel) ⟨Nat.le_of_ble_eq_true rfl, Nat.le_of_ble_eq_true rfl⟩) (
  fm (z_aload_n (j := 0) (by decide +kernel) rfl) (
  fm (z_getf (idx := 16) awX5 rfl (by decide) wd_4_14 rfl (by decide +kernel)) (
  fm (z_aload_n (j := 0) (by decide +kernel) rfl) (
  fm (z_getf (idx := 22) awX5 rfl (by decide) wd_4_17 rfl (by decide +kernel)) (
  fm (z_iload_n (j := 1) (by decide +kernel) rfl) (
  fm (z_iald (by decide +kernel)) (
  fm (z_iconst (n := 1) (by decide +kernel) (by decide)) (
  fm (z_invS (idx := 48) (by decide +kernel) wd_4_102 wd_4_103 wd_1_7 wd_4_104 (by decide +kernel) ⟨Nat.le_of_ble_eq_true rfl, Nat.le_of_ble_eq_true rfl⟩) (
  fm (z_iald (by decide +kernel)) (
  fm (z_iast (by decide +kernel)) (
  fm (z_iinc (n := 1) (by decide +kernel) (by decide) (by decide)) (
  fm (z_goto (off := (-38)) (by decide +kernel) (by decide)) (
  fm (z_vret rfl (by decide +kernel)) (fn))))))))))))))))))))))))))))
def kX5_load : Cd := [(0, s_aload 0 1), (1, s_iload 1 2), (2, s_inv mX5_wrong 5 1 5), (5, s_istore 2 6), (6, s_iload 2 7), (7, s_if (fun x => x = 0) 16 10), (10, s_aload 0 11), (11, s_iload 2 12), (12, s_inv mX5_finds 5 1 15), (15, s_iret), (16, s_pushi 0 17), (17, s_istore 3 18), (18, s_iload 3 19), (19, s_aload 0 20), (20, s_getf 5 14 23), (23, s_iload 1 24), (24, s_iald 25), (25, s_icmp (fun x y => y ≤ x) 81 28), (28, s_iload 3 29), (29, s_pushi 12 31), (31, s_icmp (fun x y => y ≤ x) 81 34), (34, s_aload 0 35), (35, s_getf 5 15 38), (38, s_pushi 40 40), (40, s_iload 1 41), (41, s_bin (fun x y => x * y) 42), (42, s_iload 3 43), (43, s_bin (fun x y => x + y) 44), (44, s_iald 45), (45, s_i2l 46), (46, s_pushl 0 47), (47, s_pushl 20 50), (50, s_invS mX5_in 3 53), (53, s_if (fun x => x = 0) 81 56), (56, s_aload 0 57), (57, s_getf 5 0 60), (60, s_pushi 4 61), (61, s_iload 3 62), (62, s_bin (fun x y => x + y) 63), (63, s_aload 0 64), (64, s_getf 5 15 67), (67, s_pushi 40 69), (69, s_iload 1 70), (70, s_bin (fun x y => x * y) 71), (71, s_iload 3 72), (72, s_bin (fun x y => x + y) 73), (73, s_iald 74), (74, s_iast 75), (75, s_iinc 3 1 78), (78, s_goto 18), (81, s_iload 3 82), (82, s_iret)]
set_option maxRecDepth 20000 in
theorem zX5_load : ∀ q ∈ kX5_load, Snd RX5 cX5_load 4 (some .int) (rmM mX5_load) q.1 q.2 :=
  fm (z_aload_n (j := 0) (by decide +kernel) rfl) (
  fm (z_iload_n (j := 1) (by decide +kernel) rfl) (
  fm (z_inv (idx := 301) rfl (by decide +kernel) wd_5_218 wd_5_220 ws_70 wd_1_7 wd_5_221 (by decide +kernel) ⟨Nat.le_of_ble_eq_true rfl, Nat.le_of_ble_eq_true rfl⟩) (
  fm (z_istore_n (j := 2) (by decide +kernel) rfl (by decide)) (
  fm (z_iload_n (j := 2) (by decide +kernel) rfl) (
  fm (z_if_eq (off := 9) (by decide +kernel) (by decide)) (
  fm (z_aload_n (j := 0) (by decide +kernel) rfl) (
  fm (z_iload_n (j := 2) (by decide +kernel) rfl) (
  fm (z_inv (idx := 58) rfl (by decide +kernel) wd_4_77 wd_4_79 ws_28 wd_1_7 wd_4_80 (by decide +kernel) ⟨Nat.le_of_ble_eq_true rfl, Nat.le_of_ble_eq_true rfl⟩) (
  fm (z_iret rfl (by decide +kernel)) (
  fm (z_iconst (n := 0) (by decide +kernel) (by decide)) (
  fm (z_istore_n (j := 3) (by decide +kernel) rfl (by decide)) (
  fm (z_iload_n (j := 3) (by decide +kernel) rfl) (
  fm (z_aload_n (j := 0) (by decide +kernel) rfl) (
  fm (z_getf (idx := 31) awX5 rfl (by decide) wd_4_26 rfl (by decide +kernel)) (
  fm (z_iload_n (j := 1) (by decide +kernel) rfl) (
  fm (z_iald (by decide +kernel)) (
  fm (z_icmp_ge (off := 56) (by decide +kernel) (by decide)) (
  fm (z_iload_n (j := 3) (by decide +kernel) rfl) (
  fm (z_bipush (n := 12) (by decide +kernel) (by decide)) (
  fm (z_icmp_ge (off := 50) (by decide +kernel) (by decide)) (
  fm (z_aload_n (j := 0) (by decide +kernel) rfl) (
  fm (z_getf (idx := 34) awX5 rfl (by decide) wd_4_27 rfl (by decide +kernel)) (
  fm (z_bipush (n := 40) (by decide +kernel) (by decide)) (
  fm (z_iload_n (j := 1) (by decide +kernel) rfl) (
  fm (z_imul (by decide +kernel)) (
  fm (z_iload_n (j := 3) (by decide +kernel) rfl) (
  fm (z_iadd (by decide +kernel)) (
  fm (z_iald (by decide +kernel)) (
  fm (z_i2l (by decide +kernel)) (
  fm (z_lconst (n := 0) (by decide +kernel) (by decide)) (
  fm (z_ldc2 (i := 56) (by decide +kernel) wd_4_75) (
  fm (z_invS (idx := 43) (by decide +kernel) wd_4_72 wd_4_73 wd_1_7 wd_4_74 (by decide +kernel) ⟨Nat.le_of_ble_eq_true rfl, Nat.le_of_ble_eq_true rfl⟩) (
  fm (z_if_eq (off := 28) (by decide +kernel) (by decide)) (
  fm (z_aload_n (j := 0) (by decide +kernel) rfl) (
  fm (z_getf (idx := 7) awX5 rfl (by decide) wd_4_12 rfl (by decide +kernel)) (
  fm (z_iconst (n := 4) (by decide +kernel) (by decide)) (
  fm (z_iload_n (j := 3) (by decide +kernel) rfl) (
  fm (z_iadd (by decide +kernel)) (
  fm (z_aload_n (j := 0) (by decide +kernel) rfl) (
  fm (z_getf (idx := 34) awX5 rfl (by decide) wd_4_27 rfl (by decide +kernel)) (
  fm (z_bipush (n := 40) (by decide +kernel) (by decide)) (
  fm (z_iload_n (j := 1) (by decide +kernel) rfl) (
  fm (z_imul (by decide +kernel)) (
  fm (z_iload_n (j := 3) (by decide +kernel) rfl) (
  fm (z_iadd (by decide +kernel)) (
  fm (z_iald (by decide +kernel)) (
  fm (z_iast (by decide +kernel)) (
  fm (z_iinc (n := 1) (by decide +kernel) (by decide) (by decide)) (
  fm (z_goto (off := (-60)) (by decide +kernel) (by decide)) (
  fm (z_iload_n (j := 3) (by decide +kernel) rfl) (
  fm (z_iret rfl (by decide +kernel)) (fn))))))))))))))))))))))))))))))))))))))))))))))))))))
def kX5_lots : Cd := [(0, s_iload 1 1), (1, s_i2l 2), (2, s_pushl 1 3), (3, s_pushl 12 6), (6, s_invS mX5_in 3 9), (9, s_if (fun x => x = 0) 12 19), (12, s_aload 0 13), (13, s_pushi (-1000001) 15), (15, s_inv mX5_finds 5 1 18), (18, s_iret), (19, s_aload 0 20), (20, s_getf 5 0 23), (23, s_pushi 1 24), (24, s_iald 25), (25, s_if (fun x => x = 0) 28 35), (28, s_aload 0 29), (29, s_pushi (-1000005) 31), (31, s_inv mX5_finds 5 1 34), (34, s_iret), (35, s_pushi 0 36), (36, s_istore 2 37), (37, s_iload 2 38), (38, s_iload 1 39), (39, s_icmp (fun x y => y ≤ x) 76 42), (42, s_aload 0 43), (43, s_inv mX5_draw 5 0 46), (46, s_aload 0 47), (47, s_getf 5 0 50), (50, s_pushi 1 51), (51, s_iald 52), (52, s_rem 53), (53, s_istore 3 54), (54, s_aload 0 55), (55, s_iload 3 56), (56, s_aload 0 57), (57, s_inv mX5_draw 5 0 60), (60, s_aload 0 61), (61, s_getf 5 0 64), (64, s_pushi 1 65), (65, s_iald 66), (66, s_rem 67), (67, s_inv mX5_swaps 5 2 70), (70, s_iinc 2 1 73), (73, s_goto 37), (76, s_pushi 100 78), (78, s_aload 0 79), (79, s_pushi 0 80), (80, s_pushi 1 81), (81, s_inv mX5_its 5 2 84), (84, s_bin (fun x y => x * y) 85), (85, s_aload 0 86), (86, s_aload 0 87), (87, s_getf 5 0 90), (90, s_pushi 1 91), (91, s_iald 92), (92, s_pushi 1 93), (93, s_bin (fun x y => x - y) 94), (94, s_pushi 1 95), (95, s_inv mX5_its 5 2 98), (98, s_bin (fun x y => x + y) 99), (99, s_iret)]
set_option maxRecDepth 20000 in
theorem zX5_lots : ∀ q ∈ kX5_lots, Snd RX5 cX5_lots 4 (some .int) (rmM mX5_lots) q.1 q.2 :=
  fm (z_iload_n (j := 1) (by decide +kernel) rfl) (
  fm (z_i2l (by decide +kernel)) (
  fm (z_lconst (n := 1) (by decide +kernel) (by decide)) (
  fm (z_ldc2 (i := 187) (by decide +kernel) wd_5_102) (
  fm (z_invS (idx := 43) (by decide +kernel) wd_4_72 wd_4_73 wd_1_7 wd_4_74 (by decide +kernel) ⟨Nat.le_of_ble_eq_true rfl, Nat.le_of_ble_eq_true rfl⟩) (
  fm (z_if_ne (off := 10) (by decide +kernel) (by decide)) (
  fm (z_aload_n (j := 0) (by decide +kernel) rfl) (
  fm (z_ldc (i := 40) (by decide +kernel) wd_4_76) (
  fm (z_inv (idx := 58) rfl (by decide +kernel) wd_4_77 wd_4_79 ws_28 wd_1_7 wd_4_80 (by decide +kernel) ⟨Nat.le_of_ble_eq_true rfl, Nat.le_of_ble_eq_true rfl⟩) (
  fm (z_iret rfl (by decide +kernel)) (
  fm (z_aload_n (j := 0) (by decide +kernel) rfl) (
  fm (z_getf (idx := 7) awX5 rfl (by decide) wd_4_12 rfl (by decide +kernel)) (
  fm (z_iconst (n := 1) (by decide +kernel) (by decide)) (
  fm (z_iald (by decide +kernel)) (
  fm (z_if_ne (off := 10) (by decide +kernel) (by decide)) (
  fm (z_aload_n (j := 0) (by decide +kernel) rfl) (
  fm (z_ldc (i := 70) (by decide +kernel) wd_4_105) (
  fm (z_inv (idx := 58) rfl (by decide +kernel) wd_4_77 wd_4_79 ws_28 wd_1_7 wd_4_80 (by decide +kernel) ⟨Nat.le_of_ble_eq_true rfl, Nat.le_of_ble_eq_true rfl⟩) (
  fm (z_iret rfl (by decide +kernel)) (
  fm (z_iconst (n := 0) (by decide +kernel) (by decide)) (
  fm (z_istore_n (j := 2) (by decide +kernel) rfl (by decide)) (
  fm (z_iload_n (j := 2) (by decide +kernel) rfl) (
  fm (z_iload_n (j := 1) (by decide +kernel) rfl) (
  fm (z_icmp_ge (off := 37) (by decide +kernel) (by decide)) (
  fm (z_aload_n (j := 0) (by decide +kernel) rfl) (
  fm (z_inv (idx := 189) rfl (by decide +kernel) wd_5_103 wd_5_105 ws_58 wd_1_7 wd_5_106 (by decide +kernel) ⟨Nat.le_of_ble_eq_true rfl, Nat.le_of_ble_eq_true rfl⟩) (
  fm (z_aload_n (j := 0) (by decide +kernel) rfl) (
  fm (z_getf (idx := 7) awX5 rfl (by decide) wd_4_12 rfl (by decide +kernel)) (
  fm (z_iconst (n := 1) (by decide +kernel) (by decide)) (
  fm (z_iald (by decide +kernel)) (
  fm (z_irem (by decide +kernel)) (
  fm (z_istore_n (j := 3) (by decide +kernel) rfl (by decide)) (
  fm (z_aload_n (j := 0) (by decide +kernel) rfl) (
  fm (z_iload_n (j := 3) (by decide +kernel) rfl) (
  fm (z_aload_n (j := 0) (by decide +kernel) rfl) (
  fm (z_inv (idx := 189) rfl (by decide +kernel) wd_5_103 wd_5_105 ws_58 wd_1_7 wd_5_106 (by decide +kernel) ⟨Nat.le_of_ble_eq_true rfl, Nat.le_of_ble_eq_true rfl⟩) (
  fm (z_aload_n (j := 0) (by decide +kernel) rfl) (
  fm (z_getf (idx := 7) awX5 rfl (by decide) wd_4_12 rfl (by decide +kernel)) (
  fm (z_iconst (n := 1) (by decide +kernel) (by decide)) (
  fm (z_iald (by decide +kernel)) (
  fm (z_irem (by decide +kernel)) (
  fm (z_inv (idx := 87) rfl (by decide +kernel) wd_4_136 wd_4_138 ws_35 wd_1_7 wd_4_139 (by decide +kernel) ⟨Nat.le_of_ble_eq_true rfl, Nat.le_of_ble_eq_true rfl⟩) (
  fm (z_iinc (n := 1) (by decide +kernel) (by decide) (by decide)) (
  fm (z_goto (off := (-36)) (by decide +kernel) (by decide)) (
  fm (z_bipush (n := 100) (by decide +kernel) (by decide)) (
  fm (z_aload_n (j := 0) (by decide +kernel) rfl) (
  fm (z_iconst (n := 0) (by decide +kernel) (by decide)) (
  fm (z_iconst (n := 1) (by decide +kernel) (by decide)) (
  fm (z_inv (idx := 62) rfl (by decide +kernel) wd_4_98 wd_4_100 ws_30 wd_1_7 wd_4_101 (by decide +kernel) ⟨Nat.le_of_ble_eq_true rfl, Nat.le_of_ble_eq_true rfl⟩) (
  fm (z_imul (by decide +kernel)) (
  fm (z_aload_n (j := 0) (by decide +kernel) rfl) (
  fm (z_aload_n (j := 0) (by decide +kernel) rfl) (
  fm (z_getf (idx := 7) awX5 rfl (by decide) wd_4_12 rfl (by decide +kernel)) (
  fm (z_iconst (n := 1) (by decide +kernel) (by decide)) (
  fm (z_iald (by decide +kernel)) (
  fm (z_iconst (n := 1) (by decide +kernel) (by decide)) (
  fm (z_isub (by decide +kernel)) (
  fm (z_iconst (n := 1) (by decide +kernel) (by decide)) (
  fm (z_inv (idx := 62) rfl (by decide +kernel) wd_4_98 wd_4_100 ws_30 wd_1_7 wd_4_101 (by decide +kernel) ⟨Nat.le_of_ble_eq_true rfl, Nat.le_of_ble_eq_true rfl⟩) (
  fm (z_iadd (by decide +kernel)) (
  fm (z_iret rfl (by decide +kernel)) (fn)))))))))))))))))))))))))))))))))))))))))))))))))))))))))))))
def kX5_meet : Cd := [(0, s_aload 0 1), (1, s_iload 1 2), (2, s_iload 2 3), (3, s_inv mX5_isTwo 5 2 6), (6, s_if (fun x => x = 0) 9 16), (9, s_aload 0 10), (10, s_pushi (-1000001) 12), (12, s_inv mX5_finds 5 1 15), (15, s_iret), (16, s_aload 0 17), (17, s_pushi 96 19), (19, s_inv mX5_isTooLate 5 1 22), (22, s_if (fun x => x = 0) 32 25), (25, s_aload 0 26), (26, s_pushi (-1000005) 28), (28, s_inv mX5_finds 5 1 31), (31, s_iret), (32, s_aload 0 33), (33, s_inv mX5_saves 5 0 36), (36, s_pushi 0 37), (37, s_istore 3 38), (38, s_iload 3 39), (39, s_pushi 97 41), (41, s_icmp (fun x y => y ≤ x) 65 44), (44, s_aload 0 45), (45, s_iload 1 46), (46, s_iload 2 47), (47, s_inv mX5_isBeside 5 2 50), (50, s_if (fun x => x = 0) 53 65), (53, s_aload 0 54), (54, s_inv mX5_hour 5 0 57), (57, s_istore 4 59), (59, s_iinc 3 1 62), (62, s_goto 38), (65, s_aload 0 66), (66, s_inv mX5_putsBack 5 0 69), (69, s_iload 3 70), (70, s_pushi 96 72), (72, s_icmp (fun x y => x ≤ y) 84 75), (75, s_aload 0 76), (76, s_pushi (-1000004) 78), (78, s_inv mX5_finds 5 1 81), (81, s_goto 85), (84, s_iload 3 85), (85, s_iret)]
set_option maxRecDepth 20000 in
theorem zX5_meet : ∀ q ∈ kX5_meet, Snd RX5 cX5_meet 5 (some .int) (rmM mX5_meet) q.1 q.2 :=
  fm (z_aload_n (j := 0) (by decide +kernel) rfl) (
  fm (z_iload_n (j := 1) (by decide +kernel) rfl) (
  fm (z_iload_n (j := 2) (by decide +kernel) rfl) (
  fm (z_inv (idx := 181) rfl (by decide +kernel) wd_5_74 wd_5_76 ws_56 wd_1_7 wd_5_77 (by decide +kernel) ⟨Nat.le_of_ble_eq_true rfl, Nat.le_of_ble_eq_true rfl⟩) (
  fm (z_if_ne (off := 10) (by decide +kernel) (by decide)) (
  fm (z_aload_n (j := 0) (by decide +kernel) rfl) (
  fm (z_ldc (i := 40) (by decide +kernel) wd_4_76) (
  fm (z_inv (idx := 58) rfl (by decide +kernel) wd_4_77 wd_4_79 ws_28 wd_1_7 wd_4_80 (by decide +kernel) ⟨Nat.le_of_ble_eq_true rfl, Nat.le_of_ble_eq_true rfl⟩) (
  fm (z_iret rfl (by decide +kernel)) (
  fm (z_aload_n (j := 0) (by decide +kernel) rfl) (
  fm (z_bipush (n := 96) (by decide +kernel) (by decide)) (
  fm (z_inv (idx := 119) rfl (by decide +kernel) wd_4_158 wd_4_160 ws_37 wd_1_7 wd_4_161 (by decide +kernel) ⟨Nat.le_of_ble_eq_true rfl, Nat.le_of_ble_eq_true rfl⟩) (
  fm (z_if_eq (off := 10) (by decide +kernel) (by decide)) (
  fm (z_aload_n (j := 0) (by decide +kernel) rfl) (
  fm (z_ldc (i := 70) (by decide +kernel) wd_4_105) (
  fm (z_inv (idx := 58) rfl (by decide +kernel) wd_4_77 wd_4_79 ws_28 wd_1_7 wd_4_80 (by decide +kernel) ⟨Nat.le_of_ble_eq_true rfl, Nat.le_of_ble_eq_true rfl⟩) (
  fm (z_iret rfl (by decide +kernel)) (
  fm (z_aload_n (j := 0) (by decide +kernel) rfl) (
  fm (z_inv (idx := 130) rfl (by decide +kernel) wd_4_200 wd_4_202 ws_43 wd_1_7 wd_4_203 (by decide +kernel) ⟨Nat.le_of_ble_eq_true rfl, Nat.le_of_ble_eq_true rfl⟩) (
  fm (z_iconst (n := 0) (by decide +kernel) (by decide)) (
  fm (z_istore_n (j := 3) (by decide +kernel) rfl (by decide)) (
  fm (z_iload_n (j := 3) (by decide +kernel) rfl) (
  fm (z_bipush (n := 97) (by decide +kernel) (by decide)) (
  fm (z_icmp_ge (off := 24) (by decide +kernel) (by decide)) (
  fm (z_aload_n (j := 0) (by decide +kernel) rfl) (
  fm (z_iload_n (j := 1) (by decide +kernel) rfl) (
  fm (z_iload_n (j := 2) (by decide +kernel) rfl) (
  fm (z_inv (idx := 175) rfl (by decide +kernel) wd_5_62 wd_5_64 ws_55 wd_1_7 wd_5_65 (by decide +kernel) ⟨Nat.le_of_ble_eq_true rfl, Nat.le_of_ble_eq_true rfl⟩) (
  fm (z_if_ne (off := 15) (by decide +kernel) (by decide)) (
  fm (z_aload_n (j := 0) (by decide +kernel) rfl) (
  fm (z_inv (idx := 113) rfl (by decide +kernel) wd_4_166 wd_4_168 ws_39 wd_1_7 wd_4_169 (by decide +kernel) ⟨Nat.le_of_ble_eq_true rfl, Nat.le_of_ble_eq_true rfl⟩) (
  fm (z_istore (i := 4) (by decide +kernel) (by decide)) (
  fm (z_iinc (n := 1) (by decide +kernel) (by decide) (by decide)) (
  fm (z_goto (off := (-24)) (by decide +kernel) (by decide)) (
  fm (z_aload_n (j := 0) (by decide +kernel) rfl) (
  fm (z_inv (idx := 142) rfl (by decide +kernel) wd_4_216 wd_4_218 ws_47 wd_1_7 wd_4_219 (by decide +kernel) ⟨Nat.le_of_ble_eq_true rfl, Nat.le_of_ble_eq_true rfl⟩) (
  fm (z_iload_n (j := 3) (by decide +kernel) rfl) (
  fm (z_bipush (n := 96) (by decide +kernel) (by decide)) (
  fm (z_icmp_le (off := 12) (by decide +kernel) (by decide)) (
  fm (z_aload_n (j := 0) (by decide +kernel) rfl) (
  fm (z_ldc (i := 145) (by decide +kernel) wd_4_224) (
  fm (z_inv (idx := 58) rfl (by decide +kernel) wd_4_77 wd_4_79 ws_28 wd_1_7 wd_4_80 (by decide +kernel) ⟨Nat.le_of_ble_eq_true rfl, Nat.le_of_ble_eq_true rfl⟩) (
  fm (z_goto (off := 4) (by decide +kernel) (by decide)) (
  fm (z_iload_n (j := 3) (by decide +kernel) rfl) (
  fm (z_iret rfl (by decide +kernel)) (fn)))))))))))))))))))))))))))))))))))))))))))))
def kX5_most : Cd := [(0, s_iload 1 1), (1, s_i2l 2), (2, s_pushl 1 3), (3, s_pushl 24 6), (6, s_invS mX5_in 3 9), (9, s_if (fun x => x = 0) 12 17), (12, s_pushi (-1000001) 14), (14, s_goto 22), (17, s_aload 0 18), (18, s_iload 1 19), (19, s_inv mX5_orderWrong 5 1 22), (22, s_istore 2 23), (23, s_iload 2 24), (24, s_if (fun x => x = 0) 35 27), (27, s_aload 0 28), (28, s_iload 2 29), (29, s_inv mX5_finds 5 1 32), (32, s_goto 41), (35, s_aload 0 36), (36, s_pushi 0 37), (37, s_iload 1 38), (38, s_inv mX5_bestOrder 5 2 41), (41, s_iret)]
set_option maxRecDepth 20000 in
theorem zX5_most : ∀ q ∈ kX5_most, Snd RX5 cX5_most 3 (some .int) (rmM mX5_most) q.1 q.2 :=
  fm (z_iload_n (j := 1) (by decide +kernel) rfl) (
  fm (z_i2l (by decide +kernel)) (
  fm (z_lconst (n := 1) (by decide +kernel) (by decide)) (
  fm (z_ldc2 (i := 161) (by decide +kernel) wd_5_5) (
  fm (z_invS (idx := 43) (by decide +kernel) wd_4_72 wd_4_73 wd_1_7 wd_4_74 (by decide +kernel) ⟨Nat.le_of_ble_eq_true rfl, Nat.le_of_ble_eq_true rfl⟩) (
  fm (z_if_ne (off := 8) (by decide +kernel) (by decide)) (
  fm (z_ldc (i := 40) (by decide +kernel) wd_4_76) (
  fm (z_goto (off := 8) (by decide +kernel) (by decide)) (
  fm (z_aload_n (j := 0) (by decide +kernel) rfl) (
  fm (z_iload_n (j := 1) (by decide +kernel) rfl) (
  fm (z_inv (idx := 163) rfl (by decide +kernel) wd_5_6 wd_5_8 ws_48 wd_1_7 wd_5_9 (by decide +kernel) ⟨Nat.le_of_ble_eq_true rfl, Nat.le_of_ble_eq_true rfl⟩) (
  fm (z_istore_n (j := 2) (by decide +kernel) rfl (by decide)) (
  fm (z_iload_n (j := 2) (by decide +kernel) rfl) (
  fm (z_if_eq (off := 11) (by decide +kernel) (by decide)) (
  fm (z_aload_n (j := 0) (by decide +kernel) rfl) (
  fm (z_iload_n (j := 2) (by decide +kernel) rfl) (
  fm (z_inv (idx := 58) rfl (by decide +kernel) wd_4_77 wd_4_79 ws_28 wd_1_7 wd_4_80 (by decide +kernel) ⟨Nat.le_of_ble_eq_true rfl, Nat.le_of_ble_eq_true rfl⟩) (
  fm (z_goto (off := 9) (by decide +kernel) (by decide)) (
  fm (z_aload_n (j := 0) (by decide +kernel) rfl) (
  fm (z_iconst (n := 0) (by decide +kernel) (by decide)) (
  fm (z_iload_n (j := 1) (by decide +kernel) rfl) (
  fm (z_inv (idx := 166) rfl (by decide +kernel) wd_5_11 wd_5_13 ws_49 wd_1_7 wd_5_14 (by decide +kernel) ⟨Nat.le_of_ble_eq_true rfl, Nat.le_of_ble_eq_true rfl⟩) (
  fm (z_iret rfl (by decide +kernel)) (fn)))))))))))))))))))))))
def kX5_narrowed : Cd := [(0, s_iload 0 1), (1, s_pushi 8 3), (3, s_icmp (fun x y => x = y) 6 11), (6, s_iload 1 7), (7, s_un (fun x => x.toInt8.toInt32) 8), (8, s_goto 23), (11, s_iload 0 12), (12, s_pushi 16 14), (14, s_icmp (fun x y => x = y) 17 22), (17, s_iload 1 18), (18, s_un (fun x => x.toInt16.toInt32) 19), (19, s_goto 23), (22, s_iload 1 23), (23, s_iret)]
set_option maxRecDepth 20000 in
theorem zX5_narrowed : ∀ q ∈ kX5_narrowed, Snd RX5 cX5_narrowed 2 (some .int) (rmM mX5_narrowed) q.1 q.2 :=
  fm (z_iload_n (j := 0) (by decide +kernel) rfl) (
  fm (z_bipush (n := 8) (by decide +kernel) (by decide)) (
  fm (z_icmp_ne (off := 8) (by decide +kernel) (by decide)) (
  fm (z_iload_n (j := 1) (by decide +kernel) rfl) (
  fm (z_i2b (by decide +kernel)) (
  fm (z_goto (off := 15) (by decide +kernel) (by decide)) (
  fm (z_iload_n (j := 0) (by decide +kernel) rfl) (
  fm (z_bipush (n := 16) (by decide +kernel) (by decide)) (
  fm (z_icmp_ne (off := 8) (by decide +kernel) (by decide)) (
  fm (z_iload_n (j := 1) (by decide +kernel) rfl) (
  fm (z_i2s (by decide +kernel)) (
  fm (z_goto (off := 4) (by decide +kernel) (by decide)) (
  fm (z_iload_n (j := 1) (by decide +kernel) rfl) (
  fm (z_iret rfl (by decide +kernel)) (fn))))))))))))))
def kX5_needs : Cd := [(0, s_aload 0 1), (1, s_aload 0 2), (2, s_getf 5 12 5), (5, s_if (fun x => x = 0) 8 12), (8, s_iload 1 9), (9, s_if (fun x => x = 0) 12 16), (12, s_pushi 1 13), (13, s_goto 17), (16, s_pushi 0 17), (17, s_putf .boolean 5 12 20), (20, s_aload 0 21), (21, s_getf 5 12 24), (24, s_if (fun x => x = 0) 27 31), (27, s_aload 0 28), (28, s_inv mX5_token 5 0 31), (31, s_vret)]
set_option maxRecDepth 20000 in
theorem zX5_needs : ∀ q ∈ kX5_needs, Snd RX5 cX5_needs 2 none (rmM mX5_needs) q.1 q.2 :=
  fm (z_aload_n (j := 0) (by decide +kernel) rfl) (
  fm (z_aload_n (j := 0) (by decide +kernel) rfl) (
  fm (z_getf (idx := 218) awX5 rfl (by decide) wd_4_24 rfl (by decide +kernel)) (
  fm (z_if_ne (off := 7) (by decide +kernel) (by decide)) (
  fm (z_iload_n (j := 1) (by decide +kernel) rfl) (
  fm (z_if_ne (off := 7) (by decide +kernel) (by decide)) (
  fm (z_iconst (n := 1) (by decide +kernel) (by decide)) (
  fm (z_goto (off := 4) (by decide +kernel) (by decide)) (
  fm (z_iconst (n := 0) (by decide +kernel) (by decide)) (
  fm (z_putf (idx := 218) tyX5 tyX5_ok nmX5 awX5 rfl (by decide) wd_4_24 rfl rfl (by decide +kernel) (by decide +kernel)) (
  fm (z_aload_n (j := 0) (by decide +kernel) rfl) (
  fm (z_getf (idx := 218) awX5 rfl (by decide) wd_4_24 rfl (by decide +kernel)) (
  fm (z_if_ne (off := 7) (by decide +kernel) (by decide)) (
  fm (z_aload_n (j := 0) (by decide +kernel) rfl) (
  fm (z_inv (idx := 222) rfl (by decide +kernel) wd_5_125 wd_5_127 ws_59 wd_1_7 wd_5_128 (by decide +kernel) ⟨Nat.le_of_ble_eq_true rfl, Nat.le_of_ble_eq_true rfl⟩) (
  fm (z_vret rfl (by decide +kernel)) (fn))))))))))))))))
def kX5_never : Cd := [(0, s_aload 0 1), (1, s_iload 1 2), (2, s_iload 2 3), (3, s_inv mX5_isTwo 5 2 6), (6, s_if (fun x => x = 0) 21 9), (9, s_iload 3 10), (10, s_i2l 11), (11, s_pushl 0 12), (12, s_pushl 24 15), (15, s_invS mX5_in 3 18), (18, s_if (fun x => x = 0) 21 26), (21, s_pushi (-1000001) 23), (23, s_goto 31), (26, s_aload 0 27), (27, s_iload 3 28), (28, s_inv mX5_orderWrong 5 1 31), (31, s_istore 4 33), (33, s_iload 4 35), (35, s_if (fun x => x = 0) 45 38), (38, s_aload 0 39), (39, s_iload 4 41), (41, s_inv mX5_finds 5 1 44), (44, s_iret), (45, s_aload 0 46), (46, s_inv mX5_saves 5 0 49), (49, s_aload 0 50), (50, s_inv mX5_firstOrder 5 0 53), (53, s_pushi 0 54), (54, s_istore 5 56), (56, s_pushi 1 57), (57, s_istore 6 59), (59, s_iload 6 61), (61, s_if (fun x => x = 0) 134 64), (64, s_aload 0 65), (65, s_inv mX5_lays 5 0 68), (68, s_aload 0 69), (69, s_iload 1 70), (70, s_iload 2 71), (71, s_inv mX5_isBeside 5 2 74), (74, s_istore 7 76), (76, s_pushi 0 77), (77, s_istore 8 79), (79, s_iload 8 81), (81, s_iload 3 82), (82, s_icmp (fun x y => y ≤ x) 110 85), (85, s_iload 7 87), (87, s_if (fun x => x = 0) 90 110), (90, s_aload 0 91), (91, s_inv mX5_hour 5 0 94), (94, s_istore 9 96), (96, s_aload 0 97), (97, s_iload 1 98), (98, s_iload 2 99), (99, s_inv mX5_isBeside 5 2 102), (102, s_istore 7 104), (104, s_iinc 8 1 107), (107, s_goto 79), (110, s_iload 5 112), (112, s_iload 7 114), (114, s_if (fun x => x = 0) 121 117), (117, s_pushi 0 118), (118, s_goto 122), (121, s_pushi 1 122), (122, s_bin (fun x y => x + y) 123), (123, s_istore 5 125), (125, s_aload 0 126), (126, s_inv mX5_nextOrder 5 0 129), (129, s_istore 6 131), (131, s_goto 59), (134, s_aload 0 135), (135, s_inv mX5_putsBack 5 0 138), (138, s_iload 5 140), (140, s_iret)]
set_option maxRecDepth 20000 in
theorem zX5_never : ∀ q ∈ kX5_never, Snd RX5 cX5_never 10 (some .int) (rmM mX5_never) q.1 q.2 :=
  fm (z_aload_n (j := 0) (by decide +kernel) rfl) (
  fm (z_iload_n (j := 1) (by decide +kernel) rfl) (
  fm (z_iload_n (j := 2) (by decide +kernel) rfl) (
  fm (z_inv (idx := 181) rfl (by decide +kernel) wd_5_74 wd_5_76 ws_56 wd_1_7 wd_5_77 (by decide +kernel) ⟨Nat.le_of_ble_eq_true rfl, Nat.le_of_ble_eq_true rfl⟩) (
  fm (z_if_eq (off := 15) (by decide +kernel) (by decide)) (
  fm (z_iload_n (j := 3) (by decide +kernel) rfl) (
  fm (z_i2l (by decide +kernel)) (
  fm (z_lconst (n := 0) (by decide +kernel) (by decide)) (
  fm (z_ldc2 (i := 161) (by decide +kernel) wd_5_5) (
  fm (z_invS (idx := 43) (by decide +kernel) wd_4_72 wd_4_73 wd_1_7 wd_4_74 (by decide +kernel) ⟨Nat.le_of_ble_eq_true rfl, Nat.le_of_ble_eq_true rfl⟩) (
  fm (z_if_ne (off := 8) (by decide +kernel) (by decide)) (
  fm (z_ldc (i := 40) (by decide +kernel) wd_4_76) (
  fm (z_goto (off := 8) (by decide +kernel) (by decide)) (
  fm (z_aload_n (j := 0) (by decide +kernel) rfl) (
  fm (z_iload_n (j := 3) (by decide +kernel) rfl) (
  fm (z_inv (idx := 163) rfl (by decide +kernel) wd_5_6 wd_5_8 ws_48 wd_1_7 wd_5_9 (by decide +kernel) ⟨Nat.le_of_ble_eq_true rfl, Nat.le_of_ble_eq_true rfl⟩) (
  fm (z_istore (i := 4) (by decide +kernel) (by decide)) (
  fm (z_iload (i := 4) (by decide +kernel)) (
  fm (z_if_eq (off := 10) (by decide +kernel) (by decide)) (
  fm (z_aload_n (j := 0) (by decide +kernel) rfl) (
  fm (z_iload (i := 4) (by decide +kernel)) (
  fm (z_inv (idx := 58) rfl (by decide +kernel) wd_4_77 wd_4_79 ws_28 wd_1_7 wd_4_80 (by decide +kernel) ⟨Nat.le_of_ble_eq_true rfl, Nat.le_of_ble_eq_true rfl⟩) (
  fm (z_iret rfl (by decide +kernel)) (
  fm (z_aload_n (j := 0) (by decide +kernel) rfl) (
  fm (z_inv (idx := 130) rfl (by decide +kernel) wd_4_200 wd_4_202 ws_43 wd_1_7 wd_4_203 (by decide +kernel) ⟨Nat.le_of_ble_eq_true rfl, Nat.le_of_ble_eq_true rfl⟩) (
  fm (z_aload_n (j := 0) (by decide +kernel) rfl) (
  fm (z_inv (idx := 147) rfl (by decide +kernel) wd_5_15 wd_5_17 ws_50 wd_1_7 wd_5_18 (by decide +kernel) ⟨Nat.le_of_ble_eq_true rfl, Nat.le_of_ble_eq_true rfl⟩) (
  fm (z_iconst (n := 0) (by decide +kernel) (by decide)) (
  fm (z_istore (i := 5) (by decide +kernel) (by decide)) (
  fm (z_iconst (n := 1) (by decide +kernel) (by decide)) (
  fm (z_istore (i := 6) (by decide +kernel) (by decide)) (
  fm (z_iload (i := 6) (by decide +kernel)) (
  fm (z_if_eq (off := 73) (by decide +kernel) (by decide)) (
  fm (z_aload_n (j := 0) (by decide +kernel) rfl) (
  fm (z_inv (idx := 150) rfl (by decide +kernel) wd_5_19 wd_5_21 ws_51 wd_1_7 wd_5_22 (by decide +kernel) ⟨Nat.le_of_ble_eq_true rfl, Nat.le_of_ble_eq_true rfl⟩) (
  fm (z_aload_n (j := 0) (by decide +kernel) rfl) (
  fm (z_iload_n (j := 1) (by decide +kernel) rfl) (
  fm (z_iload_n (j := 2) (by decide +kernel) rfl) (
  fm (z_inv (idx := 175) rfl (by decide +kernel) wd_5_62 wd_5_64 ws_55 wd_1_7 wd_5_65 (by decide +kernel) ⟨Nat.le_of_ble_eq_true rfl, Nat.le_of_ble_eq_true rfl⟩) (
  fm (z_istore (i := 7) (by decide +kernel) (by decide)) (
  fm (z_iconst (n := 0) (by decide +kernel) (by decide)) (
  fm (z_istore (i := 8) (by decide +kernel) (by decide)) (
  fm (z_iload (i := 8) (by decide +kernel)) (
  fm (z_iload_n (j := 3) (by decide +kernel) rfl) (
  fm (z_icmp_ge (off := 28) (by decide +kernel) (by decide)) (
  fm (z_iload (i := 7) (by decide +kernel)) (
  fm (z_if_ne (off := 23) (by decide +kernel) (by decide)) (
  fm (z_aload_n (j := 0) (by decide +kernel) rfl) (
  fm (z_inv (idx := 113) rfl (by decide +kernel) wd_4_166 wd_4_168 ws_39 wd_1_7 wd_4_169 (by decide +kernel) ⟨Nat.le_of_ble_eq_true rfl, Nat.le_of_ble_eq_true rfl⟩) (
  fm (z_istore (i := 9) (by decide +kernel) (by decide)) (
  fm (z_aload_n (j := 0) (by decide +kernel) rfl) (
  fm (z_iload_n (j := 1) (by decide +kernel) rfl) (
  fm (z_iload_n (j := 2) (by decide +kernel) rfl) (
  fm (z_inv (idx := 175) rfl (by decide +kernel) wd_5_62 wd_5_64 ws_55 wd_1_7 wd_5_65 (by decide +kernel) ⟨Nat.le_of_ble_eq_true rfl, Nat.le_of_ble_eq_true rfl⟩) (
  fm (z_istore (i := 7) (by decide +kernel) (by decide)) (
  fm (z_iinc (n := 1) (by decide +kernel) (by decide) (by decide)) (
  fm (z_goto (off := (-28)) (by decide +kernel) (by decide)) (
  fm (z_iload (i := 5) (by decide +kernel)) (
  fm (z_iload (i := 7) (by decide +kernel)) (
  fm (z_if_eq (off := 7) (by decide +kernel) (by decide)) (
  fm (z_iconst (n := 0) (by decide +kernel) (by decide)) (
  fm (z_goto (off := 4) (by decide +kernel) (by decide)) (
  fm (z_iconst (n := 1) (by decide +kernel) (by decide)) (
  fm (z_iadd (by decide +kernel)) (
  fm (z_istore (i := 5) (by decide +kernel) (by decide)) (
  fm (z_aload_n (j := 0) (by decide +kernel) rfl) (
  fm (z_inv (idx := 157) rfl (by decide +kernel) wd_5_23 wd_5_25 ws_52 wd_1_7 wd_5_26 (by decide +kernel) ⟨Nat.le_of_ble_eq_true rfl, Nat.le_of_ble_eq_true rfl⟩) (
  fm (z_istore (i := 6) (by decide +kernel) (by decide)) (
  fm (z_goto (off := (-72)) (by decide +kernel) (by decide)) (
  fm (z_aload_n (j := 0) (by decide +kernel) rfl) (
  fm (z_inv (idx := 142) rfl (by decide +kernel) wd_4_216 wd_4_218 ws_47 wd_1_7 wd_4_219 (by decide +kernel) ⟨Nat.le_of_ble_eq_true rfl, Nat.le_of_ble_eq_true rfl⟩) (
  fm (z_iload (i := 5) (by decide +kernel)) (
  fm (z_iret rfl (by decide +kernel)) (fn)))))))))))))))))))))))))))))))))))))))))))))))))))))))))))))))))))))))))
def kX5_newStall : Cd := [(0, s_aload 0 1), (1, s_getf 5 0 4), (4, s_pushi 1 5), (5, s_iald 6), (6, s_istore 4 8), (8, s_aload 0 9), (9, s_getf 5 0 12), (12, s_iload 4 14), (14, s_pushi 0 15), (15, s_invS mX5_at 2 18), (18, s_iload 1 19), (19, s_iast 20), (20, s_aload 0 21), (21, s_getf 5 0 24), (24, s_iload 4 26), (26, s_pushi 1 27), (27, s_invS mX5_at 2 30), (30, s_iload 2 31), (31, s_iast 32), (32, s_aload 0 33), (33, s_getf 5 0 36), (36, s_iload 4 38), (38, s_pushi 2 39), (39, s_invS mX5_at 2 42), (42, s_iload 3 43), (43, s_iast 44), (44, s_aload 0 45), (45, s_getf 5 0 48), (48, s_iload 4 50), (50, s_pushi 3 51), (51, s_invS mX5_at 2 54), (54, s_pushi 0 55), (55, s_iast 56), (56, s_aload 0 57), (57, s_getf 5 0 60), (60, s_iload 4 62), (62, s_pushi 4 63), (63, s_invS mX5_at 2 66), (66, s_pushi 0 67), (67, s_iast 68), (68, s_aload 0 69), (69, s_getf 5 0 72), (72, s_pushi 1 73), (73, s_dup2 74), (74, s_iald 75), (75, s_pushi 1 76), (76, s_bin (fun x y => x + y) 77), (77, s_iast 78), (78, s_iload 4 80), (80, s_iret)]
set_option maxRecDepth 20000 in
theorem zX5_newStall : ∀ q ∈ kX5_newStall, Snd RX5 cX5_newStall 5 (some .int) (rmM mX5_newStall) q.1 q.2 :=
  fm (z_aload_n (j := 0) (by decide +kernel) rfl) (
  fm (z_getf (idx := 7) awX5 rfl (by decide) wd_4_12 rfl (by decide +kernel)) (
  fm (z_iconst (n := 1) (by decide +kernel) (by decide)) (
  fm (z_iald (by decide +kernel)) (
  fm (z_istore (i := 4) (by decide +kernel) (by decide)) (
  fm (z_aload_n (j := 0) (by decide +kernel) rfl) (
  fm (z_getf (idx := 7) awX5 rfl (by decide) wd_4_12 rfl (by decide +kernel)) (
  fm (z_iload (i := 4) (by decide +kernel)) (
  fm (z_iconst (n := 0) (by decide +kernel) (by decide)) (
  fm (z_invS (idx := 48) (by decide +kernel) wd_4_102 wd_4_103 wd_1_7 wd_4_104 (by decide +kernel) ⟨Nat.le_of_ble_eq_true rfl, Nat.le_of_ble_eq_true rfl⟩) (
  fm (z_iload_n (j := 1) (by decide +kernel) rfl) (
  fm (z_iast (by decide +kernel)) (
  fm (z_aload_n (j := 0) (by decide +kernel) rfl) (
  fm (z_getf (idx := 7) awX5 rfl (by decide) wd_4_12 rfl (by decide +kernel)) (
  fm (z_iload (i := 4) (by decide +kernel)) (
  fm (z_iconst (n := 1) (by decide +kernel) (by decide)) (
  fm (z_invS (idx := 48) (by decide +kernel) wd_4_102 wd_4_103 wd_1_7 wd_4_104 (by decide +kernel) ⟨Nat.le_of_ble_eq_true rfl, Nat.le_of_ble_eq_true rfl⟩) (
  fm (z_iload_n (j := 2) (by decide +kernel) rfl) (
  fm (z_iast (by decide +kernel)) (
  fm (z_aload_n (j := 0) (by decide +kernel) rfl) (
  fm (z_getf (idx := 7) awX5 rfl (by decide) wd_4_12 rfl (by decide +kernel)) (
  fm (z_iload (i := 4) (by decide +kernel)) (
  fm (z_iconst (n := 2) (by decide +kernel) (by decide)) (
  fm (z_invS (idx := 48) (by decide +kernel) wd_4_102 wd_4_103 wd_1_7 wd_4_104 (by decide +kernel) ⟨Nat.le_of_ble_eq_true rfl, Nat.le_of_ble_eq_true rfl⟩) (
  fm (z_iload_n (j := 3) (by decide +kernel) rfl) (
  fm (z_iast (by decide +kernel)) (
  fm (z_aload_n (j := 0) (by decide +kernel) rfl) (
  fm (z_getf (idx := 7) awX5 rfl (by decide) wd_4_12 rfl (by decide +kernel)) (
  fm (z_iload (i := 4) (by decide +kernel)) (
  fm (z_iconst (n := 3) (by decide +kernel) (by decide)) (
  fm (z_invS (idx := 48) (by decide +kernel) wd_4_102 wd_4_103 wd_1_7 wd_4_104 (by decide +kernel) ⟨Nat.le_of_ble_eq_true rfl, Nat.le_of_ble_eq_true rfl⟩) (
  fm (z_iconst (n := 0) (by decide +kernel) (by decide)) (
  fm (z_iast (by decide +kernel)) (
  fm (z_aload_n (j := 0) (by decide +kernel) rfl) (
  fm (z_getf (idx := 7) awX5 rfl (by decide) wd_4_12 rfl (by decide +kernel)) (
  fm (z_iload (i := 4) (by decide +kernel)) (
  fm (z_iconst (n := 4) (by decide +kernel) (by decide)) (
  fm (z_invS (idx := 48) (by decide +kernel) wd_4_102 wd_4_103 wd_1_7 wd_4_104 (by decide +kernel) ⟨Nat.le_of_ble_eq_true rfl, Nat.le_of_ble_eq_true rfl⟩) (
  fm (z_iconst (n := 0) (by decide +kernel) (by decide)) (
  fm (z_iast (by decide +kernel)) (
  fm (z_aload_n (j := 0) (by decide +kernel) rfl) (
  fm (z_getf (idx := 7) awX5 rfl (by decide) wd_4_12 rfl (by decide +kernel)) (
  fm (z_iconst (n := 1) (by decide +kernel) (by decide)) (
  fm (z_dup2 (by decide +kernel)) (
  fm (z_iald (by decide +kernel)) (
  fm (z_iconst (n := 1) (by decide +kernel) (by decide)) (
  fm (z_iadd (by decide +kernel)) (
  fm (z_iast (by decide +kernel)) (
  fm (z_iload (i := 4) (by decide +kernel)) (
  fm (z_iret rfl (by decide +kernel)) (fn))))))))))))))))))))))))))))))))))))))))))))))))))
def kX5_nextOrder : Cd := [(0, s_aload 0 1), (1, s_getf 5 0 4), (4, s_pushi 1 5), (5, s_iald 6), (6, s_istore 1 7), (7, s_iload 1 8), (8, s_pushi 2 9), (9, s_bin (fun x y => x - y) 10), (10, s_istore 2 11), (11, s_iload 2 12), (12, s_if (fun x => x < 0) 38 15), (15, s_aload 0 16), (16, s_getf 5 5 19), (19, s_iload 2 20), (20, s_iald 21), (21, s_aload 0 22), (22, s_getf 5 5 25), (25, s_iload 2 26), (26, s_pushi 1 27), (27, s_bin (fun x y => x + y) 28), (28, s_iald 29), (29, s_icmp (fun x y => x ≤ y) 38 32), (32, s_iinc 2 (-1) 35), (35, s_goto 11), (38, s_iload 2 39), (39, s_if (fun x => 0 ≤ x) 44 42), (42, s_pushi 0 43), (43, s_zret), (44, s_iload 1 45), (45, s_pushi 1 46), (46, s_bin (fun x y => x - y) 47), (47, s_istore 3 48), (48, s_aload 0 49), (49, s_getf 5 5 52), (52, s_iload 3 53), (53, s_iald 54), (54, s_aload 0 55), (55, s_getf 5 5 58), (58, s_iload 2 59), (59, s_iald 60), (60, s_icmp (fun x y => y ≤ x) 69 63), (63, s_iinc 3 (-1) 66), (66, s_goto 48), (69, s_aload 0 70), (70, s_getf 5 5 73), (73, s_iload 2 74), (74, s_iald 75), (75, s_istore 4 77), (77, s_aload 0 78), (78, s_getf 5 5 81), (81, s_iload 2 82), (82, s_aload 0 83), (83, s_getf 5 5 86), (86, s_iload 3 87), (87, s_iald 88), (88, s_iast 89), (89, s_aload 0 90), (90, s_getf 5 5 93), (93, s_iload 3 94), (94, s_iload 4 96), (96, s_iast 97), (97, s_pushi 1 98), (98, s_istore 5 100), (100, s_iload 2 101), (101, s_iload 5 103), (103, s_bin (fun x y => x + y) 104), (104, s_iload 1 105), (105, s_iload 5 107), (107, s_bin (fun x y => x - y) 108), (108, s_icmp (fun x y => y ≤ x) 157 111), (111, s_aload 0 112), (112, s_getf 5 5 115), (115, s_iload 2 116), (116, s_iload 5 118), (118, s_bin (fun x y => x + y) 119), (119, s_iald 120), (120, s_istore 4 122), (122, s_aload 0 123), (123, s_getf 5 5 126), (126, s_iload 2 127), (127, s_iload 5 129), (129, s_bin (fun x y => x + y) 130), (130, s_aload 0 131), (131, s_getf 5 5 134), (134, s_iload 1 135), (135, s_iload 5 137), (137, s_bin (fun x y => x - y) 138), (138, s_iald 139), (139, s_iast 140), (140, s_aload 0 141), (141, s_getf 5 5 144), (144, s_iload 1 145), (145, s_iload 5 147), (147, s_bin (fun x y => x - y) 148), (148, s_iload 4 150), (150, s_iast 151), (151, s_iinc 5 1 154), (154, s_goto 100), (157, s_pushi 1 158), (158, s_zret)]
set_option maxRecDepth 20000 in
theorem zX5_nextOrder : ∀ q ∈ kX5_nextOrder, Snd RX5 cX5_nextOrder 6 (some .boolean) (rmM mX5_nextOrder) q.1 q.2 :=
  fm (z_aload_n (j := 0) (by decide +kernel) rfl) (
  fm (z_getf (idx := 7) awX5 rfl (by decide) wd_4_12 rfl (by decide +kernel)) (
  fm (z_iconst (n := 1) (by decide +kernel) (by decide)) (
  fm (z_iald (by decide +kernel)) (
  fm (z_istore_n (j := 1) (by decide +kernel) rfl (by decide)) (
  fm (z_iload_n (j := 1) (by decide +kernel) rfl) (
  fm (z_iconst (n := 2) (by decide +kernel) (by decide)) (
  fm (z_isub (by decide +kernel)) (
  fm (z_istore_n (j := 2) (by decide +kernel) rfl (by decide)) (
  fm (z_iload_n (j := 2) (by decide +kernel) rfl) (
  fm (z_if_lt (off := 26) (by decide +kernel) (by decide)) (
  fm (z_aload_n (j := 0) (by decide +kernel) rfl) (
  fm (z_getf (idx := 22) awX5 rfl (by decide) wd_4_17 rfl (by decide +kernel)) (
  fm (z_iload_n (j := 2) (by decide +kernel) rfl) (
  fm (z_iald (by decide +kernel)) (
  fm (z_aload_n (j := 0) (by decide +kernel) rfl) (
  fm (z_getf (idx := 22) awX5 rfl (by decide) wd_4_17 rfl (by decide +kernel)) (
  fm (z_iload_n (j := 2) (by decide +kernel) rfl) (
  fm (z_iconst (n := 1) (by decide +kernel) (by decide)) (
  fm (z_iadd (by decide +kernel)) (
  fm (z_iald (by decide +kernel)) (
  fm (z_icmp_le (off := 9) (by decide +kernel) (by decide)) (
  fm (z_iinc (n := (-1)) (by decide +kernel) (by decide) (by decide)) (
  fm (z_goto (off := (-24)) (by decide +kernel) (by decide)) (
  fm (z_iload_n (j := 2) (by decide +kernel) rfl) (
  fm (z_if_ge (off := 5) (by decide +kernel) (by decide)) (
  fm (z_iconst (n := 0) (by decide +kernel) (by decide)) (
  fm (z_zret rfl (by decide +kernel)) (
  fm (z_iload_n (j := 1) (by decide +kernel) rfl) (
  fm (z_iconst (n := 1) (by decide +kernel) (by decide)) (
  fm (z_isub (by decide +kernel)) (
  fm (z_istore_n (j := 3) (by decide +kernel) rfl (by decide)) (
  fm (z_aload_n (j := 0) (by decide +kernel) rfl) (
  fm (z_getf (idx := 22) awX5 rfl (by decide) wd_4_17 rfl (by decide +kernel)) (
  fm (z_iload_n (j := 3) (by decide +kernel) rfl) (
  fm (z_iald (by decide +kernel)) (
  fm (z_aload_n (j := 0) (by decide +kernel) rfl) (
  fm (z_getf (idx := 22) awX5 rfl (by decide) wd_4_17 rfl (by decide +kernel)) (
  fm (z_iload_n (j := 2) (by decide +kernel) rfl) (
  fm (z_iald (by decide +kernel)) (
  fm (z_icmp_ge (off := 9) (by decide +kernel) (by decide)) (
  fm (z_iinc (n := (-1)) (by decide +kernel) (by decide) (by decide)) (
  fm (z_goto (off := (-18)) (by decide +kernel) (by decide)) (
  fm (z_aload_n (j := 0) (by decide +kernel) rfl) (
  fm (z_getf (idx := 22) awX5 rfl (by decide) wd_4_17 rfl (by decide +kernel)) (
  fm (z_iload_n (j := 2) (by decide +kernel) rfl) (
  fm (z_iald (by decide +kernel)) (
  fm (z_istore (i := 4) (by decide +kernel) (by decide)) (
  fm (z_aload_n (j := 0) (by decide +kernel) rfl) (
  fm (z_getf (idx := 22) awX5 rfl (by decide) wd_4_17 rfl (by decide +kernel)) (
  fm (z_iload_n (j := 2) (by decide +kernel) rfl) (
  fm (z_aload_n (j := 0) (by decide +kernel) rfl) (
  fm (z_getf (idx := 22) awX5 rfl (by decide) wd_4_17 rfl (by decide +kernel)) (
  fm (z_iload_n (j := 3) (by decide +kernel) rfl) (
  fm (z_iald (by decide +kernel)) (
  fm (z_iast (by decide +kernel)) (
  fm (z_aload_n (j := 0) (by decide +kernel) rfl) (
  fm (z_getf (idx := 22) awX5 rfl (by decide) wd_4_17 rfl (by decide +kernel)) (
  fm (z_iload_n (j := 3) (by decide +kernel) rfl) (
  fm (z_iload (i := 4) (by decide +kernel)) (
  fm (z_iast (by decide +kernel)) (
  fm (z_iconst (n := 1) (by decide +kernel) (by decide)) (
  fm (z_istore (i := 5) (by decide +kernel) (by decide)) (
  fm (z_iload_n (j := 2) (by decide +kernel) rfl) (
  fm (z_iload (i := 5) (by decide +kernel)) (
  fm (z_iadd (by decide +kernel)) (
  fm (z_iload_n (j := 1) (by decide +kernel) rfl) (
  fm (z_iload (i := 5) (by decide +kernel)) (
  fm (z_isub (by decide +kernel)) (
  fm (z_icmp_ge (off := 49) (by decide +kernel) (by decide)) (
  fm (z_aload_n (j := 0) (by decide +kernel) rfl) (
  fm (z_getf (idx := 22) awX5 rfl (by decide) wd_4_17 rfl (by decide +kernel)) (
  fm (z_iload_n (j := 2) (by decide +kernel) rfl) (
  fm (z_iload (i := 5) (by decide +kernel)) (
  fm (z_iadd (by decide +kernel)) (
  fm (z_iald (by decide +kernel)) (
  fm (z_istore (i := 4) (by decide +kernel) (by decide)) (
  fm (z_aload_n (j := 0) (by decide +kernel) rfl) (
  fm (z_getf (idx := 22) awX5 rfl (by decide) wd_4_17 rfl (by decide +kernel)) (
  fm (z_iload_n (j := 2) (by decide +kernel) rfl) (
  fm (z_iload (i := 5) (by decide +kernel)) (
  fm (z_iadd (by decide +kernel)) (
  fm (z_aload_n (j := 0) (by decide +kernel) rfl) (
  fm (z_getf (idx := 22) awX5 rfl (by decide) wd_4_17 rfl (by decide +kernel)) (
  fm (z_iload_n (j := 1) (by decide +kernel) rfl) (
  fm (z_iload (i := 5) (by decide +kernel)) (
  fm (z_isub (by decide +kernel)) (
  fm (z_iald (by decide +kernel)) (
  fm (z_iast (by decide +kernel)) (
  fm (z_aload_n (j := 0) (by decide +kernel) rfl) (
  fm (z_getf (idx := 22) awX5 rfl (by decide) wd_4_17 rfl (by decide +kernel)) (
  fm (z_iload_n (j := 1) (by decide +kernel) rfl) (
  fm (z_iload (i := 5) (by decide +kernel)) (
  fm (z_isub (by decide +kernel)) (
  fm (z_iload (i := 4) (by decide +kernel)) (
  fm (z_iast (by decide +kernel)) (
  fm (z_iinc (n := 1) (by decide +kernel) (by decide) (by decide)) (
  fm (z_goto (off := (-54)) (by decide +kernel) (by decide)) (
  fm (z_iconst (n := 1) (by decide +kernel) (by decide)) (
  fm (z_zret rfl (by decide +kernel)) (fn))))))))))))))))))))))))))))))))))))))))))))))))))))))))))))))))))))))))))))))))))))))))))))))))))))
def kX5_number : Cd := [(0, s_aload 0 1), (1, s_getf 5 12 4), (4, s_if (fun x => x = 0) 8 7), (7, s_vret), (8, s_aload 0 9), (9, s_aload 0 10), (10, s_getf 5 9 13), (13, s_inv mX5_byteAt 5 1 16), (16, s_invS mX5_isDigit 1 19), (19, s_istore 3 20), (20, s_pushi 0 21), (21, s_istore 4 23), (23, s_aload 0 24), (24, s_getf 5 9 27), (27, s_istore 5 29), (29, s_iload 5 31), (31, s_aload 0 32), (32, s_getf 5 10 35), (35, s_icmp (fun x y => y ≤ x) 79 38), (38, s_iload 3 39), (39, s_if (fun x => x = 0) 79 42), (42, s_iload 4 44), (44, s_pushi 999 47), (47, s_icmp (fun x y => x ≤ y) 55 50), (50, s_iload 4 52), (52, s_goto 71), (55, s_pushi 10 57), (57, s_iload 4 59), (59, s_bin (fun x y => x * y) 60), (60, s_aload 0 61), (61, s_getf 5 7 64), (64, s_iload 5 66), (66, s_iald 67), (67, s_bin (fun x y => x + y) 68), (68, s_pushi 48 70), (70, s_bin (fun x y => x - y) 71), (71, s_istore 4 73), (73, s_iinc 5 1 76), (76, s_goto 29), (79, s_aload 0 80), (80, s_iload 4 82), (82, s_putf .int 5 11 85), (85, s_aload 0 86), (86, s_iload 3 87), (87, s_if (fun x => x = 0) 107 90), (90, s_iload 4 92), (92, s_i2l 93), (93, s_iload 1 94), (94, s_i2l 95), (95, s_iload 2 96), (96, s_i2l 97), (97, s_invS mX5_in 3 100), (100, s_if (fun x => x = 0) 107 103), (103, s_pushi 1 104), (104, s_goto 108), (107, s_pushi 0 108), (108, s_inv mX5_needs 5 1 111), (111, s_vret)]
set_option maxRecDepth 20000 in
theorem zX5_number : ∀ q ∈ kX5_number, Snd RX5 cX5_number 6 none (rmM mX5_number) q.1 q.2 :=
  fm (z_aload_n (j := 0) (by decide +kernel) rfl) (
  fm (z_getf (idx := 218) awX5 rfl (by decide) wd_4_24 rfl (by decide +kernel)) (
  fm (z_if_eq (off := 4) (by decide +kernel) (by decide)) (
  fm (z_vret rfl (by decide +kernel)) (
  fm (z_aload_n (j := 0) (by decide +kernel) rfl) (
  fm (z_aload_n (j := 0) (by decide +kernel) rfl) (
  fm (z_getf (idx := 206) awX5 rfl (by decide) wd_4_21 rfl (by decide +kernel)) (
  fm (z_inv (idx := 209) rfl (by decide +kernel) wd_5_129 wd_5_131 ws_60 wd_1_7 wd_5_132 (by decide +kernel) ⟨Nat.le_of_ble_eq_true rfl, Nat.le_of_ble_eq_true rfl⟩) (
  fm (z_invS (idx := 215) (by decide +kernel) wd_5_138 wd_5_139 wd_1_7 wd_5_140 (by decide +kernel) ⟨Nat.le_of_ble_eq_true rfl, Nat.le_of_ble_eq_true rfl⟩) (
  fm (z_istore_n (j := 3) (by decide +kernel) rfl (by decide)) (
  fm (z_iconst (n := 0) (by decide +kernel) (by decide)) (
  fm (z_istore (i := 4) (by decide +kernel) (by decide)) (
  fm (z_aload_n (j := 0) (by decide +kernel) rfl) (
  fm (z_getf (idx := 206) awX5 rfl (by decide) wd_4_21 rfl (by decide +kernel)) (
  fm (z_istore (i := 5) (by decide +kernel) (by decide)) (
  fm (z_iload (i := 5) (by decide +kernel)) (
  fm (z_aload_n (j := 0) (by decide +kernel) rfl) (
  fm (z_getf (idx := 203) awX5 rfl (by decide) wd_4_22 rfl (by decide +kernel)) (
  fm (z_icmp_ge (off := 44) (by decide +kernel) (by decide)) (
  fm (z_iload_n (j := 3) (by decide +kernel) rfl) (
  fm (z_if_eq (off := 40) (by decide +kernel) (by decide)) (
  fm (z_iload (i := 4) (by decide +kernel)) (
  fm (z_sipush (n := 999) (by decide +kernel) (by decide)) (
  fm (z_icmp_le (off := 8) (by decide +kernel) (by decide)) (
  fm (z_iload (i := 4) (by decide +kernel)) (
  fm (z_goto (off := 19) (by decide +kernel) (by decide)) (
  fm (z_bipush (n := 10) (by decide +kernel) (by decide)) (
  fm (z_iload (i := 4) (by decide +kernel)) (
  fm (z_imul (by decide +kernel)) (
  fm (z_aload_n (j := 0) (by decide +kernel) rfl) (
  fm (z_getf (idx := 25) awX5 rfl (by decide) wd_4_19 rfl (by decide +kernel)) (
  fm (z_iload (i := 5) (by decide +kernel)) (
  fm (z_iald (by decide +kernel)) (
  fm (z_iadd (by decide +kernel)) (
  fm (z_bipush (n := 48) (by decide +kernel) (by decide)) (
  fm (z_isub (by decide +kernel)) (
  fm (z_istore (i := 4) (by decide +kernel) (by decide)) (
  fm (z_iinc (n := 1) (by decide +kernel) (by decide) (by decide)) (
  fm (z_goto (off := (-47)) (by decide +kernel) (by decide)) (
  fm (z_aload_n (j := 0) (by decide +kernel) rfl) (
  fm (z_iload (i := 4) (by decide +kernel)) (
  fm (z_putf (idx := 229) tyX5 tyX5_ok nmX5 awX5 rfl (by decide) wd_4_23 rfl rfl (by decide +kernel) (by decide +kernel)) (
  fm (z_aload_n (j := 0) (by decide +kernel) rfl) (
  fm (z_iload_n (j := 3) (by decide +kernel) rfl) (
  fm (z_if_eq (off := 20) (by decide +kernel) (by decide)) (
  fm (z_iload (i := 4) (by decide +kernel)) (
  fm (z_i2l (by decide +kernel)) (
  fm (z_iload_n (j := 1) (by decide +kernel) rfl) (
  fm (z_i2l (by decide +kernel)) (
  fm (z_iload_n (j := 2) (by decide +kernel) rfl) (
  fm (z_i2l (by decide +kernel)) (
  fm (z_invS (idx := 43) (by decide +kernel) wd_4_72 wd_4_73 wd_1_7 wd_4_74 (by decide +kernel) ⟨Nat.le_of_ble_eq_true rfl, Nat.le_of_ble_eq_true rfl⟩) (
  fm (z_if_eq (off := 7) (by decide +kernel) (by decide)) (
  fm (z_iconst (n := 1) (by decide +kernel) (by decide)) (
  fm (z_goto (off := 4) (by decide +kernel) (by decide)) (
  fm (z_iconst (n := 0) (by decide +kernel) (by decide)) (
  fm (z_inv (idx := 232) rfl (by decide +kernel) wd_5_168 wd_5_170 ws_65 wd_1_7 wd_5_171 (by decide +kernel) ⟨Nat.le_of_ble_eq_true rfl, Nat.le_of_ble_eq_true rfl⟩) (
  fm (z_vret rfl (by decide +kernel)) (fn))))))))))))))))))))))))))))))))))))))))))))))))))))))))))
def kX5_of : Cd := [(0, s_aload 0 1), (1, s_iload 1 2), (2, s_inv mX5_isStall 5 1 5), (5, s_if (fun x => x = 0) 20 8), (8, s_iload 2 9), (9, s_i2l 10), (10, s_pushl 0 11), (11, s_pushl 6 14), (14, s_invS mX5_in 3 17), (17, s_if (fun x => x = 0) 20 27), (20, s_aload 0 21), (21, s_pushi (-1000001) 23), (23, s_inv mX5_finds 5 1 26), (26, s_iret), (27, s_iload 2 28), (28, s_pushi 5 29), (29, s_icmp (fun x y => y ≤ x) 41 32), (32, s_aload 0 33), (33, s_iload 1 34), (34, s_iload 2 35), (35, s_inv mX5_its 5 2 38), (38, s_goto 67), (41, s_iload 2 42), (42, s_pushi 5 43), (43, s_icmp (fun x y => x = y) 46 54), (46, s_aload 0 47), (47, s_iload 1 48), (48, s_inv mX5_price 5 1 51), (51, s_goto 67), (54, s_aload 0 55), (55, s_iload 1 56), (56, s_inv mX5_isGoing 5 1 59), (59, s_if (fun x => x = 0) 66 62), (62, s_pushi 1 63), (63, s_goto 67), (66, s_pushi 0 67), (67, s_iret)]
set_option maxRecDepth 20000 in
theorem zX5_of : ∀ q ∈ kX5_of, Snd RX5 cX5_of 3 (some .int) (rmM mX5_of) q.1 q.2 :=
  fm (z_aload_n (j := 0) (by decide +kernel) rfl) (
  fm (z_iload_n (j := 1) (by decide +kernel) rfl) (
  fm (z_inv (idx := 76) rfl (by decide +kernel) wd_4_115 wd_4_117 ws_32 wd_1_7 wd_4_118 (by decide +kernel) ⟨Nat.le_of_ble_eq_true rfl, Nat.le_of_ble_eq_true rfl⟩) (
  fm (z_if_eq (off := 15) (by decide +kernel) (by decide)) (
  fm (z_iload_n (j := 2) (by decide +kernel) rfl) (
  fm (z_i2l (by decide +kernel)) (
  fm (z_lconst (n := 0) (by decide +kernel) (by decide)) (
  fm (z_ldc2 (i := 65) (by decide +kernel) wd_4_93) (
  fm (z_invS (idx := 43) (by decide +kernel) wd_4_72 wd_4_73 wd_1_7 wd_4_74 (by decide +kernel) ⟨Nat.le_of_ble_eq_true rfl, Nat.le_of_ble_eq_true rfl⟩) (
  fm (z_if_ne (off := 10) (by decide +kernel) (by decide)) (
  fm (z_aload_n (j := 0) (by decide +kernel) rfl) (
  fm (z_ldc (i := 40) (by decide +kernel) wd_4_76) (
  fm (z_inv (idx := 58) rfl (by decide +kernel) wd_4_77 wd_4_79 ws_28 wd_1_7 wd_4_80 (by decide +kernel) ⟨Nat.le_of_ble_eq_true rfl, Nat.le_of_ble_eq_true rfl⟩) (
  fm (z_iret rfl (by decide +kernel)) (
  fm (z_iload_n (j := 2) (by decide +kernel) rfl) (
  fm (z_iconst (n := 5) (by decide +kernel) (by decide)) (
  fm (z_icmp_ge (off := 12) (by decide +kernel) (by decide)) (
  fm (z_aload_n (j := 0) (by decide +kernel) rfl) (
  fm (z_iload_n (j := 1) (by decide +kernel) rfl) (
  fm (z_iload_n (j := 2) (by decide +kernel) rfl) (
  fm (z_inv (idx := 62) rfl (by decide +kernel) wd_4_98 wd_4_100 ws_30 wd_1_7 wd_4_101 (by decide +kernel) ⟨Nat.le_of_ble_eq_true rfl, Nat.le_of_ble_eq_true rfl⟩) (
  fm (z_goto (off := 29) (by decide +kernel) (by decide)) (
  fm (z_iload_n (j := 2) (by decide +kernel) rfl) (
  fm (z_iconst (n := 5) (by decide +kernel) (by decide)) (
  fm (z_icmp_ne (off := 11) (by decide +kernel) (by decide)) (
  fm (z_aload_n (j := 0) (by decide +kernel) rfl) (
  fm (z_iload_n (j := 1) (by decide +kernel) rfl) (
  fm (z_inv (idx := 79) rfl (by decide +kernel) wd_4_119 wd_4_121 ws_33 wd_1_7 wd_4_122 (by decide +kernel) ⟨Nat.le_of_ble_eq_true rfl, Nat.le_of_ble_eq_true rfl⟩) (
  fm (z_goto (off := 16) (by decide +kernel) (by decide)) (
  fm (z_aload_n (j := 0) (by decide +kernel) rfl) (
  fm (z_iload_n (j := 1) (by decide +kernel) rfl) (
  fm (z_inv (idx := 82) rfl (by decide +kernel) wd_4_123 wd_4_125 ws_34 wd_1_7 wd_4_126 (by decide +kernel) ⟨Nat.le_of_ble_eq_true rfl, Nat.le_of_ble_eq_true rfl⟩) (
  fm (z_if_eq (off := 7) (by decide +kernel) (by decide)) (
  fm (z_iconst (n := 1) (by decide +kernel) (by decide)) (
  fm (z_goto (off := 4) (by decide +kernel) (by decide)) (
  fm (z_iconst (n := 0) (by decide +kernel) (by decide)) (
  fm (z_iret rfl (by decide +kernel)) (fn)))))))))))))))))))))))))))))))))))))
def kX5_offer : Cd := [(0, s_aload 0 1), (1, s_getf 5 0 4), (4, s_pushi 4 5), (5, s_iload 2 6), (6, s_bin (fun x y => x + y) 7), (7, s_iald 8), (8, s_istore 3 9), (9, s_iload 3 10), (10, s_aload 0 11), (11, s_getf 5 0 14), (14, s_pushi 4 15), (15, s_iload 2 16), (16, s_pushi 1 17), (17, s_bin (fun x y => x + y) 18), (18, s_pushi 12 20), (20, s_rem 21), (21, s_bin (fun x y => x + y) 22), (22, s_iald 23), (23, s_bin (fun x y => x + y) 24), (24, s_istore 4 26), (26, s_aload 0 27), (27, s_iload 1 28), (28, s_pushi 0 29), (29, s_inv mX5_its 5 2 32), (32, s_sw [(1, 72), (2, 121), (3, 75), (4, 121), (5, 95), (6, 99)] 121), (72, s_iload 4 74), (74, s_iret), (75, s_aload 0 76), (76, s_getf 5 0 79), (79, s_pushi 16 81), (81, s_iload 2 82), (82, s_bin (fun x y => x + y) 83), (83, s_iald 84), (84, s_pushi 1 85), (85, s_icmp (fun x y => x = y) 88 93), (88, s_iload 4 90), (90, s_goto 94), (93, s_pushi 0 94), (94, s_iret), (95, s_iload 3 96), (96, s_pushi 2 97), (97, s_div 98), (98, s_iret), (99, s_iload 2 100), (100, s_aload 0 101), (101, s_getf 5 0 104), (104, s_pushi 2 105), (105, s_iald 106), (106, s_icmp (fun x y => x = y) 109 117), (109, s_pushi 3 110), (110, s_iload 3 111), (111, s_pushi 2 112), (112, s_div 113), (113, s_bin (fun x y => x * y) 114), (114, s_goto 120), (117, s_iload 3 118), (118, s_pushi 2 119), (119, s_div 120), (120, s_iret), (121, s_iload 3 122), (122, s_iret)]
set_option maxRecDepth 20000 in
theorem zX5_offer : ∀ q ∈ kX5_offer, Snd RX5 cX5_offer 5 (some .int) (rmM mX5_offer) q.1 q.2 :=
  fm (z_aload_n (j := 0) (by decide +kernel) rfl) (
  fm (z_getf (idx := 7) awX5 rfl (by decide) wd_4_12 rfl (by decide +kernel)) (
  fm (z_iconst (n := 4) (by decide +kernel) (by decide)) (
  fm (z_iload_n (j := 2) (by decide +kernel) rfl) (
  fm (z_iadd (by decide +kernel)) (
  fm (z_iald (by decide +kernel)) (
  fm (z_istore_n (j := 3) (by decide +kernel) rfl (by decide)) (
  fm (z_iload_n (j := 3) (by decide +kernel) rfl) (
  fm (z_aload_n (j := 0) (by decide +kernel) rfl) (
  fm (z_getf (idx := 7) awX5 rfl (by decide) wd_4_12 rfl (by decide +kernel)) (
  fm (z_iconst (n := 4) (by decide +kernel) (by decide)) (
  fm (z_iload_n (j := 2) (by decide +kernel) rfl) (
  fm (z_iconst (n := 1) (by decide +kernel) (by decide)) (
  fm (z_iadd (by decide +kernel)) (
  fm (z_bipush (n := 12) (by decide +kernel) (by decide)) (
  fm (z_irem (by decide +kernel)) (
  fm (z_iadd (by decide +kernel)) (
  fm (z_iald (by decide +kernel)) (
  fm (z_iadd (by decide +kernel)) (
  fm (z_istore (i := 4) (by decide +kernel) (by decide)) (
  fm (z_aload_n (j := 0) (by decide +kernel) rfl) (
  fm (z_iload_n (j := 1) (by decide +kernel) rfl) (
  fm (z_iconst (n := 0) (by decide +kernel) (by decide)) (
  fm (z_inv (idx := 62) rfl (by decide +kernel) wd_4_98 wd_4_100 ws_30 wd_1_7 wd_4_101 (by decide +kernel) ⟨Nat.le_of_ble_eq_true rfl, Nat.le_of_ble_eq_true rfl⟩) (
  fm (z_tsw (dflt := 89) (lo := 1) (hi := 6) (offs := #[40, 89, 43, 89, 63, 67]) (len := 40) (by decide +kernel) (by decide) rfl (by decide) (by decide +kernel)) (
  fm (z_iload (i := 4) (by decide +kernel)) (
  fm (z_iret rfl (by decide +kernel)) (
  fm (z_aload_n (j := 0) (by decide +kernel) rfl) (
  fm (z_getf (idx := 7) awX5 rfl (by decide) wd_4_12 rfl (by decide +kernel)) (
  fm (z_bipush (n := 16) (by decide +kernel) (by decide)) (
  fm (z_iload_n (j := 2) (by decide +kernel) rfl) (
  fm (z_iadd (by decide +kernel)) (
  fm (z_iald (by decide +kernel)) (
  fm (z_iconst (n := 1) (by decide +kernel) (by decide)) (
  fm (z_icmp_ne (off := 8) (by decide +kernel) (by decide)) (
  fm (z_iload (i := 4) (by decide +kernel)) (
  fm (z_goto (off := 4) (by decide +kernel) (by decide)) (
  fm (z_iconst (n := 0) (by decide +kernel) (by decide)) (
  fm (z_iret rfl (by decide +kernel)) (
  fm (z_iload_n (j := 3) (by decide +kernel) rfl) (
  fm (z_iconst (n := 2) (by decide +kernel) (by decide)) (
  fm (z_idiv (by decide +kernel)) (
  fm (z_iret rfl (by decide +kernel)) (
  fm (z_iload_n (j := 2) (by decide +kernel) rfl) (
  fm (z_aload_n (j := 0) (by decide +kernel) rfl) (
  fm (z_getf (idx := 7) awX5 rfl (by decide) wd_4_12 rfl (by decide +kernel)) (
  fm (z_iconst (n := 2) (by decide +kernel) (by decide)) (
  fm (z_iald (by decide +kernel)) (
  fm (z_icmp_ne (off := 11) (by decide +kernel) (by decide)) (
  fm (z_iconst (n := 3) (by decide +kernel) (by decide)) (
  fm (z_iload_n (j := 3) (by decide +kernel) rfl) (
  fm (z_iconst (n := 2) (by decide +kernel) (by decide)) (
  fm (z_idiv (by decide +kernel)) (
  fm (z_imul (by decide +kernel)) (
  fm (z_goto (off := 6) (by decide +kernel) (by decide)) (
  fm (z_iload_n (j := 3) (by decide +kernel) rfl) (
  fm (z_iconst (n := 2) (by decide +kernel) (by decide)) (
  fm (z_idiv (by decide +kernel)) (
  fm (z_iret rfl (by decide +kernel)) (
  fm (z_iload_n (j := 3) (by decide +kernel) rfl) (
  fm (z_iret rfl (by decide +kernel)) (fn)))))))))))))))))))))))))))))))))))))))))))))))))))))))))))))
def kX5_offers : Cd := [(0, s_aload 0 1), (1, s_iload 1 2), (2, s_inv mX5_isStall 5 1 5), (5, s_if (fun x => x = 0) 24 8), (8, s_iload 2 9), (9, s_invS mX5_isPlace 1 12), (12, s_if (fun x => x = 0) 24 15), (15, s_aload 0 16), (16, s_iload 1 17), (17, s_iload 2 18), (18, s_inv mX5_offer 5 2 21), (21, s_goto 30), (24, s_aload 0 25), (25, s_pushi (-1000001) 27), (27, s_inv mX5_finds 5 1 30), (30, s_iret)]
set_option maxRecDepth 20000 in
theorem zX5_offers : ∀ q ∈ kX5_offers, Snd RX5 cX5_offers 3 (some .int) (rmM mX5_offers) q.1 q.2 :=
  fm (z_aload_n (j := 0) (by decide +kernel) rfl) (
  fm (z_iload_n (j := 1) (by decide +kernel) rfl) (
  fm (z_inv (idx := 76) rfl (by decide +kernel) wd_4_115 wd_4_117 ws_32 wd_1_7 wd_4_118 (by decide +kernel) ⟨Nat.le_of_ble_eq_true rfl, Nat.le_of_ble_eq_true rfl⟩) (
  fm (z_if_eq (off := 19) (by decide +kernel) (by decide)) (
  fm (z_iload_n (j := 2) (by decide +kernel) rfl) (
  fm (z_invS (idx := 52) (by decide +kernel) wd_4_68 wd_4_69 wd_1_7 wd_4_70 (by decide +kernel) ⟨Nat.le_of_ble_eq_true rfl, Nat.le_of_ble_eq_true rfl⟩) (
  fm (z_if_eq (off := 12) (by decide +kernel) (by decide)) (
  fm (z_aload_n (j := 0) (by decide +kernel) rfl) (
  fm (z_iload_n (j := 1) (by decide +kernel) rfl) (
  fm (z_iload_n (j := 2) (by decide +kernel) rfl) (
  fm (z_inv (idx := 91) rfl (by decide +kernel) wd_4_144 wd_4_146 ws_36 wd_1_7 wd_4_147 (by decide +kernel) ⟨Nat.le_of_ble_eq_true rfl, Nat.le_of_ble_eq_true rfl⟩) (
  fm (z_goto (off := 9) (by decide +kernel) (by decide)) (
  fm (z_aload_n (j := 0) (by decide +kernel) rfl) (
  fm (z_ldc (i := 40) (by decide +kernel) wd_4_76) (
  fm (z_inv (idx := 58) rfl (by decide +kernel) wd_4_77 wd_4_79 ws_28 wd_1_7 wd_4_80 (by decide +kernel) ⟨Nat.le_of_ble_eq_true rfl, Nat.le_of_ble_eq_true rfl⟩) (
  fm (z_iret rfl (by decide +kernel)) (fn))))))))))))))))
def kX5_order : Cd := [(0, s_aload 0 1), (1, s_iload 1 2), (2, s_inv mX5_isStall 5 1 5), (5, s_if (fun x => x = 0) 20 8), (8, s_iload 2 9), (9, s_i2l 10), (10, s_pushl 1 11), (11, s_pushl 24 14), (14, s_invS mX5_in 3 17), (17, s_if (fun x => x = 0) 20 25), (20, s_pushi (-1000001) 22), (22, s_goto 30), (25, s_aload 0 26), (26, s_iload 2 27), (27, s_inv mX5_orderWrong 5 1 30), (30, s_istore 3 31), (31, s_iload 3 32), (32, s_if (fun x => x = 0) 41 35), (35, s_aload 0 36), (36, s_iload 3 37), (37, s_inv mX5_finds 5 1 40), (40, s_iret), (41, s_aload 0 42), (42, s_iload 1 43), (43, s_iload 2 44), (44, s_inv mX5_bestOrder 5 2 47), (47, s_istore 4 49), (49, s_aload 0 50), (50, s_getf 5 6 53), (53, s_iret)]
set_option maxRecDepth 20000 in
theorem zX5_order : ∀ q ∈ kX5_order, Snd RX5 cX5_order 5 (some .int) (rmM mX5_order) q.1 q.2 :=
  fm (z_aload_n (j := 0) (by decide +kernel) rfl) (
  fm (z_iload_n (j := 1) (by decide +kernel) rfl) (
  fm (z_inv (idx := 76) rfl (by decide +kernel) wd_4_115 wd_4_117 ws_32 wd_1_7 wd_4_118 (by decide +kernel) ⟨Nat.le_of_ble_eq_true rfl, Nat.le_of_ble_eq_true rfl⟩) (
  fm (z_if_eq (off := 15) (by decide +kernel) (by decide)) (
  fm (z_iload_n (j := 2) (by decide +kernel) rfl) (
  fm (z_i2l (by decide +kernel)) (
  fm (z_lconst (n := 1) (by decide +kernel) (by decide)) (
  fm (z_ldc2 (i := 161) (by decide +kernel) wd_5_5) (
  fm (z_invS (idx := 43) (by decide +kernel) wd_4_72 wd_4_73 wd_1_7 wd_4_74 (by decide +kernel) ⟨Nat.le_of_ble_eq_true rfl, Nat.le_of_ble_eq_true rfl⟩) (
  fm (z_if_ne (off := 8) (by decide +kernel) (by decide)) (
  fm (z_ldc (i := 40) (by decide +kernel) wd_4_76) (
  fm (z_goto (off := 8) (by decide +kernel) (by decide)) (
  fm (z_aload_n (j := 0) (by decide +kernel) rfl) (
  fm (z_iload_n (j := 2) (by decide +kernel) rfl) (
  fm (z_inv (idx := 163) rfl (by decide +kernel) wd_5_6 wd_5_8 ws_48 wd_1_7 wd_5_9 (by decide +kernel) ⟨Nat.le_of_ble_eq_true rfl, Nat.le_of_ble_eq_true rfl⟩) (
  fm (z_istore_n (j := 3) (by decide +kernel) rfl (by decide)) (
  fm (z_iload_n (j := 3) (by decide +kernel) rfl) (
  fm (z_if_eq (off := 9) (by decide +kernel) (by decide)) (
  fm (z_aload_n (j := 0) (by decide +kernel) rfl) (
  fm (z_iload_n (j := 3) (by decide +kernel) rfl) (
  fm (z_inv (idx := 58) rfl (by decide +kernel) wd_4_77 wd_4_79 ws_28 wd_1_7 wd_4_80 (by decide +kernel) ⟨Nat.le_of_ble_eq_true rfl, Nat.le_of_ble_eq_true rfl⟩) (
  fm (z_iret rfl (by decide +kernel)) (
  fm (z_aload_n (j := 0) (by decide +kernel) rfl) (
  fm (z_iload_n (j := 1) (by decide +kernel) rfl) (
  fm (z_iload_n (j := 2) (by decide +kernel) rfl) (
  fm (z_inv (idx := 166) rfl (by decide +kernel) wd_5_11 wd_5_13 ws_49 wd_1_7 wd_5_14 (by decide +kernel) ⟨Nat.le_of_ble_eq_true rfl, Nat.le_of_ble_eq_true rfl⟩) (
  fm (z_istore (i := 4) (by decide +kernel) (by decide)) (
  fm (z_aload_n (j := 0) (by decide +kernel) rfl) (
  fm (z_getf (idx := 153) awX5 rfl (by decide) wd_4_18 rfl (by decide +kernel)) (
  fm (z_iret rfl (by decide +kernel)) (fn))))))))))))))))))))))))))))))
def kX5_orderWrong : Cd := [(0, s_aload 0 1), (1, s_iload 1 2), (2, s_inv mX5_isTooLate 5 1 5), (5, s_if (fun x => x = 0) 13 8), (8, s_pushi (-1000005) 10), (10, s_goto 30), (13, s_aload 0 14), (14, s_getf 5 0 17), (17, s_pushi 1 18), (18, s_iald 19), (19, s_pushi 6 21), (21, s_icmp (fun x y => x ≤ y) 29 24), (24, s_pushi (-1000007) 26), (26, s_goto 30), (29, s_pushi 0 30), (30, s_iret)]
set_option maxRecDepth 20000 in
theorem zX5_orderWrong : ∀ q ∈ kX5_orderWrong, Snd RX5 cX5_orderWrong 2 (some .int) (rmM mX5_orderWrong) q.1 q.2 :=
  fm (z_aload_n (j := 0) (by decide +kernel) rfl) (
  fm (z_iload_n (j := 1) (by decide +kernel) rfl) (
  fm (z_inv (idx := 119) rfl (by decide +kernel) wd_4_158 wd_4_160 ws_37 wd_1_7 wd_4_161 (by decide +kernel) ⟨Nat.le_of_ble_eq_true rfl, Nat.le_of_ble_eq_true rfl⟩) (
  fm (z_if_eq (off := 8) (by decide +kernel) (by decide)) (
  fm (z_ldc (i := 70) (by decide +kernel) wd_4_105) (
  fm (z_goto (off := 20) (by decide +kernel) (by decide)) (
  fm (z_aload_n (j := 0) (by decide +kernel) rfl) (
  fm (z_getf (idx := 7) awX5 rfl (by decide) wd_4_12 rfl (by decide +kernel)) (
  fm (z_iconst (n := 1) (by decide +kernel) (by decide)) (
  fm (z_iald (by decide +kernel)) (
  fm (z_bipush (n := 6) (by decide +kernel) (by decide)) (
  fm (z_icmp_le (off := 8) (by decide +kernel) (by decide)) (
  fm (z_ldc (i := 146) (by decide +kernel) wd_5_10) (
  fm (z_goto (off := 4) (by decide +kernel) (by decide)) (
  fm (z_iconst (n := 0) (by decide +kernel) (by decide)) (
  fm (z_iret rfl (by decide +kernel)) (fn))))))))))))))))
def kX5_passes : Cd := [(0, s_aload 0 1), (1, s_iload 1 2), (2, s_inv mX5_isStall 5 1 5), (5, s_if (fun x => x = 0) 8 15), (8, s_aload 0 9), (9, s_pushi (-1000001) 11), (11, s_inv mX5_finds 5 1 14), (14, s_iret), (15, s_aload 0 16), (16, s_pushi 0 17), (17, s_inv mX5_staying 5 1 20), (20, s_istore 2 21), (21, s_iload 2 22), (22, s_iload 1 23), (23, s_invS mX5_has 2 26), (26, s_if (fun x => x = 0) 33 29), (29, s_pushi 0 30), (30, s_goto 49), (33, s_aload 0 34), (34, s_iload 1 35), (35, s_pushi 1 36), (36, s_inv mX5_its 5 2 39), (39, s_aload 0 40), (40, s_iload 2 41), (41, s_inv mX5_placesOf 5 1 44), (44, s_invS mX5_farFrom 2 47), (47, s_pushi 1 48), (48, s_bin (fun x y => x - y) 49), (49, s_iret)]
set_option maxRecDepth 20000 in
theorem zX5_passes : ∀ q ∈ kX5_passes, Snd RX5 cX5_passes 3 (some .int) (rmM mX5_passes) q.1 q.2 :=
  fm (z_aload_n (j := 0) (by decide +kernel) rfl) (
  fm (z_iload_n (j := 1) (by decide +kernel) rfl) (
  fm (z_inv (idx := 76) rfl (by decide +kernel) wd_4_115 wd_4_117 ws_32 wd_1_7 wd_4_118 (by decide +kernel) ⟨Nat.le_of_ble_eq_true rfl, Nat.le_of_ble_eq_true rfl⟩) (
  fm (z_if_ne (off := 10) (by decide +kernel) (by decide)) (
  fm (z_aload_n (j := 0) (by decide +kernel) rfl) (
  fm (z_ldc (i := 40) (by decide +kernel) wd_4_76) (
  fm (z_inv (idx := 58) rfl (by decide +kernel) wd_4_77 wd_4_79 ws_28 wd_1_7 wd_4_80 (by decide +kernel) ⟨Nat.le_of_ble_eq_true rfl, Nat.le_of_ble_eq_true rfl⟩) (
  fm (z_iret rfl (by decide +kernel)) (
  fm (z_aload_n (j := 0) (by decide +kernel) rfl) (
  fm (z_iconst (n := 0) (by decide +kernel) (by decide)) (
  fm (z_inv (idx := 103) rfl (by decide +kernel) wd_4_174 wd_4_176 ws_41 wd_1_7 wd_4_177 (by decide +kernel) ⟨Nat.le_of_ble_eq_true rfl, Nat.le_of_ble_eq_true rfl⟩) (
  fm (z_istore_n (j := 2) (by decide +kernel) rfl (by decide)) (
  fm (z_iload_n (j := 2) (by decide +kernel) rfl) (
  fm (z_iload_n (j := 1) (by decide +kernel) rfl) (
  fm (z_invS (idx := 99) (by decide +kernel) wd_4_182 wd_4_183 wd_1_7 wd_4_184 (by decide +kernel) ⟨Nat.le_of_ble_eq_true rfl, Nat.le_of_ble_eq_true rfl⟩) (
  fm (z_if_eq (off := 7) (by decide +kernel) (by decide)) (
  fm (z_iconst (n := 0) (by decide +kernel) (by decide)) (
  fm (z_goto (off := 19) (by decide +kernel) (by decide)) (
  fm (z_aload_n (j := 0) (by decide +kernel) rfl) (
  fm (z_iload_n (j := 1) (by decide +kernel) rfl) (
  fm (z_iconst (n := 1) (by decide +kernel) (by decide)) (
  fm (z_inv (idx := 62) rfl (by decide +kernel) wd_4_98 wd_4_100 ws_30 wd_1_7 wd_4_101 (by decide +kernel) ⟨Nat.le_of_ble_eq_true rfl, Nat.le_of_ble_eq_true rfl⟩) (
  fm (z_aload_n (j := 0) (by decide +kernel) rfl) (
  fm (z_iload_n (j := 2) (by decide +kernel) rfl) (
  fm (z_inv (idx := 107) rfl (by decide +kernel) wd_4_178 wd_4_180 ws_42 wd_1_7 wd_4_181 (by decide +kernel) ⟨Nat.le_of_ble_eq_true rfl, Nat.le_of_ble_eq_true rfl⟩) (
  fm (z_invS (idx := 110) (by decide +kernel) wd_4_185 wd_4_186 wd_1_7 wd_4_187 (by decide +kernel) ⟨Nat.le_of_ble_eq_true rfl, Nat.le_of_ble_eq_true rfl⟩) (
  fm (z_iconst (n := 1) (by decide +kernel) (by decide)) (
  fm (z_isub (by decide +kernel)) (
  fm (z_iret rfl (by decide +kernel)) (fn)))))))))))))))))))))))))))))
def kX5_perhaps : Cd := [(0, s_iload 1 1), (1, s_if (fun x => x = 0) 4 7), (4, s_iload 4 6), (6, s_iret), (7, s_aload 0 8), (8, s_pushi 1 9), (9, s_inv mX5_needs 5 1 12), (12, s_aload 0 13), (13, s_iload 2 14), (14, s_iload 3 15), (15, s_inv mX5_number 5 2 18), (18, s_aload 0 19), (19, s_getf 5 11 22), (22, s_iret)]
set_option maxRecDepth 20000 in
theorem zX5_perhaps : ∀ q ∈ kX5_perhaps, Snd RX5 cX5_perhaps 5 (some .int) (rmM mX5_perhaps) q.1 q.2 :=
  fm (z_iload_n (j := 1) (by decide +kernel) rfl) (
  fm (z_if_ne (off := 6) (by decide +kernel) (by decide)) (
  fm (z_iload (i := 4) (by decide +kernel)) (
  fm (z_iret rfl (by decide +kernel)) (
  fm (z_aload_n (j := 0) (by decide +kernel) rfl) (
  fm (z_iconst (n := 1) (by decide +kernel) (by decide)) (
  fm (z_inv (idx := 232) rfl (by decide +kernel) wd_5_168 wd_5_170 ws_65 wd_1_7 wd_5_171 (by decide +kernel) ⟨Nat.le_of_ble_eq_true rfl, Nat.le_of_ble_eq_true rfl⟩) (
  fm (z_aload_n (j := 0) (by decide +kernel) rfl) (
  fm (z_iload_n (j := 2) (by decide +kernel) rfl) (
  fm (z_iload_n (j := 3) (by decide +kernel) rfl) (
  fm (z_inv (idx := 254) rfl (by decide +kernel) wd_5_182 wd_5_184 ws_68 wd_1_7 wd_5_185 (by decide +kernel) ⟨Nat.le_of_ble_eq_true rfl, Nat.le_of_ble_eq_true rfl⟩) (
  fm (z_aload_n (j := 0) (by decide +kernel) rfl) (
  fm (z_getf (idx := 229) awX5 rfl (by decide) wd_4_23 rfl (by decide +kernel)) (
  fm (z_iret rfl (by decide +kernel)) (fn))))))))))))))
def kX5_placeOf : Cd := [(0, s_iload 1 1), (1, s_invS mX5_isPlace 1 4), (4, s_if (fun x => x = 0) 19 7), (7, s_iload 2 8), (8, s_i2l 9), (9, s_pushl 0 10), (10, s_pushl 2 13), (13, s_invS mX5_in 3 16), (16, s_if (fun x => x = 0) 19 26), (19, s_aload 0 20), (20, s_pushi (-1000001) 22), (22, s_inv mX5_finds 5 1 25), (25, s_iret), (26, s_iload 2 27), (27, s_if (fun x => x = 0) 30 41), (30, s_aload 0 31), (31, s_getf 5 0 34), (34, s_pushi 4 35), (35, s_iload 1 36), (36, s_bin (fun x y => x + y) 37), (37, s_iald 38), (38, s_goto 63), (41, s_iload 2 42), (42, s_pushi 1 43), (43, s_icmp (fun x y => x = y) 46 58), (46, s_aload 0 47), (47, s_getf 5 0 50), (50, s_pushi 16 52), (52, s_iload 1 53), (53, s_bin (fun x y => x + y) 54), (54, s_iald 55), (55, s_goto 63), (58, s_aload 0 59), (59, s_iload 1 60), (60, s_inv mX5_stallAt 5 1 63), (63, s_iret)]
set_option maxRecDepth 20000 in
theorem zX5_placeOf : ∀ q ∈ kX5_placeOf, Snd RX5 cX5_placeOf 3 (some .int) (rmM mX5_placeOf) q.1 q.2 :=
  fm (z_iload_n (j := 1) (by decide +kernel) rfl) (
  fm (z_invS (idx := 52) (by decide +kernel) wd_4_68 wd_4_69 wd_1_7 wd_4_70 (by decide +kernel) ⟨Nat.le_of_ble_eq_true rfl, Nat.le_of_ble_eq_true rfl⟩) (
  fm (z_if_eq (off := 15) (by decide +kernel) (by decide)) (
  fm (z_iload_n (j := 2) (by decide +kernel) rfl) (
  fm (z_i2l (by decide +kernel)) (
  fm (z_lconst (n := 0) (by decide +kernel) (by decide)) (
  fm (z_ldc2 (i := 94) (by decide +kernel) wd_4_152) (
  fm (z_invS (idx := 43) (by decide +kernel) wd_4_72 wd_4_73 wd_1_7 wd_4_74 (by decide +kernel) ⟨Nat.le_of_ble_eq_true rfl, Nat.le_of_ble_eq_true rfl⟩) (
  fm (z_if_ne (off := 10) (by decide +kernel) (by decide)) (
  fm (z_aload_n (j := 0) (by decide +kernel) rfl) (
  fm (z_ldc (i := 40) (by decide +kernel) wd_4_76) (
  fm (z_inv (idx := 58) rfl (by decide +kernel) wd_4_77 wd_4_79 ws_28 wd_1_7 wd_4_80 (by decide +kernel) ⟨Nat.le_of_ble_eq_true rfl, Nat.le_of_ble_eq_true rfl⟩) (
  fm (z_iret rfl (by decide +kernel)) (
  fm (z_iload_n (j := 2) (by decide +kernel) rfl) (
  fm (z_if_ne (off := 14) (by decide +kernel) (by decide)) (
  fm (z_aload_n (j := 0) (by decide +kernel) rfl) (
  fm (z_getf (idx := 7) awX5 rfl (by decide) wd_4_12 rfl (by decide +kernel)) (
  fm (z_iconst (n := 4) (by decide +kernel) (by decide)) (
  fm (z_iload_n (j := 1) (by decide +kernel) rfl) (
  fm (z_iadd (by decide +kernel)) (
  fm (z_iald (by decide +kernel)) (
  fm (z_goto (off := 25) (by decide +kernel) (by decide)) (
  fm (z_iload_n (j := 2) (by decide +kernel) rfl) (
  fm (z_iconst (n := 1) (by decide +kernel) (by decide)) (
  fm (z_icmp_ne (off := 15) (by decide +kernel) (by decide)) (
  fm (z_aload_n (j := 0) (by decide +kernel) rfl) (
  fm (z_getf (idx := 7) awX5 rfl (by decide) wd_4_12 rfl (by decide +kernel)) (
  fm (z_bipush (n := 16) (by decide +kernel) (by decide)) (
  fm (z_iload_n (j := 1) (by decide +kernel) rfl) (
  fm (z_iadd (by decide +kernel)) (
  fm (z_iald (by decide +kernel)) (
  fm (z_goto (off := 8) (by decide +kernel) (by decide)) (
  fm (z_aload_n (j := 0) (by decide +kernel) rfl) (
  fm (z_iload_n (j := 1) (by decide +kernel) rfl) (
  fm (z_inv (idx := 67) rfl (by decide +kernel) wd_4_94 wd_4_96 ws_29 wd_1_7 wd_4_97 (by decide +kernel) ⟨Nat.le_of_ble_eq_true rfl, Nat.le_of_ble_eq_true rfl⟩) (
  fm (z_iret rfl (by decide +kernel)) (fn))))))))))))))))))))))))))))))))))))
def kX5_placesOf : Cd := [(0, s_pushi 0 1), (1, s_istore 2 2), (2, s_pushi 0 3), (3, s_istore 3 4), (4, s_iload 3 5), (5, s_aload 0 6), (6, s_getf 5 0 9), (9, s_pushi 1 10), (10, s_iald 11), (11, s_icmp (fun x y => y ≤ x) 43 14), (14, s_iload 2 15), (15, s_iload 1 16), (16, s_iload 3 17), (17, s_invS mX5_has 2 20), (20, s_if (fun x => x = 0) 34 23), (23, s_pushi 1 24), (24, s_aload 0 25), (25, s_iload 3 26), (26, s_pushi 1 27), (27, s_inv mX5_its 5 2 30), (30, s_bin (fun x y => x <<< (y &&& 31)) 31), (31, s_goto 35), (34, s_pushi 0 35), (35, s_bin (fun x y => x ||| y) 36), (36, s_istore 2 37), (37, s_iinc 3 1 40), (40, s_goto 4), (43, s_iload 2 44), (44, s_iret)]
set_option maxRecDepth 20000 in
theorem zX5_placesOf : ∀ q ∈ kX5_placesOf, Snd RX5 cX5_placesOf 4 (some .int) (rmM mX5_placesOf) q.1 q.2 :=
  fm (z_iconst (n := 0) (by decide +kernel) (by decide)) (
  fm (z_istore_n (j := 2) (by decide +kernel) rfl (by decide)) (
  fm (z_iconst (n := 0) (by decide +kernel) (by decide)) (
  fm (z_istore_n (j := 3) (by decide +kernel) rfl (by decide)) (
  fm (z_iload_n (j := 3) (by decide +kernel) rfl) (
  fm (z_aload_n (j := 0) (by decide +kernel) rfl) (
  fm (z_getf (idx := 7) awX5 rfl (by decide) wd_4_12 rfl (by decide +kernel)) (
  fm (z_iconst (n := 1) (by decide +kernel) (by decide)) (
  fm (z_iald (by decide +kernel)) (
  fm (z_icmp_ge (off := 32) (by decide +kernel) (by decide)) (
  fm (z_iload_n (j := 2) (by decide +kernel) rfl) (
  fm (z_iload_n (j := 1) (by decide +kernel) rfl) (
  fm (z_iload_n (j := 3) (by decide +kernel) rfl) (
  fm (z_invS (idx := 99) (by decide +kernel) wd_4_182 wd_4_183 wd_1_7 wd_4_184 (by decide +kernel) ⟨Nat.le_of_ble_eq_true rfl, Nat.le_of_ble_eq_true rfl⟩) (
  fm (z_if_eq (off := 14) (by decide +kernel) (by decide)) (
  fm (z_iconst (n := 1) (by decide +kernel) (by decide)) (
  fm (z_aload_n (j := 0) (by decide +kernel) rfl) (
  fm (z_iload_n (j := 3) (by decide +kernel) rfl) (
  fm (z_iconst (n := 1) (by decide +kernel) (by decide)) (
  fm (z_inv (idx := 62) rfl (by decide +kernel) wd_4_98 wd_4_100 ws_30 wd_1_7 wd_4_101 (by decide +kernel) ⟨Nat.le_of_ble_eq_true rfl, Nat.le_of_ble_eq_true rfl⟩) (
  fm (z_ishl (by decide +kernel)) (
  fm (z_goto (off := 4) (by decide +kernel) (by decide)) (
  fm (z_iconst (n := 0) (by decide +kernel) (by decide)) (
  fm (z_ior (by decide +kernel)) (
  fm (z_istore_n (j := 2) (by decide +kernel) rfl (by decide)) (
  fm (z_iinc (n := 1) (by decide +kernel) (by decide) (by decide)) (
  fm (z_goto (off := (-36)) (by decide +kernel) (by decide)) (
  fm (z_iload_n (j := 2) (by decide +kernel) rfl) (
  fm (z_iret rfl (by decide +kernel)) (fn)))))))))))))))))))))))))))))
def kX5_price : Cd := [(0, s_aload 0 1), (1, s_iload 1 2), (2, s_pushi 0 3), (3, s_inv mX5_its 5 2 6), (6, s_istore 2 7), (7, s_iload 2 8), (8, s_pushi 3 9), (9, s_icmp (fun x y => x = y) 12 16), (12, s_pushi 3 13), (13, s_goto 41), (16, s_iload 2 17), (17, s_pushi 6 19), (19, s_icmp (fun x y => x = y) 22 26), (22, s_pushi 5 23), (23, s_goto 41), (26, s_iload 2 27), (27, s_pushi 2 28), (28, s_icmp (fun x y => x = y) 36 31), (31, s_iload 2 32), (32, s_pushi 4 33), (33, s_icmp (fun x y => x = y) 36 40), (36, s_pushi 1 37), (37, s_goto 41), (40, s_pushi 2 41), (41, s_iret)]
set_option maxRecDepth 20000 in
theorem zX5_price : ∀ q ∈ kX5_price, Snd RX5 cX5_price 3 (some .int) (rmM mX5_price) q.1 q.2 :=
  fm (z_aload_n (j := 0) (by decide +kernel) rfl) (
  fm (z_iload_n (j := 1) (by decide +kernel) rfl) (
  fm (z_iconst (n := 0) (by decide +kernel) (by decide)) (
  fm (z_inv (idx := 62) rfl (by decide +kernel) wd_4_98 wd_4_100 ws_30 wd_1_7 wd_4_101 (by decide +kernel) ⟨Nat.le_of_ble_eq_true rfl, Nat.le_of_ble_eq_true rfl⟩) (
  fm (z_istore_n (j := 2) (by decide +kernel) rfl (by decide)) (
  fm (z_iload_n (j := 2) (by decide +kernel) rfl) (
  fm (z_iconst (n := 3) (by decide +kernel) (by decide)) (
  fm (z_icmp_ne (off := 7) (by decide +kernel) (by decide)) (
  fm (z_iconst (n := 3) (by decide +kernel) (by decide)) (
  fm (z_goto (off := 28) (by decide +kernel) (by decide)) (
  fm (z_iload_n (j := 2) (by decide +kernel) rfl) (
  fm (z_bipush (n := 6) (by decide +kernel) (by decide)) (
  fm (z_icmp_ne (off := 7) (by decide +kernel) (by decide)) (
  fm (z_iconst (n := 5) (by decide +kernel) (by decide)) (
  fm (z_goto (off := 18) (by decide +kernel) (by decide)) (
  fm (z_iload_n (j := 2) (by decide +kernel) rfl) (
  fm (z_iconst (n := 2) (by decide +kernel) (by decide)) (
  fm (z_icmp_eq (off := 8) (by decide +kernel) (by decide)) (
  fm (z_iload_n (j := 2) (by decide +kernel) rfl) (
  fm (z_iconst (n := 4) (by decide +kernel) (by decide)) (
  fm (z_icmp_ne (off := 7) (by decide +kernel) (by decide)) (
  fm (z_iconst (n := 1) (by decide +kernel) (by decide)) (
  fm (z_goto (off := 4) (by decide +kernel) (by decide)) (
  fm (z_iconst (n := 2) (by decide +kernel) (by decide)) (
  fm (z_iret rfl (by decide +kernel)) (fn)))))))))))))))))))))))))
def kX5_putsBack : Cd := [(0, s_pushi 0 1), (1, s_istore 1 2), (2, s_iload 1 3), (3, s_pushi 78 5), (5, s_icmp (fun x y => y ≤ x) 26 8), (8, s_aload 0 9), (9, s_getf 5 0 12), (12, s_iload 1 13), (13, s_aload 0 14), (14, s_getf 5 2 17), (17, s_iload 1 18), (18, s_iald 19), (19, s_iast 20), (20, s_iinc 1 1 23), (23, s_goto 2), (26, s_vret)]
set_option maxRecDepth 20000 in
theorem zX5_putsBack : ∀ q ∈ kX5_putsBack, Snd RX5 cX5_putsBack 2 none (rmM mX5_putsBack) q.1 q.2 :=
  fm (z_iconst (n := 0) (by decide +kernel) (by decide)) (
  fm (z_istore_n (j := 1) (by decide +kernel) rfl (by decide)) (
  fm (z_iload_n (j := 1) (by decide +kernel) rfl) (
  fm (z_bipush (n := 78) (by decide +kernel) (by decide)) (
  fm (z_icmp_ge (off := 21) (by decide +kernel) (by decide)) (
  fm (z_aload_n (j := 0) (by decide +kernel) rfl) (
  fm (z_getf (idx := 7) awX5 rfl (by decide) wd_4_12 rfl (by decide +kernel)) (
  fm (z_iload_n (j := 1) (by decide +kernel) rfl) (
  fm (z_aload_n (j := 0) (by decide +kernel) rfl) (
  fm (z_getf (idx := 16) awX5 rfl (by decide) wd_4_14 rfl (by decide +kernel)) (
  fm (z_iload_n (j := 1) (by decide +kernel) rfl) (
  fm (z_iald (by decide +kernel)) (
  fm (z_iast (by decide +kernel)) (
  fm (z_iinc (n := 1) (by decide +kernel) (by decide) (by decide)) (
  fm (z_goto (off := (-21)) (by decide +kernel) (by decide)) (
  fm (z_vret rfl (by decide +kernel)) (fn))))))))))))))))
def kX5_saves : Cd := [(0, s_pushi 0 1), (1, s_istore 1 2), (2, s_iload 1 3), (3, s_pushi 78 5), (5, s_icmp (fun x y => y ≤ x) 26 8), (8, s_aload 0 9), (9, s_getf 5 2 12), (12, s_iload 1 13), (13, s_aload 0 14), (14, s_getf 5 0 17), (17, s_iload 1 18), (18, s_iald 19), (19, s_iast 20), (20, s_iinc 1 1 23), (23, s_goto 2), (26, s_vret)]
set_option maxRecDepth 20000 in
theorem zX5_saves : ∀ q ∈ kX5_saves, Snd RX5 cX5_saves 2 none (rmM mX5_saves) q.1 q.2 :=
  fm (z_iconst (n := 0) (by decide +kernel) (by decide)) (
  fm (z_istore_n (j := 1) (by decide +kernel) rfl (by decide)) (
  fm (z_iload_n (j := 1) (by decide +kernel) rfl) (
  fm (z_bipush (n := 78) (by decide +kernel) (by decide)) (
  fm (z_icmp_ge (off := 21) (by decide +kernel) (by decide)) (
  fm (z_aload_n (j := 0) (by decide +kernel) rfl) (
  fm (z_getf (idx := 16) awX5 rfl (by decide) wd_4_14 rfl (by decide +kernel)) (
  fm (z_iload_n (j := 1) (by decide +kernel) rfl) (
  fm (z_aload_n (j := 0) (by decide +kernel) rfl) (
  fm (z_getf (idx := 7) awX5 rfl (by decide) wd_4_12 rfl (by decide +kernel)) (
  fm (z_iload_n (j := 1) (by decide +kernel) rfl) (
  fm (z_iald (by decide +kernel)) (
  fm (z_iast (by decide +kernel)) (
  fm (z_iinc (n := 1) (by decide +kernel) (by decide) (by decide)) (
  fm (z_goto (off := (-21)) (by decide +kernel) (by decide)) (
  fm (z_vret rfl (by decide +kernel)) (fn))))))))))))))))
def kX5_seed : Cd := [(0, s_aload 0 1), (1, s_getf 5 0 4), (4, s_pushi 3 5), (5, s_iald 6), (6, s_istore 2 7), (7, s_aload 0 8), (8, s_getf 5 0 11), (11, s_pushi 3 12), (12, s_iload 1 13), (13, s_iast 14), (14, s_iload 2 15), (15, s_iret)]
set_option maxRecDepth 20000 in
theorem zX5_seed : ∀ q ∈ kX5_seed, Snd RX5 cX5_seed 3 (some .int) (rmM mX5_seed) q.1 q.2 :=
  fm (z_aload_n (j := 0) (by decide +kernel) rfl) (
  fm (z_getf (idx := 7) awX5 rfl (by decide) wd_4_12 rfl (by decide +kernel)) (
  fm (z_iconst (n := 3) (by decide +kernel) (by decide)) (
  fm (z_iald (by decide +kernel)) (
  fm (z_istore_n (j := 2) (by decide +kernel) rfl (by decide)) (
  fm (z_aload_n (j := 0) (by decide +kernel) rfl) (
  fm (z_getf (idx := 7) awX5 rfl (by decide) wd_4_12 rfl (by decide +kernel)) (
  fm (z_iconst (n := 3) (by decide +kernel) (by decide)) (
  fm (z_iload_n (j := 1) (by decide +kernel) rfl) (
  fm (z_iast (by decide +kernel)) (
  fm (z_iload_n (j := 2) (by decide +kernel) rfl) (
  fm (z_iret rfl (by decide +kernel)) (fn))))))))))))
def kX5_sells : Cd := [(0, s_aload 0 1), (1, s_iload 1 2), (2, s_aload 0 3), (3, s_iload 1 4), (4, s_pushi 1 5), (5, s_inv mX5_its 5 2 8), (8, s_inv mX5_offer 5 2 11), (11, s_istore 2 12), (12, s_aload 0 13), (13, s_iload 1 14), (14, s_pushi 2 15), (15, s_inv mX5_its 5 2 18), (18, s_iload 2 19), (19, s_icmp (fun x y => y ≤ x) 31 22), (22, s_aload 0 23), (23, s_iload 1 24), (24, s_pushi 2 25), (25, s_inv mX5_its 5 2 28), (28, s_goto 32), (31, s_iload 2 32), (32, s_iret)]
set_option maxRecDepth 20000 in
theorem zX5_sells : ∀ q ∈ kX5_sells, Snd RX5 cX5_sells 3 (some .int) (rmM mX5_sells) q.1 q.2 :=
  fm (z_aload_n (j := 0) (by decide +kernel) rfl) (
  fm (z_iload_n (j := 1) (by decide +kernel) rfl) (
  fm (z_aload_n (j := 0) (by decide +kernel) rfl) (
  fm (z_iload_n (j := 1) (by decide +kernel) rfl) (
  fm (z_iconst (n := 1) (by decide +kernel) (by decide)) (
  fm (z_inv (idx := 62) rfl (by decide +kernel) wd_4_98 wd_4_100 ws_30 wd_1_7 wd_4_101 (by decide +kernel) ⟨Nat.le_of_ble_eq_true rfl, Nat.le_of_ble_eq_true rfl⟩) (
  fm (z_inv (idx := 91) rfl (by decide +kernel) wd_4_144 wd_4_146 ws_36 wd_1_7 wd_4_147 (by decide +kernel) ⟨Nat.le_of_ble_eq_true rfl, Nat.le_of_ble_eq_true rfl⟩) (
  fm (z_istore_n (j := 2) (by decide +kernel) rfl (by decide)) (
  fm (z_aload_n (j := 0) (by decide +kernel) rfl) (
  fm (z_iload_n (j := 1) (by decide +kernel) rfl) (
  fm (z_iconst (n := 2) (by decide +kernel) (by decide)) (
  fm (z_inv (idx := 62) rfl (by decide +kernel) wd_4_98 wd_4_100 ws_30 wd_1_7 wd_4_101 (by decide +kernel) ⟨Nat.le_of_ble_eq_true rfl, Nat.le_of_ble_eq_true rfl⟩) (
  fm (z_iload_n (j := 2) (by decide +kernel) rfl) (
  fm (z_icmp_ge (off := 12) (by decide +kernel) (by decide)) (
  fm (z_aload_n (j := 0) (by decide +kernel) rfl) (
  fm (z_iload_n (j := 1) (by decide +kernel) rfl) (
  fm (z_iconst (n := 2) (by decide +kernel) (by decide)) (
  fm (z_inv (idx := 62) rfl (by decide +kernel) wd_4_98 wd_4_100 ws_30 wd_1_7 wd_4_101 (by decide +kernel) ⟨Nat.le_of_ble_eq_true rfl, Nat.le_of_ble_eq_true rfl⟩) (
  fm (z_goto (off := 4) (by decide +kernel) (by decide)) (
  fm (z_iload_n (j := 2) (by decide +kernel) rfl) (
  fm (z_iret rfl (by decide +kernel)) (fn)))))))))))))))))))))
def kX5_shade : Cd := [(0, s_iload 1 1), (1, s_invS mX5_isPlace 1 4), (4, s_if (fun x => x = 0) 7 14), (7, s_aload 0 8), (8, s_pushi (-1000001) 10), (10, s_inv mX5_finds 5 1 13), (13, s_iret), (14, s_aload 0 15), (15, s_getf 5 0 18), (18, s_pushi 16 20), (20, s_iload 1 21), (21, s_bin (fun x y => x + y) 22), (22, s_iald 23), (23, s_istore 3 24), (24, s_aload 0 25), (25, s_getf 5 0 28), (28, s_pushi 16 30), (30, s_iload 1 31), (31, s_bin (fun x y => x + y) 32), (32, s_iload 2 33), (33, s_if (fun x => x = 0) 40 36), (36, s_pushi 1 37), (37, s_goto 41), (40, s_pushi 0 41), (41, s_iast 42), (42, s_iload 3 43), (43, s_iret)]
set_option maxRecDepth 20000 in
theorem zX5_shade : ∀ q ∈ kX5_shade, Snd RX5 cX5_shade 4 (some .int) (rmM mX5_shade) q.1 q.2 :=
  fm (z_iload_n (j := 1) (by decide +kernel) rfl) (
  fm (z_invS (idx := 52) (by decide +kernel) wd_4_68 wd_4_69 wd_1_7 wd_4_70 (by decide +kernel) ⟨Nat.le_of_ble_eq_true rfl, Nat.le_of_ble_eq_true rfl⟩) (
  fm (z_if_ne (off := 10) (by decide +kernel) (by decide)) (
  fm (z_aload_n (j := 0) (by decide +kernel) rfl) (
  fm (z_ldc (i := 40) (by decide +kernel) wd_4_76) (
  fm (z_inv (idx := 58) rfl (by decide +kernel) wd_4_77 wd_4_79 ws_28 wd_1_7 wd_4_80 (by decide +kernel) ⟨Nat.le_of_ble_eq_true rfl, Nat.le_of_ble_eq_true rfl⟩) (
  fm (z_iret rfl (by decide +kernel)) (
  fm (z_aload_n (j := 0) (by decide +kernel) rfl) (
  fm (z_getf (idx := 7) awX5 rfl (by decide) wd_4_12 rfl (by decide +kernel)) (
  fm (z_bipush (n := 16) (by decide +kernel) (by decide)) (
  fm (z_iload_n (j := 1) (by decide +kernel) rfl) (
  fm (z_iadd (by decide +kernel)) (
  fm (z_iald (by decide +kernel)) (
  fm (z_istore_n (j := 3) (by decide +kernel) rfl (by decide)) (
  fm (z_aload_n (j := 0) (by decide +kernel) rfl) (
  fm (z_getf (idx := 7) awX5 rfl (by decide) wd_4_12 rfl (by decide +kernel)) (
  fm (z_bipush (n := 16) (by decide +kernel) (by decide)) (
  fm (z_iload_n (j := 1) (by decide +kernel) rfl) (
  fm (z_iadd (by decide +kernel)) (
  fm (z_iload_n (j := 2) (by decide +kernel) rfl) (
  fm (z_if_eq (off := 7) (by decide +kernel) (by decide)) (
  fm (z_iconst (n := 1) (by decide +kernel) (by decide)) (
  fm (z_goto (off := 4) (by decide +kernel) (by decide)) (
  fm (z_iconst (n := 0) (by decide +kernel) (by decide)) (
  fm (z_iast (by decide +kernel)) (
  fm (z_iload_n (j := 3) (by decide +kernel) rfl) (
  fm (z_iret rfl (by decide +kernel)) (fn)))))))))))))))))))))))))))
def kX5_sheet : Cd := [(0, s_iload 1 1), (1, s_invS mX5_isOne 1 4), (4, s_if (fun x => x = 0) 29 7), (7, s_iload 2 8), (8, s_if (fun x => x = 0) 36 11), (11, s_iload 2 12), (12, s_pushi 8 14), (14, s_icmp (fun x y => x = y) 36 17), (17, s_iload 2 18), (18, s_pushi 16 20), (20, s_icmp (fun x y => x = y) 36 23), (23, s_iload 2 24), (24, s_pushi 32 26), (26, s_icmp (fun x y => x = y) 36 29), (29, s_aload 0 30), (30, s_pushi (-1000001) 32), (32, s_inv mX5_finds 5 1 35), (35, s_iret), (36, s_iload 3 37), (37, s_if (fun x => 0 ≤ x) 47 40), (40, s_aload 0 41), (41, s_pushi (-1000007) 43), (43, s_inv mX5_finds 5 1 46), (46, s_iret), (47, s_iload 3 48), (48, s_pushi 40 50), (50, s_icmp (fun x y => x ≤ y) 60 53), (53, s_aload 0 54), (54, s_pushi (-1000001) 56), (56, s_inv mX5_finds 5 1 59), (59, s_iret), (60, s_aload 0 61), (61, s_getf 5 13 64), (64, s_iload 1 65), (65, s_iload 2 66), (66, s_iast 67), (67, s_aload 0 68), (68, s_getf 5 14 71), (71, s_iload 1 72), (72, s_iload 2 73), (73, s_if (fun x => x = 0) 76 80), (76, s_pushi 0 77), (77, s_goto 81), (80, s_iload 3 81), (81, s_iast 82), (82, s_pushi 0 83), (83, s_istore 4 85), (85, s_iload 4 87), (87, s_pushi 40 89), (89, s_icmp (fun x y => y ≤ x) 111 92), (92, s_aload 0 93), (93, s_getf 5 15 96), (96, s_pushi 40 98), (98, s_iload 1 99), (99, s_bin (fun x y => x * y) 100), (100, s_iload 4 102), (102, s_bin (fun x y => x + y) 103), (103, s_pushi 0 104), (104, s_iast 105), (105, s_iinc 4 1 108), (108, s_goto 85), (111, s_aload 0 112), (112, s_getf 5 14 115), (115, s_iload 1 116), (116, s_iald 117), (117, s_iret)]
set_option maxRecDepth 20000 in
theorem zX5_sheet : ∀ q ∈ kX5_sheet, Snd RX5 cX5_sheet 5 (some .int) (rmM mX5_sheet) q.1 q.2 :=
  fm (z_iload_n (j := 1) (by decide +kernel) rfl) (
  fm (z_invS (idx := 298) (by decide +kernel) wd_5_210 wd_5_211 wd_1_7 wd_5_212 (by decide +kernel) ⟨Nat.le_of_ble_eq_true rfl, Nat.le_of_ble_eq_true rfl⟩) (
  fm (z_if_eq (off := 25) (by decide +kernel) (by decide)) (
  fm (z_iload_n (j := 2) (by decide +kernel) rfl) (
  fm (z_if_eq (off := 28) (by decide +kernel) (by decide)) (
  fm (z_iload_n (j := 2) (by decide +kernel) rfl) (
  fm (z_bipush (n := 8) (by decide +kernel) (by decide)) (
  fm (z_icmp_eq (off := 22) (by decide +kernel) (by decide)) (
  fm (z_iload_n (j := 2) (by decide +kernel) rfl) (
  fm (z_bipush (n := 16) (by decide +kernel) (by decide)) (
  fm (z_icmp_eq (off := 16) (by decide +kernel) (by decide)) (
  fm (z_iload_n (j := 2) (by decide +kernel) rfl) (
  fm (z_bipush (n := 32) (by decide +kernel) (by decide)) (
  fm (z_icmp_eq (off := 10) (by decide +kernel) (by decide)) (
  fm (z_aload_n (j := 0) (by decide +kernel) rfl) (
  fm (z_ldc (i := 40) (by decide +kernel) wd_4_76) (
  fm (z_inv (idx := 58) rfl (by decide +kernel) wd_4_77 wd_4_79 ws_28 wd_1_7 wd_4_80 (by decide +kernel) ⟨Nat.le_of_ble_eq_true rfl, Nat.le_of_ble_eq_true rfl⟩) (
  fm (z_iret rfl (by decide +kernel)) (
  fm (z_iload_n (j := 3) (by decide +kernel) rfl) (
  fm (z_if_ge (off := 10) (by decide +kernel) (by decide)) (
  fm (z_aload_n (j := 0) (by decide +kernel) rfl) (
  fm (z_ldc (i := 146) (by decide +kernel) wd_5_10) (
  fm (z_inv (idx := 58) rfl (by decide +kernel) wd_4_77 wd_4_79 ws_28 wd_1_7 wd_4_80 (by decide +kernel) ⟨Nat.le_of_ble_eq_true rfl, Nat.le_of_ble_eq_true rfl⟩) (
  fm (z_iret rfl (by decide +kernel)) (
  fm (z_iload_n (j := 3) (by decide +kernel) rfl) (
  fm (z_bipush (n := 40) (by decide +kernel) (by decide)) (
  fm (z_icmp_le (off := 10) (by decide +kernel) (by decide)) (
  fm (z_aload_n (j := 0) (by decide +kernel) rfl) (
  fm (z_ldc (i := 40) (by decide +kernel) wd_4_76) (
  fm (z_inv (idx := 58) rfl (by decide +kernel) wd_4_77 wd_4_79 ws_28 wd_1_7 wd_4_80 (by decide +kernel) ⟨Nat.le_of_ble_eq_true rfl, Nat.le_of_ble_eq_true rfl⟩) (
  fm (z_iret rfl (by decide +kernel)) (
  fm (z_aload_n (j := 0) (by decide +kernel) rfl) (
  fm (z_getf (idx := 28) awX5 rfl (by decide) wd_4_25 rfl (by decide +kernel)) (
  fm (z_iload_n (j := 1) (by decide +kernel) rfl) (
  fm (z_iload_n (j := 2) (by decide +kernel) rfl) (
  fm (z_iast (by decide +kernel)) (
  fm (z_aload_n (j := 0) (by decide +kernel) rfl) (
  fm (z_getf (idx := 31) awX5 rfl (by decide) wd_4_26 rfl (by decide +kernel)) (
  fm (z_iload_n (j := 1) (by decide +kernel) rfl) (
  fm (z_iload_n (j := 2) (by decide +kernel) rfl) (
  fm (z_if_ne (off := 7) (by decide +kernel) (by decide)) (
  fm (z_iconst (n := 0) (by decide +kernel) (by decide)) (
  fm (z_goto (off := 4) (by decide +kernel) (by decide)) (
  fm (z_iload_n (j := 3) (by decide +kernel) rfl) (
  fm (z_iast (by decide +kernel)) (
  fm (z_iconst (n := 0) (by decide +kernel) (by decide)) (
  fm (z_istore (i := 4) (by decide +kernel) (by decide)) (
  fm (z_iload (i := 4) (by decide +kernel)) (
  fm (z_bipush (n := 40) (by decide +kernel) (by decide)) (
  fm (z_icmp_ge (off := 22) (by decide +kernel) (by decide)) (
  fm (z_aload_n (j := 0) (by decide +kernel) rfl) (
  fm (z_getf (idx := 34) awX5 rfl (by decide) wd_4_27 rfl (by decide +kernel)) (
  fm (z_bipush (n := 40) (by decide +kernel) (by decide)) (
  fm (z_iload_n (j := 1) (by decide +kernel) rfl) (
  fm (z_imul (by decide +kernel)) (
  fm (z_iload (i := 4) (by decide +kernel)) (
  fm (z_iadd (by decide +kernel)) (
  fm (z_iconst (n := 0) (by decide +kernel) (by decide)) (
  fm (z_iast (by decide +kernel)) (
  fm (z_iinc (n := 1) (by decide +kernel) (by decide) (by decide)) (
  fm (z_goto (off := (-23)) (by decide +kernel) (by decide)) (
  fm (z_aload_n (j := 0) (by decide +kernel) rfl) (
  fm (z_getf (idx := 31) awX5 rfl (by decide) wd_4_26 rfl (by decide +kernel)) (
  fm (z_iload_n (j := 1) (by decide +kernel) rfl) (
  fm (z_iald (by decide +kernel)) (
  fm (z_iret rfl (by decide +kernel)) (fn))))))))))))))))))))))))))))))))))))))))))))))))))))))))))))))))))
def kX5_spring : Cd := [(0, s_iload 1 1), (1, s_invS mX5_isPlace 1 4), (4, s_if (fun x => x = 0) 7 14), (7, s_aload 0 8), (8, s_pushi (-1000001) 10), (10, s_inv mX5_finds 5 1 13), (13, s_iret), (14, s_aload 0 15), (15, s_getf 5 0 18), (18, s_pushi 2 19), (19, s_iald 20), (20, s_istore 2 21), (21, s_aload 0 22), (22, s_getf 5 0 25), (25, s_pushi 2 26), (26, s_iload 1 27), (27, s_iast 28), (28, s_iload 2 29), (29, s_iret)]
set_option maxRecDepth 20000 in
theorem zX5_spring : ∀ q ∈ kX5_spring, Snd RX5 cX5_spring 3 (some .int) (rmM mX5_spring) q.1 q.2 :=
  fm (z_iload_n (j := 1) (by decide +kernel) rfl) (
  fm (z_invS (idx := 52) (by decide +kernel) wd_4_68 wd_4_69 wd_1_7 wd_4_70 (by decide +kernel) ⟨Nat.le_of_ble_eq_true rfl, Nat.le_of_ble_eq_true rfl⟩) (
  fm (z_if_ne (off := 10) (by decide +kernel) (by decide)) (
  fm (z_aload_n (j := 0) (by decide +kernel) rfl) (
  fm (z_ldc (i := 40) (by decide +kernel) wd_4_76) (
  fm (z_inv (idx := 58) rfl (by decide +kernel) wd_4_77 wd_4_79 ws_28 wd_1_7 wd_4_80 (by decide +kernel) ⟨Nat.le_of_ble_eq_true rfl, Nat.le_of_ble_eq_true rfl⟩) (
  fm (z_iret rfl (by decide +kernel)) (
  fm (z_aload_n (j := 0) (by decide +kernel) rfl) (
  fm (z_getf (idx := 7) awX5 rfl (by decide) wd_4_12 rfl (by decide +kernel)) (
  fm (z_iconst (n := 2) (by decide +kernel) (by decide)) (
  fm (z_iald (by decide +kernel)) (
  fm (z_istore_n (j := 2) (by decide +kernel) rfl (by decide)) (
  fm (z_aload_n (j := 0) (by decide +kernel) rfl) (
  fm (z_getf (idx := 7) awX5 rfl (by decide) wd_4_12 rfl (by decide +kernel)) (
  fm (z_iconst (n := 2) (by decide +kernel) (by decide)) (
  fm (z_iload_n (j := 1) (by decide +kernel) rfl) (
  fm (z_iast (by decide +kernel)) (
  fm (z_iload_n (j := 2) (by decide +kernel) rfl) (
  fm (z_iret rfl (by decide +kernel)) (fn)))))))))))))))))))
def kX5_stall : Cd := [(0, s_iload 1 1), (1, s_i2l 2), (2, s_pushl 0 3), (3, s_pushl 6 6), (6, s_invS mX5_in 3 9), (9, s_if (fun x => x = 0) 19 12), (12, s_iload 2 13), (13, s_invS mX5_isPlace 1 16), (16, s_if (fun x => x = 0) 19 26), (19, s_aload 0 20), (20, s_pushi (-1000001) 22), (22, s_inv mX5_finds 5 1 25), (25, s_iret), (26, s_aload 0 27), (27, s_iload 2 28), (28, s_inv mX5_stallAt 5 1 31), (31, s_if (fun x => x < 0) 41 34), (34, s_aload 0 35), (35, s_pushi (-1000005) 37), (37, s_inv mX5_finds 5 1 40), (40, s_iret), (41, s_aload 0 42), (42, s_getf 5 0 45), (45, s_pushi 1 46), (46, s_iald 47), (47, s_pushi 8 49), (49, s_icmp (fun x y => x = y) 52 61), (52, s_aload 0 53), (53, s_pushi (-1000002) 55), (55, s_inv mX5_finds 5 1 58), (58, s_goto 69), (61, s_aload 0 62), (62, s_iload 1 63), (63, s_iload 2 64), (64, s_pushi 20 66), (66, s_inv mX5_newStall 5 3 69), (69, s_iret)]
set_option maxRecDepth 20000 in
theorem zX5_stall : ∀ q ∈ kX5_stall, Snd RX5 cX5_stall 3 (some .int) (rmM mX5_stall) q.1 q.2 :=
  fm (z_iload_n (j := 1) (by decide +kernel) rfl) (
  fm (z_i2l (by decide +kernel)) (
  fm (z_lconst (n := 0) (by decide +kernel) (by decide)) (
  fm (z_ldc2 (i := 65) (by decide +kernel) wd_4_93) (
  fm (z_invS (idx := 43) (by decide +kernel) wd_4_72 wd_4_73 wd_1_7 wd_4_74 (by decide +kernel) ⟨Nat.le_of_ble_eq_true rfl, Nat.le_of_ble_eq_true rfl⟩) (
  fm (z_if_eq (off := 10) (by decide +kernel) (by decide)) (
  fm (z_iload_n (j := 2) (by decide +kernel) rfl) (
  fm (z_invS (idx := 52) (by decide +kernel) wd_4_68 wd_4_69 wd_1_7 wd_4_70 (by decide +kernel) ⟨Nat.le_of_ble_eq_true rfl, Nat.le_of_ble_eq_true rfl⟩) (
  fm (z_if_ne (off := 10) (by decide +kernel) (by decide)) (
  fm (z_aload_n (j := 0) (by decide +kernel) rfl) (
  fm (z_ldc (i := 40) (by decide +kernel) wd_4_76) (
  fm (z_inv (idx := 58) rfl (by decide +kernel) wd_4_77 wd_4_79 ws_28 wd_1_7 wd_4_80 (by decide +kernel) ⟨Nat.le_of_ble_eq_true rfl, Nat.le_of_ble_eq_true rfl⟩) (
  fm (z_iret rfl (by decide +kernel)) (
  fm (z_aload_n (j := 0) (by decide +kernel) rfl) (
  fm (z_iload_n (j := 2) (by decide +kernel) rfl) (
  fm (z_inv (idx := 67) rfl (by decide +kernel) wd_4_94 wd_4_96 ws_29 wd_1_7 wd_4_97 (by decide +kernel) ⟨Nat.le_of_ble_eq_true rfl, Nat.le_of_ble_eq_true rfl⟩) (
  fm (z_if_lt (off := 10) (by decide +kernel) (by decide)) (
  fm (z_aload_n (j := 0) (by decide +kernel) rfl) (
  fm (z_ldc (i := 70) (by decide +kernel) wd_4_105) (
  fm (z_inv (idx := 58) rfl (by decide +kernel) wd_4_77 wd_4_79 ws_28 wd_1_7 wd_4_80 (by decide +kernel) ⟨Nat.le_of_ble_eq_true rfl, Nat.le_of_ble_eq_true rfl⟩) (
  fm (z_iret rfl (by decide +kernel)) (
  fm (z_aload_n (j := 0) (by decide +kernel) rfl) (
  fm (z_getf (idx := 7) awX5 rfl (by decide) wd_4_12 rfl (by decide +kernel)) (
  fm (z_iconst (n := 1) (by decide +kernel) (by decide)) (
  fm (z_iald (by decide +kernel)) (
  fm (z_bipush (n := 8) (by decide +kernel) (by decide)) (
  fm (z_icmp_ne (off := 12) (by decide +kernel) (by decide)) (
  fm (z_aload_n (j := 0) (by decide +kernel) rfl) (
  fm (z_ldc (i := 71) (by decide +kernel) wd_4_106) (
  fm (z_inv (idx := 58) rfl (by decide +kernel) wd_4_77 wd_4_79 ws_28 wd_1_7 wd_4_80 (by decide +kernel) ⟨Nat.le_of_ble_eq_true rfl, Nat.le_of_ble_eq_true rfl⟩) (
  fm (z_goto (off := 11) (by decide +kernel) (by decide)) (
  fm (z_aload_n (j := 0) (by decide +kernel) rfl) (
  fm (z_iload_n (j := 1) (by decide +kernel) rfl) (
  fm (z_iload_n (j := 2) (by decide +kernel) rfl) (
  fm (z_bipush (n := 20) (by decide +kernel) (by decide)) (
  fm (z_inv (idx := 72) rfl (by decide +kernel) wd_4_107 wd_4_109 ws_31 wd_1_7 wd_4_110 (by decide +kernel) ⟨Nat.le_of_ble_eq_true rfl, Nat.le_of_ble_eq_true rfl⟩) (
  fm (z_iret rfl (by decide +kernel)) (fn)))))))))))))))))))))))))))))))))))))
def kX5_stallAt : Cd := [(0, s_pushi (-1) 1), (1, s_istore 2 2), (2, s_pushi 0 3), (3, s_istore 3 4), (4, s_iload 3 5), (5, s_aload 0 6), (6, s_getf 5 0 9), (9, s_pushi 1 10), (10, s_iald 11), (11, s_icmp (fun x y => y ≤ x) 36 14), (14, s_aload 0 15), (15, s_iload 3 16), (16, s_pushi 1 17), (17, s_inv mX5_its 5 2 20), (20, s_iload 1 21), (21, s_icmp (fun x y => x = y) 24 28), (24, s_iload 3 25), (25, s_goto 29), (28, s_iload 2 29), (29, s_istore 2 30), (30, s_iinc 3 1 33), (33, s_goto 4), (36, s_iload 2 37), (37, s_iret)]
set_option maxRecDepth 20000 in
theorem zX5_stallAt : ∀ q ∈ kX5_stallAt, Snd RX5 cX5_stallAt 4 (some .int) (rmM mX5_stallAt) q.1 q.2 :=
  fm (z_iconst (n := (-1)) (by decide +kernel) (by decide)) (
  fm (z_istore_n (j := 2) (by decide +kernel) rfl (by decide)) (
  fm (z_iconst (n := 0) (by decide +kernel) (by decide)) (
  fm (z_istore_n (j := 3) (by decide +kernel) rfl (by decide)) (
  fm (z_iload_n (j := 3) (by decide +kernel) rfl) (
  fm (z_aload_n (j := 0) (by decide +kernel) rfl) (
  fm (z_getf (idx := 7) awX5 rfl (by decide) wd_4_12 rfl (by decide +kernel)) (
  fm (z_iconst (n := 1) (by decide +kernel) (by decide)) (
  fm (z_iald (by decide +kernel)) (
  fm (z_icmp_ge (off := 25) (by decide +kernel) (by decide)) (
  fm (z_aload_n (j := 0) (by decide +kernel) rfl) (
  fm (z_iload_n (j := 3) (by decide +kernel) rfl) (
  fm (z_iconst (n := 1) (by decide +kernel) (by decide)) (
  fm (z_inv (idx := 62) rfl (by decide +kernel) wd_4_98 wd_4_100 ws_30 wd_1_7 wd_4_101 (by decide +kernel) ⟨Nat.le_of_ble_eq_true rfl, Nat.le_of_ble_eq_true rfl⟩) (
  fm (z_iload_n (j := 1) (by decide +kernel) rfl) (
  fm (z_icmp_ne (off := 7) (by decide +kernel) (by decide)) (
  fm (z_iload_n (j := 3) (by decide +kernel) rfl) (
  fm (z_goto (off := 4) (by decide +kernel) (by decide)) (
  fm (z_iload_n (j := 2) (by decide +kernel) rfl) (
  fm (z_istore_n (j := 2) (by decide +kernel) rfl (by decide)) (
  fm (z_iinc (n := 1) (by decide +kernel) (by decide) (by decide)) (
  fm (z_goto (off := (-29)) (by decide +kernel) (by decide)) (
  fm (z_iload_n (j := 2) (by decide +kernel) rfl) (
  fm (z_iret rfl (by decide +kernel)) (fn))))))))))))))))))))))))
def kX5_stallItem : Cd := [(0, s_aload 0 1), (1, s_aload 0 2), (2, s_getf 5 0 5), (5, s_pushi 1 6), (6, s_iald 7), (7, s_pushi 8 9), (9, s_icmp (fun x y => y ≤ x) 16 12), (12, s_pushi 1 13), (13, s_goto 17), (16, s_pushi 0 17), (17, s_inv mX5_needs 5 1 20), (20, s_aload 0 21), (21, s_aload 0 22), (22, s_inv mX5_word 5 0 25), (25, s_pushl 52 28), (28, s_lcmp 29), (29, s_if (fun x => x = 0) 32 36), (32, s_pushi 1 33), (33, s_goto 37), (36, s_pushi 0 37), (37, s_inv mX5_needs 5 1 40), (40, s_aload 0 41), (41, s_getf 5 12 44), (44, s_if (fun x => x = 0) 47 51), (47, s_aload 0 48), (48, s_inv mX5_freePlace 5 0 51), (51, s_aload 0 52), (52, s_getf 5 11 55), (55, s_istore 2 56), (56, s_aload 0 57), (57, s_aload 0 58), (58, s_inv mX5_word 5 0 61), (61, s_pushl 7847059 64), (64, s_lcmp 65), (65, s_if (fun x => x = 0) 68 72), (68, s_pushi 1 69), (69, s_goto 73), (72, s_pushi 0 73), (73, s_pushi 0 74), (74, s_pushi 99 76), (76, s_pushi 20 78), (78, s_inv mX5_perhaps 5 4 81), (81, s_istore 3 82), (82, s_aload 0 83), (83, s_getf 5 12 86), (86, s_if (fun x => x = 0) 89 98), (89, s_aload 0 90), (90, s_iload 1 91), (91, s_iload 2 92), (92, s_iload 3 93), (93, s_inv mX5_newStall 5 3 96), (96, s_istore 4 98), (98, s_vret)]
set_option maxRecDepth 20000 in
theorem zX5_stallItem : ∀ q ∈ kX5_stallItem, Snd RX5 cX5_stallItem 5 none (rmM mX5_stallItem) q.1 q.2 :=
  fm (z_aload_n (j := 0) (by decide +kernel) rfl) (
  fm (z_aload_n (j := 0) (by decide +kernel) rfl) (
  fm (z_getf (idx := 7) awX5 rfl (by decide) wd_4_12 rfl (by decide +kernel)) (
  fm (z_iconst (n := 1) (by decide +kernel) (by decide)) (
  fm (z_iald (by decide +kernel)) (
  fm (z_bipush (n := 8) (by decide +kernel) (by decide)) (
  fm (z_icmp_ge (off := 7) (by decide +kernel) (by decide)) (
  fm (z_iconst (n := 1) (by decide +kernel) (by decide)) (
  fm (z_goto (off := 4) (by decide +kernel) (by decide)) (
  fm (z_iconst (n := 0) (by decide +kernel) (by decide)) (
  fm (z_inv (idx := 232) rfl (by decide +kernel) wd_5_168 wd_5_170 ws_65 wd_1_7 wd_5_171 (by decide +kernel) ⟨Nat.le_of_ble_eq_true rfl, Nat.le_of_ble_eq_true rfl⟩) (
  fm (z_aload_n (j := 0) (by decide +kernel) rfl) (
  fm (z_aload_n (j := 0) (by decide +kernel) rfl) (
  fm (z_inv (idx := 236) rfl (by decide +kernel) wd_5_150 wd_5_152 ws_63 wd_1_7 wd_5_153 (by decide +kernel) ⟨Nat.le_of_ble_eq_true rfl, Nat.le_of_ble_eq_true rfl⟩) (
  fm (z_ldc2 (i := 256) (by decide +kernel) wd_5_172) (
  fm (z_lcmp (by decide +kernel)) (
  fm (z_if_ne (off := 7) (by decide +kernel) (by decide)) (
  fm (z_iconst (n := 1) (by decide +kernel) (by decide)) (
  fm (z_goto (off := 4) (by decide +kernel) (by decide)) (
  fm (z_iconst (n := 0) (by decide +kernel) (by decide)) (
  fm (z_inv (idx := 232) rfl (by decide +kernel) wd_5_168 wd_5_170 ws_65 wd_1_7 wd_5_171 (by decide +kernel) ⟨Nat.le_of_ble_eq_true rfl, Nat.le_of_ble_eq_true rfl⟩) (
  fm (z_aload_n (j := 0) (by decide +kernel) rfl) (
  fm (z_getf (idx := 218) awX5 rfl (by decide) wd_4_24 rfl (by decide +kernel)) (
  fm (z_if_ne (off := 7) (by decide +kernel) (by decide)) (
  fm (z_aload_n (j := 0) (by decide +kernel) rfl) (
  fm (z_inv (idx := 258) rfl (by decide +kernel) wd_5_173 wd_5_175 ws_66 wd_1_7 wd_5_176 (by decide +kernel) ⟨Nat.le_of_ble_eq_true rfl, Nat.le_of_ble_eq_true rfl⟩) (
  fm (z_aload_n (j := 0) (by decide +kernel) rfl) (
  fm (z_getf (idx := 229) awX5 rfl (by decide) wd_4_23 rfl (by decide +kernel)) (
  fm (z_istore_n (j := 2) (by decide +kernel) rfl (by decide)) (
  fm (z_aload_n (j := 0) (by decide +kernel) rfl) (
  fm (z_aload_n (j := 0) (by decide +kernel) rfl) (
  fm (z_inv (idx := 236) rfl (by decide +kernel) wd_5_150 wd_5_152 ws_63 wd_1_7 wd_5_153 (by decide +kernel) ⟨Nat.le_of_ble_eq_true rfl, Nat.le_of_ble_eq_true rfl⟩) (
  fm (z_ldc2 (i := 261) (by decide +kernel) wd_5_177) (
  fm (z_lcmp (by decide +kernel)) (
  fm (z_if_ne (off := 7) (by decide +kernel) (by decide)) (
  fm (z_iconst (n := 1) (by decide +kernel) (by decide)) (
  fm (z_goto (off := 4) (by decide +kernel) (by decide)) (
  fm (z_iconst (n := 0) (by decide +kernel) (by decide)) (
  fm (z_iconst (n := 0) (by decide +kernel) (by decide)) (
  fm (z_bipush (n := 99) (by decide +kernel) (by decide)) (
  fm (z_bipush (n := 20) (by decide +kernel) (by decide)) (
  fm (z_inv (idx := 263) rfl (by decide +kernel) wd_5_178 wd_5_180 ws_67 wd_1_7 wd_5_181 (by decide +kernel) ⟨Nat.le_of_ble_eq_true rfl, Nat.le_of_ble_eq_true rfl⟩) (
  fm (z_istore_n (j := 3) (by decide +kernel) rfl (by decide)) (
  fm (z_aload_n (j := 0) (by decide +kernel) rfl) (
  fm (z_getf (idx := 218) awX5 rfl (by decide) wd_4_24 rfl (by decide +kernel)) (
  fm (z_if_ne (off := 12) (by decide +kernel) (by decide)) (
  fm (z_aload_n (j := 0) (by decide +kernel) rfl) (
  fm (z_iload_n (j := 1) (by decide +kernel) rfl) (
  fm (z_iload_n (j := 2) (by decide +kernel) rfl) (
  fm (z_iload_n (j := 3) (by decide +kernel) rfl) (
  fm (z_inv (idx := 72) rfl (by decide +kernel) wd_4_107 wd_4_109 ws_31 wd_1_7 wd_4_110 (by decide +kernel) ⟨Nat.le_of_ble_eq_true rfl, Nat.le_of_ble_eq_true rfl⟩) (
  fm (z_istore (i := 4) (by decide +kernel) (by decide)) (
  fm (z_vret rfl (by decide +kernel)) (fn)))))))))))))))))))))))))))))))))))))))))))))))))))))
def kX5_status : Cd := [(0, s_iload 1 1), (1, s_i2l 2), (2, s_pushl (-1) 5), (5, s_pushl 6 8), (8, s_invS mX5_in 3 11), (11, s_if (fun x => x = 0) 14 21), (14, s_aload 0 15), (15, s_pushi (-1000001) 17), (17, s_inv mX5_finds 5 1 20), (20, s_iret), (21, s_pushi 0 22), (22, s_istore 2 23), (23, s_pushi 0 24), (24, s_istore 3 25), (25, s_iload 3 26), (26, s_pushi 7 28), (28, s_icmp (fun x y => y ≤ x) 59 31), (31, s_iload 2 32), (32, s_iload 1 33), (33, s_if (fun x => x < 0) 41 36), (36, s_iload 3 37), (37, s_iload 1 38), (38, s_icmp (fun x y => x = y) 41 50), (41, s_aload 0 42), (42, s_getf 5 3 45), (45, s_iload 3 46), (46, s_iald 47), (47, s_goto 51), (50, s_pushi 0 51), (51, s_bin (fun x y => x + y) 52), (52, s_istore 2 53), (53, s_iinc 3 1 56), (56, s_goto 25), (59, s_iload 2 60), (60, s_iret)]
set_option maxRecDepth 20000 in
theorem zX5_status : ∀ q ∈ kX5_status, Snd RX5 cX5_status 4 (some .int) (rmM mX5_status) q.1 q.2 :=
  fm (z_iload_n (j := 1) (by decide +kernel) rfl) (
  fm (z_i2l (by decide +kernel)) (
  fm (z_ldc2 (i := 319) (by decide +kernel) wd_6_33) (
  fm (z_ldc2 (i := 65) (by decide +kernel) wd_4_93) (
  fm (z_invS (idx := 43) (by decide +kernel) wd_4_72 wd_4_73 wd_1_7 wd_4_74 (by decide +kernel) ⟨Nat.le_of_ble_eq_true rfl, Nat.le_of_ble_eq_true rfl⟩) (
  fm (z_if_ne (off := 10) (by decide +kernel) (by decide)) (
  fm (z_aload_n (j := 0) (by decide +kernel) rfl) (
  fm (z_ldc (i := 40) (by decide +kernel) wd_4_76) (
  fm (z_inv (idx := 58) rfl (by decide +kernel) wd_4_77 wd_4_79 ws_28 wd_1_7 wd_4_80 (by decide +kernel) ⟨Nat.le_of_ble_eq_true rfl, Nat.le_of_ble_eq_true rfl⟩) (
  fm (z_iret rfl (by decide +kernel)) (
  fm (z_iconst (n := 0) (by decide +kernel) (by decide)) (
  fm (z_istore_n (j := 2) (by decide +kernel) rfl (by decide)) (
  fm (z_iconst (n := 0) (by decide +kernel) (by decide)) (
  fm (z_istore_n (j := 3) (by decide +kernel) rfl (by decide)) (
  fm (z_iload_n (j := 3) (by decide +kernel) rfl) (
  fm (z_bipush (n := 7) (by decide +kernel) (by decide)) (
  fm (z_icmp_ge (off := 31) (by decide +kernel) (by decide)) (
  fm (z_iload_n (j := 2) (by decide +kernel) rfl) (
  fm (z_iload_n (j := 1) (by decide +kernel) rfl) (
  fm (z_if_lt (off := 8) (by decide +kernel) (by decide)) (
  fm (z_iload_n (j := 3) (by decide +kernel) rfl) (
  fm (z_iload_n (j := 1) (by decide +kernel) rfl) (
  fm (z_icmp_ne (off := 12) (by decide +kernel) (by decide)) (
  fm (z_aload_n (j := 0) (by decide +kernel) rfl) (
  fm (z_getf (idx := 19) awX5 rfl (by decide) wd_4_15 rfl (by decide +kernel)) (
  fm (z_iload_n (j := 3) (by decide +kernel) rfl) (
  fm (z_iald (by decide +kernel)) (
  fm (z_goto (off := 4) (by decide +kernel) (by decide)) (
  fm (z_iconst (n := 0) (by decide +kernel) (by decide)) (
  fm (z_iadd (by decide +kernel)) (
  fm (z_istore_n (j := 2) (by decide +kernel) rfl (by decide)) (
  fm (z_iinc (n := 1) (by decide +kernel) (by decide) (by decide)) (
  fm (z_goto (off := (-31)) (by decide +kernel) (by decide)) (
  fm (z_iload_n (j := 2) (by decide +kernel) rfl) (
  fm (z_iret rfl (by decide +kernel)) (fn)))))))))))))))))))))))))))))))))))
def kX5_stay : Cd := [(0, s_aload 0 1), (1, s_pushi 0 2), (2, s_inv mX5_staying 5 1 5), (5, s_iret)]
set_option maxRecDepth 20000 in
theorem zX5_stay : ∀ q ∈ kX5_stay, Snd RX5 cX5_stay 1 (some .int) (rmM mX5_stay) q.1 q.2 :=
  fm (z_aload_n (j := 0) (by decide +kernel) rfl) (
  fm (z_iconst (n := 0) (by decide +kernel) (by decide)) (
  fm (z_inv (idx := 103) rfl (by decide +kernel) wd_4_174 wd_4_176 ws_41 wd_1_7 wd_4_177 (by decide +kernel) ⟨Nat.le_of_ble_eq_true rfl, Nat.le_of_ble_eq_true rfl⟩) (
  fm (z_iret rfl (by decide +kernel)) (fn))))
def kX5_staying : Cd := [(0, s_pushi 0 1), (1, s_istore 2 2), (2, s_pushi 0 3), (3, s_istore 3 4), (4, s_iload 3 5), (5, s_aload 0 6), (6, s_getf 5 0 9), (9, s_pushi 1 10), (10, s_iald 11), (11, s_icmp (fun x y => y ≤ x) 65 14), (14, s_aload 0 15), (15, s_iload 3 16), (16, s_pushi 2 17), (17, s_inv mX5_its 5 2 20), (20, s_iload 1 21), (21, s_if (fun x => x = 0) 28 24), (24, s_pushi 0 25), (25, s_goto 33), (28, s_aload 0 29), (29, s_iload 3 30), (30, s_inv mX5_sells 5 1 33), (33, s_bin (fun x y => x - y) 34), (34, s_istore 4 36), (36, s_iload 2 37), (37, s_iload 4 39), (39, s_if (fun x => x = 0) 50 42), (42, s_aload 0 43), (43, s_iload 3 44), (44, s_inv mX5_isGoing 5 1 47), (47, s_if (fun x => x = 0) 50 56), (50, s_pushi 1 51), (51, s_iload 3 52), (52, s_bin (fun x y => x <<< (y &&& 31)) 53), (53, s_goto 57), (56, s_pushi 0 57), (57, s_bin (fun x y => x ||| y) 58), (58, s_istore 2 59), (59, s_iinc 3 1 62), (62, s_goto 4), (65, s_iload 2 66), (66, s_iret)]
set_option maxRecDepth 20000 in
theorem zX5_staying : ∀ q ∈ kX5_staying, Snd RX5 cX5_staying 5 (some .int) (rmM mX5_staying) q.1 q.2 :=
  fm (z_iconst (n := 0) (by decide +kernel) (by decide)) (
  fm (z_istore_n (j := 2) (by decide +kernel) rfl (by decide)) (
  fm (z_iconst (n := 0) (by decide +kernel) (by decide)) (
  fm (z_istore_n (j := 3) (by decide +kernel) rfl (by decide)) (
  fm (z_iload_n (j := 3) (by decide +kernel) rfl) (
  fm (z_aload_n (j := 0) (by decide +kernel) rfl) (
  fm (z_getf (idx := 7) awX5 rfl (by decide) wd_4_12 rfl (by decide +kernel)) (
  fm (z_iconst (n := 1) (by decide +kernel) (by decide)) (
  fm (z_iald (by decide +kernel)) (
  fm (z_icmp_ge (off := 54) (by decide +kernel) (by decide)) (
  fm (z_aload_n (j := 0) (by decide +kernel) rfl) (
  fm (z_iload_n (j := 3) (by decide +kernel) rfl) (
  fm (z_iconst (n := 2) (by decide +kernel) (by decide)) (
  fm (z_inv (idx := 62) rfl (by decide +kernel) wd_4_98 wd_4_100 ws_30 wd_1_7 wd_4_101 (by decide +kernel) ⟨Nat.le_of_ble_eq_true rfl, Nat.le_of_ble_eq_true rfl⟩) (
  fm (z_iload_n (j := 1) (by decide +kernel) rfl) (
  fm (z_if_eq (off := 7) (by decide +kernel) (by decide)) (
  fm (z_iconst (n := 0) (by decide +kernel) (by decide)) (
  fm (z_goto (off := 8) (by decide +kernel) (by decide)) (
  fm (z_aload_n (j := 0) (by decide +kernel) rfl) (
  fm (z_iload_n (j := 3) (by decide +kernel) rfl) (
  fm (z_inv (idx := 96) rfl (by decide +kernel) wd_4_170 wd_4_172 ws_40 wd_1_7 wd_4_173 (by decide +kernel) ⟨Nat.le_of_ble_eq_true rfl, Nat.le_of_ble_eq_true rfl⟩) (
  fm (z_isub (by decide +kernel)) (
  fm (z_istore (i := 4) (by decide +kernel) (by decide)) (
  fm (z_iload_n (j := 2) (by decide +kernel) rfl) (
  fm (z_iload (i := 4) (by decide +kernel)) (
  fm (z_if_eq (off := 11) (by decide +kernel) (by decide)) (
  fm (z_aload_n (j := 0) (by decide +kernel) rfl) (
  fm (z_iload_n (j := 3) (by decide +kernel) rfl) (
  fm (z_inv (idx := 82) rfl (by decide +kernel) wd_4_123 wd_4_125 ws_34 wd_1_7 wd_4_126 (by decide +kernel) ⟨Nat.le_of_ble_eq_true rfl, Nat.le_of_ble_eq_true rfl⟩) (
  fm (z_if_ne (off := 9) (by decide +kernel) (by decide)) (
  fm (z_iconst (n := 1) (by decide +kernel) (by decide)) (
  fm (z_iload_n (j := 3) (by decide +kernel) rfl) (
  fm (z_ishl (by decide +kernel)) (
  fm (z_goto (off := 4) (by decide +kernel) (by decide)) (
  fm (z_iconst (n := 0) (by decide +kernel) (by decide)) (
  fm (z_ior (by decide +kernel)) (
  fm (z_istore_n (j := 2) (by decide +kernel) rfl (by decide)) (
  fm (z_iinc (n := 1) (by decide +kernel) (by decide) (by decide)) (
  fm (z_goto (off := (-58)) (by decide +kernel) (by decide)) (
  fm (z_iload_n (j := 2) (by decide +kernel) rfl) (
  fm (z_iret rfl (by decide +kernel)) (fn)))))))))))))))))))))))))))))))))))))))))
def kX5_sumOf : Cd := [(0, s_pushi 0 1), (1, s_istore 2 2), (2, s_pushi 0 3), (3, s_istore 3 4), (4, s_iload 3 5), (5, s_aload 0 6), (6, s_getf 5 0 9), (9, s_pushi 1 10), (10, s_iald 11), (11, s_icmp (fun x y => y ≤ x) 29 14), (14, s_iload 2 15), (15, s_aload 0 16), (16, s_iload 3 17), (17, s_iload 1 18), (18, s_inv mX5_its 5 2 21), (21, s_bin (fun x y => x + y) 22), (22, s_istore 2 23), (23, s_iinc 3 1 26), (26, s_goto 4), (29, s_iload 2 30), (30, s_iret)]
set_option maxRecDepth 20000 in
theorem zX5_sumOf : ∀ q ∈ kX5_sumOf, Snd RX5 cX5_sumOf 4 (some .int) (rmM mX5_sumOf) q.1 q.2 :=
  fm (z_iconst (n := 0) (by decide +kernel) (by decide)) (
  fm (z_istore_n (j := 2) (by decide +kernel) rfl (by decide)) (
  fm (z_iconst (n := 0) (by decide +kernel) (by decide)) (
  fm (z_istore_n (j := 3) (by decide +kernel) rfl (by decide)) (
  fm (z_iload_n (j := 3) (by decide +kernel) rfl) (
  fm (z_aload_n (j := 0) (by decide +kernel) rfl) (
  fm (z_getf (idx := 7) awX5 rfl (by decide) wd_4_12 rfl (by decide +kernel)) (
  fm (z_iconst (n := 1) (by decide +kernel) (by decide)) (
  fm (z_iald (by decide +kernel)) (
  fm (z_icmp_ge (off := 18) (by decide +kernel) (by decide)) (
  fm (z_iload_n (j := 2) (by decide +kernel) rfl) (
  fm (z_aload_n (j := 0) (by decide +kernel) rfl) (
  fm (z_iload_n (j := 3) (by decide +kernel) rfl) (
  fm (z_iload_n (j := 1) (by decide +kernel) rfl) (
  fm (z_inv (idx := 62) rfl (by decide +kernel) wd_4_98 wd_4_100 ws_30 wd_1_7 wd_4_101 (by decide +kernel) ⟨Nat.le_of_ble_eq_true rfl, Nat.le_of_ble_eq_true rfl⟩) (
  fm (z_iadd (by decide +kernel)) (
  fm (z_istore_n (j := 2) (by decide +kernel) rfl (by decide)) (
  fm (z_iinc (n := 1) (by decide +kernel) (by decide) (by decide)) (
  fm (z_goto (off := (-22)) (by decide +kernel) (by decide)) (
  fm (z_iload_n (j := 2) (by decide +kernel) rfl) (
  fm (z_iret rfl (by decide +kernel)) (fn)))))))))))))))))))))
def kX5_swap : Cd := [(0, s_aload 0 1), (1, s_iload 1 2), (2, s_inv mX5_isStall 5 1 5), (5, s_if (fun x => x = 0) 16 8), (8, s_aload 0 9), (9, s_iload 2 10), (10, s_inv mX5_isStall 5 1 13), (13, s_if (fun x => x = 0) 16 23), (16, s_aload 0 17), (17, s_pushi (-1000001) 19), (19, s_inv mX5_finds 5 1 22), (22, s_iret), (23, s_aload 0 24), (24, s_iload 1 25), (25, s_iload 2 26), (26, s_inv mX5_swaps 5 2 29), (29, s_pushi 1 30), (30, s_iret)]
set_option maxRecDepth 20000 in
theorem zX5_swap : ∀ q ∈ kX5_swap, Snd RX5 cX5_swap 3 (some .int) (rmM mX5_swap) q.1 q.2 :=
  fm (z_aload_n (j := 0) (by decide +kernel) rfl) (
  fm (z_iload_n (j := 1) (by decide +kernel) rfl) (
  fm (z_inv (idx := 76) rfl (by decide +kernel) wd_4_115 wd_4_117 ws_32 wd_1_7 wd_4_118 (by decide +kernel) ⟨Nat.le_of_ble_eq_true rfl, Nat.le_of_ble_eq_true rfl⟩) (
  fm (z_if_eq (off := 11) (by decide +kernel) (by decide)) (
  fm (z_aload_n (j := 0) (by decide +kernel) rfl) (
  fm (z_iload_n (j := 2) (by decide +kernel) rfl) (
  fm (z_inv (idx := 76) rfl (by decide +kernel) wd_4_115 wd_4_117 ws_32 wd_1_7 wd_4_118 (by decide +kernel) ⟨Nat.le_of_ble_eq_true rfl, Nat.le_of_ble_eq_true rfl⟩) (
  fm (z_if_ne (off := 10) (by decide +kernel) (by decide)) (
  fm (z_aload_n (j := 0) (by decide +kernel) rfl) (
  fm (z_ldc (i := 40) (by decide +kernel) wd_4_76) (
  fm (z_inv (idx := 58) rfl (by decide +kernel) wd_4_77 wd_4_79 ws_28 wd_1_7 wd_4_80 (by decide +kernel) ⟨Nat.le_of_ble_eq_true rfl, Nat.le_of_ble_eq_true rfl⟩) (
  fm (z_iret rfl (by decide +kernel)) (
  fm (z_aload_n (j := 0) (by decide +kernel) rfl) (
  fm (z_iload_n (j := 1) (by decide +kernel) rfl) (
  fm (z_iload_n (j := 2) (by decide +kernel) rfl) (
  fm (z_inv (idx := 87) rfl (by decide +kernel) wd_4_136 wd_4_138 ws_35 wd_1_7 wd_4_139 (by decide +kernel) ⟨Nat.le_of_ble_eq_true rfl, Nat.le_of_ble_eq_true rfl⟩) (
  fm (z_iconst (n := 1) (by decide +kernel) (by decide)) (
  fm (z_iret rfl (by decide +kernel)) (fn))))))))))))))))))
def kX5_swaps : Cd := [(0, s_aload 0 1), (1, s_iload 1 2), (2, s_pushi 1 3), (3, s_inv mX5_its 5 2 6), (6, s_istore 3 7), (7, s_aload 0 8), (8, s_getf 5 0 11), (11, s_iload 1 12), (12, s_pushi 1 13), (13, s_invS mX5_at 2 16), (16, s_aload 0 17), (17, s_iload 2 18), (18, s_pushi 1 19), (19, s_inv mX5_its 5 2 22), (22, s_iast 23), (23, s_aload 0 24), (24, s_getf 5 0 27), (27, s_iload 2 28), (28, s_pushi 1 29), (29, s_invS mX5_at 2 32), (32, s_iload 3 33), (33, s_iast 34), (34, s_vret)]
set_option maxRecDepth 20000 in
theorem zX5_swaps : ∀ q ∈ kX5_swaps, Snd RX5 cX5_swaps 4 none (rmM mX5_swaps) q.1 q.2 :=
  fm (z_aload_n (j := 0) (by decide +kernel) rfl) (
  fm (z_iload_n (j := 1) (by decide +kernel) rfl) (
  fm (z_iconst (n := 1) (by decide +kernel) (by decide)) (
  fm (z_inv (idx := 62) rfl (by decide +kernel) wd_4_98 wd_4_100 ws_30 wd_1_7 wd_4_101 (by decide +kernel) ⟨Nat.le_of_ble_eq_true rfl, Nat.le_of_ble_eq_true rfl⟩) (
  fm (z_istore_n (j := 3) (by decide +kernel) rfl (by decide)) (
  fm (z_aload_n (j := 0) (by decide +kernel) rfl) (
  fm (z_getf (idx := 7) awX5 rfl (by decide) wd_4_12 rfl (by decide +kernel)) (
  fm (z_iload_n (j := 1) (by decide +kernel) rfl) (
  fm (z_iconst (n := 1) (by decide +kernel) (by decide)) (
  fm (z_invS (idx := 48) (by decide +kernel) wd_4_102 wd_4_103 wd_1_7 wd_4_104 (by decide +kernel) ⟨Nat.le_of_ble_eq_true rfl, Nat.le_of_ble_eq_true rfl⟩) (
  fm (z_aload_n (j := 0) (by decide +kernel) rfl) (
  fm (z_iload_n (j := 2) (by decide +kernel) rfl) (
  fm (z_iconst (n := 1) (by decide +kernel) (by decide)) (
  fm (z_inv (idx := 62) rfl (by decide +kernel) wd_4_98 wd_4_100 ws_30 wd_1_7 wd_4_101 (by decide +kernel) ⟨Nat.le_of_ble_eq_true rfl, Nat.le_of_ble_eq_true rfl⟩) (
  fm (z_iast (by decide +kernel)) (
  fm (z_aload_n (j := 0) (by decide +kernel) rfl) (
  fm (z_getf (idx := 7) awX5 rfl (by decide) wd_4_12 rfl (by decide +kernel)) (
  fm (z_iload_n (j := 2) (by decide +kernel) rfl) (
  fm (z_iconst (n := 1) (by decide +kernel) (by decide)) (
  fm (z_invS (idx := 48) (by decide +kernel) wd_4_102 wd_4_103 wd_1_7 wd_4_104 (by decide +kernel) ⟨Nat.le_of_ble_eq_true rfl, Nat.le_of_ble_eq_true rfl⟩) (
  fm (z_iload_n (j := 3) (by decide +kernel) rfl) (
  fm (z_iast (by decide +kernel)) (
  fm (z_vret rfl (by decide +kernel)) (fn)))))))))))))))))))))))
def kX5_tear : Cd := [(0, s_aload 0 1), (1, s_getf 5 4 4), (4, s_if (fun x => x = 0) 11 7), (7, s_pushi 1 8), (8, s_goto 12), (11, s_pushi 0 12), (12, s_istore 1 13), (13, s_aload 0 14), (14, s_pushi 0 15), (15, s_putf .boolean 5 4 18), (18, s_iload 1 19), (19, s_iret)]
set_option maxRecDepth 20000 in
theorem zX5_tear : ∀ q ∈ kX5_tear, Snd RX5 cX5_tear 2 (some .int) (rmM mX5_tear) q.1 q.2 :=
  fm (z_aload_n (j := 0) (by decide +kernel) rfl) (
  fm (z_getf (idx := 310) awX5 rfl (by decide) wd_4_16 rfl (by decide +kernel)) (
  fm (z_if_eq (off := 7) (by decide +kernel) (by decide)) (
  fm (z_iconst (n := 1) (by decide +kernel) (by decide)) (
  fm (z_goto (off := 4) (by decide +kernel) (by decide)) (
  fm (z_iconst (n := 0) (by decide +kernel) (by decide)) (
  fm (z_istore_n (j := 1) (by decide +kernel) rfl (by decide)) (
  fm (z_aload_n (j := 0) (by decide +kernel) rfl) (
  fm (z_iconst (n := 0) (by decide +kernel) (by decide)) (
  fm (z_putf (idx := 310) tyX5 tyX5_ok nmX5 awX5 rfl (by decide) wd_4_16 rfl rfl (by decide +kernel) (by decide +kernel)) (
  fm (z_iload_n (j := 1) (by decide +kernel) rfl) (
  fm (z_iret rfl (by decide +kernel)) (fn))))))))))))
def kX5_text : Cd := [(0, s_aload 0 1), (1, s_inv mX5_saves 5 0 4), (4, s_aload 0 5), (5, s_pushi 0 6), (6, s_putf .int 5 10 9), (9, s_aload 0 10), (10, s_pushi 0 11), (11, s_putf .boolean 5 12 14), (14, s_aload 0 15), (15, s_inv mX5_token 5 0 18), (18, s_pushi 1 19), (19, s_istore 1 20), (20, s_aload 0 21), (21, s_inv mX5_item 5 0 24), (24, s_aload 0 25), (25, s_getf 5 12 28), (28, s_if (fun x => x = 0) 31 74), (31, s_aload 0 32), (32, s_getf 5 9 35), (35, s_aload 0 36), (36, s_getf 5 8 39), (39, s_icmp (fun x y => y ≤ x) 74 42), (42, s_aload 0 43), (43, s_aload 0 44), (44, s_aload 0 45), (45, s_getf 5 9 48), (48, s_inv mX5_byteAt 5 1 51), (51, s_pushi 59 53), (53, s_icmp (fun x y => x = y) 56 60), (56, s_pushi 1 57), (57, s_goto 61), (60, s_pushi 0 61), (61, s_inv mX5_needs 5 1 64), (64, s_aload 0 65), (65, s_inv mX5_item 5 0 68), (68, s_iinc 1 1 71), (71, s_goto 24), (74, s_aload 0 75), (75, s_pushi 0 76), (76, s_putf .int 5 8 79), (79, s_aload 0 80), (80, s_getf 5 12 83), (83, s_if (fun x => x = 0) 97 86), (86, s_aload 0 87), (87, s_inv mX5_putsBack 5 0 90), (90, s_pushi (-1) 91), (91, s_aload 0 92), (92, s_getf 5 9 95), (95, s_bin (fun x y => x - y) 96), (96, s_iret), (97, s_iload 1 98), (98, s_iret)]
set_option maxRecDepth 20000 in
theorem zX5_text : ∀ q ∈ kX5_text, Snd RX5 cX5_text 2 (some .int) (rmM mX5_text) q.1 q.2 :=
  fm (z_aload_n (j := 0) (by decide +kernel) rfl) (
  fm (z_inv (idx := 130) rfl (by decide +kernel) wd_4_200 wd_4_202 ws_43 wd_1_7 wd_4_203 (by decide +kernel) ⟨Nat.le_of_ble_eq_true rfl, Nat.le_of_ble_eq_true rfl⟩) (
  fm (z_aload_n (j := 0) (by decide +kernel) rfl) (
  fm (z_iconst (n := 0) (by decide +kernel) (by decide)) (
  fm (z_putf (idx := 203) tyX5 tyX5_ok nmX5 awX5 rfl (by decide) wd_4_22 rfl rfl (by decide +kernel) (by decide +kernel)) (
  fm (z_aload_n (j := 0) (by decide +kernel) rfl) (
  fm (z_iconst (n := 0) (by decide +kernel) (by decide)) (
  fm (z_putf (idx := 218) tyX5 tyX5_ok nmX5 awX5 rfl (by decide) wd_4_24 rfl rfl (by decide +kernel) (by decide +kernel)) (
  fm (z_aload_n (j := 0) (by decide +kernel) rfl) (
  fm (z_inv (idx := 222) rfl (by decide +kernel) wd_5_125 wd_5_127 ws_59 wd_1_7 wd_5_128 (by decide +kernel) ⟨Nat.le_of_ble_eq_true rfl, Nat.le_of_ble_eq_true rfl⟩) (
  fm (z_iconst (n := 1) (by decide +kernel) (by decide)) (
  fm (z_istore_n (j := 1) (by decide +kernel) rfl (by decide)) (
  fm (z_aload_n (j := 0) (by decide +kernel) rfl) (
  fm (z_inv (idx := 289) rfl (by decide +kernel) wd_5_142 wd_5_144 ws_61 wd_1_7 wd_5_145 (by decide +kernel) ⟨Nat.le_of_ble_eq_true rfl, Nat.le_of_ble_eq_true rfl⟩) (
  fm (z_aload_n (j := 0) (by decide +kernel) rfl) (
  fm (z_getf (idx := 218) awX5 rfl (by decide) wd_4_24 rfl (by decide +kernel)) (
  fm (z_if_ne (off := 46) (by decide +kernel) (by decide)) (
  fm (z_aload_n (j := 0) (by decide +kernel) rfl) (
  fm (z_getf (idx := 206) awX5 rfl (by decide) wd_4_21 rfl (by decide +kernel)) (
  fm (z_aload_n (j := 0) (by decide +kernel) rfl) (
  fm (z_getf (idx := 194) awX5 rfl (by decide) wd_4_20 rfl (by decide +kernel)) (
  fm (z_icmp_ge (off := 35) (by decide +kernel) (by decide)) (
  fm (z_aload_n (j := 0) (by decide +kernel) rfl) (
  fm (z_aload_n (j := 0) (by decide +kernel) rfl) (
  fm (z_aload_n (j := 0) (by decide +kernel) rfl) (
  fm (z_getf (idx := 206) awX5 rfl (by decide) wd_4_21 rfl (by decide +kernel)) (
  fm (z_inv (idx := 209) rfl (by decide +kernel) wd_5_129 wd_5_131 ws_60 wd_1_7 wd_5_132 (by decide +kernel) ⟨Nat.le_of_ble_eq_true rfl, Nat.le_of_ble_eq_true rfl⟩) (
  fm (z_bipush (n := 59) (by decide +kernel) (by decide)) (
  fm (z_icmp_ne (off := 7) (by decide +kernel) (by decide)) (
  fm (z_iconst (n := 1) (by decide +kernel) (by decide)) (
  fm (z_goto (off := 4) (by decide +kernel) (by decide)) (
  fm (z_iconst (n := 0) (by decide +kernel) (by decide)) (
  fm (z_inv (idx := 232) rfl (by decide +kernel) wd_5_168 wd_5_170 ws_65 wd_1_7 wd_5_171 (by decide +kernel) ⟨Nat.le_of_ble_eq_true rfl, Nat.le_of_ble_eq_true rfl⟩) (
  fm (z_aload_n (j := 0) (by decide +kernel) rfl) (
  fm (z_inv (idx := 289) rfl (by decide +kernel) wd_5_142 wd_5_144 ws_61 wd_1_7 wd_5_145 (by decide +kernel) ⟨Nat.le_of_ble_eq_true rfl, Nat.le_of_ble_eq_true rfl⟩) (
  fm (z_iinc (n := 1) (by decide +kernel) (by decide) (by decide)) (
  fm (z_goto (off := (-47)) (by decide +kernel) (by decide)) (
  fm (z_aload_n (j := 0) (by decide +kernel) rfl) (
  fm (z_iconst (n := 0) (by decide +kernel) (by decide)) (
  fm (z_putf (idx := 194) tyX5 tyX5_ok nmX5 awX5 rfl (by decide) wd_4_20 rfl rfl (by decide +kernel) (by decide +kernel)) (
  fm (z_aload_n (j := 0) (by decide +kernel) rfl) (
  fm (z_getf (idx := 218) awX5 rfl (by decide) wd_4_24 rfl (by decide +kernel)) (
  fm (z_if_eq (off := 14) (by decide +kernel) (by decide)) (
  fm (z_aload_n (j := 0) (by decide +kernel) rfl) (
  fm (z_inv (idx := 142) rfl (by decide +kernel) wd_4_216 wd_4_218 ws_47 wd_1_7 wd_4_219 (by decide +kernel) ⟨Nat.le_of_ble_eq_true rfl, Nat.le_of_ble_eq_true rfl⟩) (
  fm (z_iconst (n := (-1)) (by decide +kernel) (by decide)) (
  fm (z_aload_n (j := 0) (by decide +kernel) rfl) (
  fm (z_getf (idx := 206) awX5 rfl (by decide) wd_4_21 rfl (by decide +kernel)) (
  fm (z_isub (by decide +kernel)) (
  fm (z_iret rfl (by decide +kernel)) (
  fm (z_iload_n (j := 1) (by decide +kernel) rfl) (
  fm (z_iret rfl (by decide +kernel)) (fn))))))))))))))))))))))))))))))))))))))))))))))))))))
def kX5_there : Cd := [(0, s_iload 1 1), (1, s_invS mX5_isPlace 1 4), (4, s_if (fun x => x = 0) 14 7), (7, s_iload 2 8), (8, s_invS mX5_isSpan 1 11), (11, s_if (fun x => x = 0) 14 21), (14, s_aload 0 15), (15, s_pushi (-1000001) 17), (17, s_inv mX5_finds 5 1 20), (20, s_iret), (21, s_aload 0 22), (22, s_iload 2 23), (23, s_inv mX5_isTooLate 5 1 26), (26, s_if (fun x => x = 0) 36 29), (29, s_aload 0 30), (30, s_pushi (-1000005) 32), (32, s_inv mX5_finds 5 1 35), (35, s_iret), (36, s_aload 0 37), (37, s_inv mX5_saves 5 0 40), (40, s_aload 0 41), (41, s_iload 2 42), (42, s_inv mX5_hoursGo 5 1 45), (45, s_istore 3 46), (46, s_aload 0 47), (47, s_iload 1 48), (48, s_inv mX5_stallAt 5 1 51), (51, s_istore 4 53), (53, s_aload 0 54), (54, s_inv mX5_putsBack 5 0 57), (57, s_iload 4 59), (59, s_if (fun x => 0 ≤ x) 71 62), (62, s_aload 0 63), (63, s_pushi (-1000004) 65), (65, s_inv mX5_finds 5 1 68), (68, s_goto 73), (71, s_iload 4 73), (73, s_iret)]
set_option maxRecDepth 20000 in
theorem zX5_there : ∀ q ∈ kX5_there, Snd RX5 cX5_there 5 (some .int) (rmM mX5_there) q.1 q.2 :=
  fm (z_iload_n (j := 1) (by decide +kernel) rfl) (
  fm (z_invS (idx := 52) (by decide +kernel) wd_4_68 wd_4_69 wd_1_7 wd_4_70 (by decide +kernel) ⟨Nat.le_of_ble_eq_true rfl, Nat.le_of_ble_eq_true rfl⟩) (
  fm (z_if_eq (off := 10) (by decide +kernel) (by decide)) (
  fm (z_iload_n (j := 2) (by decide +kernel) rfl) (
  fm (z_invS (idx := 127) (by decide +kernel) wd_4_196 wd_4_197 wd_1_7 wd_4_198 (by decide +kernel) ⟨Nat.le_of_ble_eq_true rfl, Nat.le_of_ble_eq_true rfl⟩) (
  fm (z_if_ne (off := 10) (by decide +kernel) (by decide)) (
  fm (z_aload_n (j := 0) (by decide +kernel) rfl) (
  fm (z_ldc (i := 40) (by decide +kernel) wd_4_76) (
  fm (z_inv (idx := 58) rfl (by decide +kernel) wd_4_77 wd_4_79 ws_28 wd_1_7 wd_4_80 (by decide +kernel) ⟨Nat.le_of_ble_eq_true rfl, Nat.le_of_ble_eq_true rfl⟩) (
  fm (z_iret rfl (by decide +kernel)) (
  fm (z_aload_n (j := 0) (by decide +kernel) rfl) (
  fm (z_iload_n (j := 2) (by decide +kernel) rfl) (
  fm (z_inv (idx := 119) rfl (by decide +kernel) wd_4_158 wd_4_160 ws_37 wd_1_7 wd_4_161 (by decide +kernel) ⟨Nat.le_of_ble_eq_true rfl, Nat.le_of_ble_eq_true rfl⟩) (
  fm (z_if_eq (off := 10) (by decide +kernel) (by decide)) (
  fm (z_aload_n (j := 0) (by decide +kernel) rfl) (
  fm (z_ldc (i := 70) (by decide +kernel) wd_4_105) (
  fm (z_inv (idx := 58) rfl (by decide +kernel) wd_4_77 wd_4_79 ws_28 wd_1_7 wd_4_80 (by decide +kernel) ⟨Nat.le_of_ble_eq_true rfl, Nat.le_of_ble_eq_true rfl⟩) (
  fm (z_iret rfl (by decide +kernel)) (
  fm (z_aload_n (j := 0) (by decide +kernel) rfl) (
  fm (z_inv (idx := 130) rfl (by decide +kernel) wd_4_200 wd_4_202 ws_43 wd_1_7 wd_4_203 (by decide +kernel) ⟨Nat.le_of_ble_eq_true rfl, Nat.le_of_ble_eq_true rfl⟩) (
  fm (z_aload_n (j := 0) (by decide +kernel) rfl) (
  fm (z_iload_n (j := 2) (by decide +kernel) rfl) (
  fm (z_inv (idx := 122) rfl (by decide +kernel) wd_4_162 wd_4_164 ws_38 wd_1_7 wd_4_165 (by decide +kernel) ⟨Nat.le_of_ble_eq_true rfl, Nat.le_of_ble_eq_true rfl⟩) (
  fm (z_istore_n (j := 3) (by decide +kernel) rfl (by decide)) (
  fm (z_aload_n (j := 0) (by decide +kernel) rfl) (
  fm (z_iload_n (j := 1) (by decide +kernel) rfl) (
  fm (z_inv (idx := 67) rfl (by decide +kernel) wd_4_94 wd_4_96 ws_29 wd_1_7 wd_4_97 (by decide +kernel) ⟨Nat.le_of_ble_eq_true rfl, Nat.le_of_ble_eq_true rfl⟩) (
  fm (z_istore (i := 4) (by decide +kernel) (by decide)) (
  fm (z_aload_n (j := 0) (by decide +kernel) rfl) (
  fm (z_inv (idx := 142) rfl (by decide +kernel) wd_4_216 wd_4_218 ws_47 wd_1_7 wd_4_219 (by decide +kernel) ⟨Nat.le_of_ble_eq_true rfl, Nat.le_of_ble_eq_true rfl⟩) (
  fm (z_iload (i := 4) (by decide +kernel)) (
  fm (z_if_ge (off := 12) (by decide +kernel) (by decide)) (
  fm (z_aload_n (j := 0) (by decide +kernel) rfl) (
  fm (z_ldc (i := 145) (by decide +kernel) wd_4_224) (
  fm (z_inv (idx := 58) rfl (by decide +kernel) wd_4_77 wd_4_79 ws_28 wd_1_7 wd_4_80 (by decide +kernel) ⟨Nat.le_of_ble_eq_true rfl, Nat.le_of_ble_eq_true rfl⟩) (
  fm (z_goto (off := 5) (by decide +kernel) (by decide)) (
  fm (z_iload (i := 4) (by decide +kernel)) (
  fm (z_iret rfl (by decide +kernel)) (fn))))))))))))))))))))))))))))))))))))))
def kX5_thief : Cd := [(0, s_iload 1 1), (1, s_invS mX5_isPlace 1 4), (4, s_if (fun x => x = 0) 14 7), (7, s_iload 2 8), (8, s_invS mX5_isSpan 1 11), (11, s_if (fun x => x = 0) 14 21), (14, s_aload 0 15), (15, s_pushi (-1000001) 17), (17, s_inv mX5_finds 5 1 20), (20, s_iret), (21, s_aload 0 22), (22, s_iload 2 23), (23, s_inv mX5_isTooLate 5 1 26), (26, s_if (fun x => x = 0) 36 29), (29, s_aload 0 30), (30, s_pushi (-1000005) 32), (32, s_inv mX5_finds 5 1 35), (35, s_iret), (36, s_aload 0 37), (37, s_inv mX5_saves 5 0 40), (40, s_aload 0 41), (41, s_iload 2 42), (42, s_inv mX5_hoursGo 5 1 45), (45, s_istore 3 46), (46, s_aload 0 47), (47, s_iload 1 48), (48, s_inv mX5_stallAt 5 1 51), (51, s_istore 4 53), (53, s_iload 4 55), (55, s_if (fun x => 0 ≤ x) 62 58), (58, s_pushi 0 59), (59, s_goto 69), (62, s_aload 0 63), (63, s_iload 4 65), (65, s_pushi 2 66), (66, s_inv mX5_its 5 2 69), (69, s_istore 5 71), (71, s_aload 0 72), (72, s_inv mX5_putsBack 5 0 75), (75, s_iload 5 77), (77, s_iret)]
set_option maxRecDepth 20000 in
theorem zX5_thief : ∀ q ∈ kX5_thief, Snd RX5 cX5_thief 6 (some .int) (rmM mX5_thief) q.1 q.2 :=
  fm (z_iload_n (j := 1) (by decide +kernel) rfl) (
  fm (z_invS (idx := 52) (by decide +kernel) wd_4_68 wd_4_69 wd_1_7 wd_4_70 (by decide +kernel) ⟨Nat.le_of_ble_eq_true rfl, Nat.le_of_ble_eq_true rfl⟩) (
  fm (z_if_eq (off := 10) (by decide +kernel) (by decide)) (
  fm (z_iload_n (j := 2) (by decide +kernel) rfl) (
  fm (z_invS (idx := 127) (by decide +kernel) wd_4_196 wd_4_197 wd_1_7 wd_4_198 (by decide +kernel) ⟨Nat.le_of_ble_eq_true rfl, Nat.le_of_ble_eq_true rfl⟩) (
  fm (z_if_ne (off := 10) (by decide +kernel) (by decide)) (
  fm (z_aload_n (j := 0) (by decide +kernel) rfl) (
  fm (z_ldc (i := 40) (by decide +kernel) wd_4_76) (
  fm (z_inv (idx := 58) rfl (by decide +kernel) wd_4_77 wd_4_79 ws_28 wd_1_7 wd_4_80 (by decide +kernel) ⟨Nat.le_of_ble_eq_true rfl, Nat.le_of_ble_eq_true rfl⟩) (
  fm (z_iret rfl (by decide +kernel)) (
  fm (z_aload_n (j := 0) (by decide +kernel) rfl) (
  fm (z_iload_n (j := 2) (by decide +kernel) rfl) (
  fm (z_inv (idx := 119) rfl (by decide +kernel) wd_4_158 wd_4_160 ws_37 wd_1_7 wd_4_161 (by decide +kernel) ⟨Nat.le_of_ble_eq_true rfl, Nat.le_of_ble_eq_true rfl⟩) (
  fm (z_if_eq (off := 10) (by decide +kernel) (by decide)) (
  fm (z_aload_n (j := 0) (by decide +kernel) rfl) (
  fm (z_ldc (i := 70) (by decide +kernel) wd_4_105) (
  fm (z_inv (idx := 58) rfl (by decide +kernel) wd_4_77 wd_4_79 ws_28 wd_1_7 wd_4_80 (by decide +kernel) ⟨Nat.le_of_ble_eq_true rfl, Nat.le_of_ble_eq_true rfl⟩) (
  fm (z_iret rfl (by decide +kernel)) (
  fm (z_aload_n (j := 0) (by decide +kernel) rfl) (
  fm (z_inv (idx := 130) rfl (by decide +kernel) wd_4_200 wd_4_202 ws_43 wd_1_7 wd_4_203 (by decide +kernel) ⟨Nat.le_of_ble_eq_true rfl, Nat.le_of_ble_eq_true rfl⟩) (
  fm (z_aload_n (j := 0) (by decide +kernel) rfl) (
  fm (z_iload_n (j := 2) (by decide +kernel) rfl) (
  fm (z_inv (idx := 122) rfl (by decide +kernel) wd_4_162 wd_4_164 ws_38 wd_1_7 wd_4_165 (by decide +kernel) ⟨Nat.le_of_ble_eq_true rfl, Nat.le_of_ble_eq_true rfl⟩) (
  fm (z_istore_n (j := 3) (by decide +kernel) rfl (by decide)) (
  fm (z_aload_n (j := 0) (by decide +kernel) rfl) (
  fm (z_iload_n (j := 1) (by decide +kernel) rfl) (
  fm (z_inv (idx := 67) rfl (by decide +kernel) wd_4_94 wd_4_96 ws_29 wd_1_7 wd_4_97 (by decide +kernel) ⟨Nat.le_of_ble_eq_true rfl, Nat.le_of_ble_eq_true rfl⟩) (
  fm (z_istore (i := 4) (by decide +kernel) (by decide)) (
  fm (z_iload (i := 4) (by decide +kernel)) (
  fm (z_if_ge (off := 7) (by decide +kernel) (by decide)) (
  fm (z_iconst (n := 0) (by decide +kernel) (by decide)) (
  fm (z_goto (off := 10) (by decide +kernel) (by decide)) (
  fm (z_aload_n (j := 0) (by decide +kernel) rfl) (
  fm (z_iload (i := 4) (by decide +kernel)) (
  fm (z_iconst (n := 2) (by decide +kernel) (by decide)) (
  fm (z_inv (idx := 62) rfl (by decide +kernel) wd_4_98 wd_4_100 ws_30 wd_1_7 wd_4_101 (by decide +kernel) ⟨Nat.le_of_ble_eq_true rfl, Nat.le_of_ble_eq_true rfl⟩) (
  fm (z_istore (i := 5) (by decide +kernel) (by decide)) (
  fm (z_aload_n (j := 0) (by decide +kernel) rfl) (
  fm (z_inv (idx := 142) rfl (by decide +kernel) wd_4_216 wd_4_218 ws_47 wd_1_7 wd_4_219 (by decide +kernel) ⟨Nat.le_of_ble_eq_true rfl, Nat.le_of_ble_eq_true rfl⟩) (
  fm (z_iload (i := 5) (by decide +kernel)) (
  fm (z_iret rfl (by decide +kernel)) (fn)))))))))))))))))))))))))))))))))))))))))
def kX5_throwAway : Cd := [(0, s_aload 0 1), (1, s_iload 1 2), (2, s_inv mX5_isStall 5 1 5), (5, s_if (fun x => x = 0) 15 8), (8, s_iload 2 9), (9, s_invS mX5_isDays 1 12), (12, s_if (fun x => x = 0) 15 22), (15, s_aload 0 16), (16, s_pushi (-1000001) 18), (18, s_inv mX5_finds 5 1 21), (21, s_iret), (22, s_aload 0 23), (23, s_iload 2 24), (24, s_inv mX5_isTooLate 5 1 27), (27, s_if (fun x => x = 0) 37 30), (30, s_aload 0 31), (31, s_pushi (-1000005) 33), (33, s_inv mX5_finds 5 1 36), (36, s_iret), (37, s_aload 0 38), (38, s_inv mX5_saves 5 0 41), (41, s_pushi 0 42), (42, s_istore 3 43), (43, s_pushi (-1) 44), (44, s_istore 4 46), (46, s_pushi 0 47), (47, s_istore 5 49), (49, s_iload 5 51), (51, s_aload 0 52), (52, s_getf 5 2 55), (55, s_iload 1 56), (56, s_pushi 2 57), (57, s_invS mX5_at 2 60), (60, s_iald 61), (61, s_icmp (fun x y => y < x) 123 64), (64, s_aload 0 65), (65, s_getf 5 0 68), (68, s_iload 1 69), (69, s_pushi 2 70), (70, s_invS mX5_at 2 73), (73, s_dup2 74), (74, s_iald 75), (75, s_iload 5 77), (77, s_bin (fun x y => x - y) 78), (78, s_iast 79), (79, s_aload 0 80), (80, s_iload 1 81), (81, s_iload 2 82), (82, s_inv mX5_coinOf 5 2 85), (85, s_istore 6 87), (87, s_iload 6 89), (89, s_iload 4 91), (91, s_icmp (fun x y => x ≤ y) 99 94), (94, s_iload 5 96), (96, s_goto 100), (99, s_iload 3 100), (100, s_istore 3 101), (101, s_iload 6 103), (103, s_iload 4 105), (105, s_icmp (fun x y => x ≤ y) 113 108), (108, s_iload 6 110), (110, s_goto 115), (113, s_iload 4 115), (115, s_istore 4 117), (117, s_iinc 5 1 120), (120, s_goto 49), (123, s_iload 3 124), (124, s_iret)]
set_option maxRecDepth 20000 in
theorem zX5_throwAway : ∀ q ∈ kX5_throwAway, Snd RX5 cX5_throwAway 7 (some .int) (rmM mX5_throwAway) q.1 q.2 :=
  fm (z_aload_n (j := 0) (by decide +kernel) rfl) (
  fm (z_iload_n (j := 1) (by decide +kernel) rfl) (
  fm (z_inv (idx := 76) rfl (by decide +kernel) wd_4_115 wd_4_117 ws_32 wd_1_7 wd_4_118 (by decide +kernel) ⟨Nat.le_of_ble_eq_true rfl, Nat.le_of_ble_eq_true rfl⟩) (
  fm (z_if_eq (off := 10) (by decide +kernel) (by decide)) (
  fm (z_iload_n (j := 2) (by decide +kernel) rfl) (
  fm (z_invS (idx := 169) (by decide +kernel) wd_5_39 wd_5_40 wd_1_7 wd_5_41 (by decide +kernel) ⟨Nat.le_of_ble_eq_true rfl, Nat.le_of_ble_eq_true rfl⟩) (
  fm (z_if_ne (off := 10) (by decide +kernel) (by decide)) (
  fm (z_aload_n (j := 0) (by decide +kernel) rfl) (
  fm (z_ldc (i := 40) (by decide +kernel) wd_4_76) (
  fm (z_inv (idx := 58) rfl (by decide +kernel) wd_4_77 wd_4_79 ws_28 wd_1_7 wd_4_80 (by decide +kernel) ⟨Nat.le_of_ble_eq_true rfl, Nat.le_of_ble_eq_true rfl⟩) (
  fm (z_iret rfl (by decide +kernel)) (
  fm (z_aload_n (j := 0) (by decide +kernel) rfl) (
  fm (z_iload_n (j := 2) (by decide +kernel) rfl) (
  fm (z_inv (idx := 119) rfl (by decide +kernel) wd_4_158 wd_4_160 ws_37 wd_1_7 wd_4_161 (by decide +kernel) ⟨Nat.le_of_ble_eq_true rfl, Nat.le_of_ble_eq_true rfl⟩) (
  fm (z_if_eq (off := 10) (by decide +kernel) (by decide)) (
  fm (z_aload_n (j := 0) (by decide +kernel) rfl) (
  fm (z_ldc (i := 70) (by decide +kernel) wd_4_105) (
  fm (z_inv (idx := 58) rfl (by decide +kernel) wd_4_77 wd_4_79 ws_28 wd_1_7 wd_4_80 (by decide +kernel) ⟨Nat.le_of_ble_eq_true rfl, Nat.le_of_ble_eq_true rfl⟩) (
  fm (z_iret rfl (by decide +kernel)) (
  fm (z_aload_n (j := 0) (by decide +kernel) rfl) (
  fm (z_inv (idx := 130) rfl (by decide +kernel) wd_4_200 wd_4_202 ws_43 wd_1_7 wd_4_203 (by decide +kernel) ⟨Nat.le_of_ble_eq_true rfl, Nat.le_of_ble_eq_true rfl⟩) (
  fm (z_iconst (n := 0) (by decide +kernel) (by decide)) (
  fm (z_istore_n (j := 3) (by decide +kernel) rfl (by decide)) (
  fm (z_iconst (n := (-1)) (by decide +kernel) (by decide)) (
  fm (z_istore (i := 4) (by decide +kernel) (by decide)) (
  fm (z_iconst (n := 0) (by decide +kernel) (by decide)) (
  fm (z_istore (i := 5) (by decide +kernel) (by decide)) (
  fm (z_iload (i := 5) (by decide +kernel)) (
  fm (z_aload_n (j := 0) (by decide +kernel) rfl) (
  fm (z_getf (idx := 16) awX5 rfl (by decide) wd_4_14 rfl (by decide +kernel)) (
  fm (z_iload_n (j := 1) (by decide +kernel) rfl) (
  fm (z_iconst (n := 2) (by decide +kernel) (by decide)) (
  fm (z_invS (idx := 48) (by decide +kernel) wd_4_102 wd_4_103 wd_1_7 wd_4_104 (by decide +kernel) ⟨Nat.le_of_ble_eq_true rfl, Nat.le_of_ble_eq_true rfl⟩) (
  fm (z_iald (by decide +kernel)) (
  fm (z_icmp_gt (off := 62) (by decide +kernel) (by decide)) (
  fm (z_aload_n (j := 0) (by decide +kernel) rfl) (
  fm (z_getf (idx := 7) awX5 rfl (by decide) wd_4_12 rfl (by decide +kernel)) (
  fm (z_iload_n (j := 1) (by decide +kernel) rfl) (
  fm (z_iconst (n := 2) (by decide +kernel) (by decide)) (
  fm (z_invS (idx := 48) (by decide +kernel) wd_4_102 wd_4_103 wd_1_7 wd_4_104 (by decide +kernel) ⟨Nat.le_of_ble_eq_true rfl, Nat.le_of_ble_eq_true rfl⟩) (
  fm (z_dup2 (by decide +kernel)) (
  fm (z_iald (by decide +kernel)) (
  fm (z_iload (i := 5) (by decide +kernel)) (
  fm (z_isub (by decide +kernel)) (
  fm (z_iast (by decide +kernel)) (
  fm (z_aload_n (j := 0) (by decide +kernel) rfl) (
  fm (z_iload_n (j := 1) (by decide +kernel) rfl) (
  fm (z_iload_n (j := 2) (by decide +kernel) rfl) (
  fm (z_inv (idx := 172) rfl (by decide +kernel) wd_5_42 wd_5_44 ws_53 wd_1_7 wd_5_45 (by decide +kernel) ⟨Nat.le_of_ble_eq_true rfl, Nat.le_of_ble_eq_true rfl⟩) (
  fm (z_istore (i := 6) (by decide +kernel) (by decide)) (
  fm (z_iload (i := 6) (by decide +kernel)) (
  fm (z_iload (i := 4) (by decide +kernel)) (
  fm (z_icmp_le (off := 8) (by decide +kernel) (by decide)) (
  fm (z_iload (i := 5) (by decide +kernel)) (
  fm (z_goto (off := 4) (by decide +kernel) (by decide)) (
  fm (z_iload_n (j := 3) (by decide +kernel) rfl) (
  fm (z_istore_n (j := 3) (by decide +kernel) rfl (by decide)) (
  fm (z_iload (i := 6) (by decide +kernel)) (
  fm (z_iload (i := 4) (by decide +kernel)) (
  fm (z_icmp_le (off := 8) (by decide +kernel) (by decide)) (
  fm (z_iload (i := 6) (by decide +kernel)) (
  fm (z_goto (off := 5) (by decide +kernel) (by decide)) (
  fm (z_iload (i := 4) (by decide +kernel)) (
  fm (z_istore (i := 4) (by decide +kernel) (by decide)) (
  fm (z_iinc (n := 1) (by decide +kernel) (by decide) (by decide)) (
  fm (z_goto (off := (-71)) (by decide +kernel) (by decide)) (
  fm (z_iload_n (j := 3) (by decide +kernel) rfl) (
  fm (z_iret rfl (by decide +kernel)) (fn))))))))))))))))))))))))))))))))))))))))))))))))))))))))))))))))))))
def kX5_token : Cd := [(0, s_aload 0 1), (1, s_aload 0 2), (2, s_getf 5 10 5), (5, s_putf .int 5 9 8), (8, s_aload 0 9), (9, s_aload 0 10), (10, s_getf 5 9 13), (13, s_inv mX5_byteAt 5 1 16), (16, s_pushi 32 18), (18, s_icmp (fun x y => x = y) 21 34), (21, s_aload 0 22), (22, s_dup 23), (23, s_getf 5 9 26), (26, s_pushi 1 27), (27, s_bin (fun x y => x + y) 28), (28, s_putf .int 5 9 31), (31, s_goto 8), (34, s_aload 0 35), (35, s_aload 0 36), (36, s_getf 5 9 39), (39, s_inv mX5_byteAt 5 1 42), (42, s_invS mX5_isLetter 1 45), (45, s_istore 1 46), (46, s_aload 0 47), (47, s_aload 0 48), (48, s_getf 5 9 51), (51, s_inv mX5_byteAt 5 1 54), (54, s_invS mX5_isDigit 1 57), (57, s_istore 2 58), (58, s_aload 0 59), (59, s_aload 0 60), (60, s_getf 5 9 63), (63, s_aload 0 64), (64, s_getf 5 8 67), (67, s_icmp (fun x y => y ≤ x) 79 70), (70, s_aload 0 71), (71, s_getf 5 9 74), (74, s_pushi 1 75), (75, s_bin (fun x y => x + y) 76), (76, s_goto 83), (79, s_aload 0 80), (80, s_getf 5 9 83), (83, s_putf .int 5 10 86), (86, s_iload 1 87), (87, s_if (fun x => x = 0) 104 90), (90, s_aload 0 91), (91, s_aload 0 92), (92, s_getf 5 10 95), (95, s_inv mX5_byteAt 5 1 98), (98, s_invS mX5_isLetter 1 101), (101, s_if (fun x => x = 0) 104 122), (104, s_iload 2 105), (105, s_if (fun x => x = 0) 135 108), (108, s_aload 0 109), (109, s_aload 0 110), (110, s_getf 5 10 113), (113, s_inv mX5_byteAt 5 1 116), (116, s_invS mX5_isDigit 1 119), (119, s_if (fun x => x = 0) 135 122), (122, s_aload 0 123), (123, s_dup 124), (124, s_getf 5 10 127), (127, s_pushi 1 128), (128, s_bin (fun x y => x + y) 129), (129, s_putf .int 5 10 132), (132, s_goto 86), (135, s_vret)]
set_option maxRecDepth 20000 in
theorem zX5_token : ∀ q ∈ kX5_token, Snd RX5 cX5_token 3 none (rmM mX5_token) q.1 q.2 :=
  fm (z_aload_n (j := 0) (by decide +kernel) rfl) (
  fm (z_aload_n (j := 0) (by decide +kernel) rfl) (
  fm (z_getf (idx := 203) awX5 rfl (by decide) wd_4_22 rfl (by decide +kernel)) (
  fm (z_putf (idx := 206) tyX5 tyX5_ok nmX5 awX5 rfl (by decide) wd_4_21 rfl rfl (by decide +kernel) (by decide +kernel)) (
  fm (z_aload_n (j := 0) (by decide +kernel) rfl) (
  fm (z_aload_n (j := 0) (by decide +kernel) rfl) (
  fm (z_getf (idx := 206) awX5 rfl (by decide) wd_4_21 rfl (by decide +kernel)) (
  fm (z_inv (idx := 209) rfl (by decide +kernel) wd_5_129 wd_5_131 ws_60 wd_1_7 wd_5_132 (by decide +kernel) ⟨Nat.le_of_ble_eq_true rfl, Nat.le_of_ble_eq_true rfl⟩) (
  fm (z_bipush (n := 32) (by decide +kernel) (by decide)) (
  fm (z_icmp_ne (off := 16) (by decide +kernel) (by decide)) (
  fm (z_aload_n (j := 0) (by decide +kernel) rfl) (
  fm (z_dup (by decide +kernel)) (
  fm (z_getf (idx := 206) awX5 rfl (by decide) wd_4_21 rfl (by decide +kernel)) (
  fm (z_iconst (n := 1) (by decide +kernel) (by decide)) (
  fm (z_iadd (by decide +kernel)) (
  fm (z_putf (idx := 206) tyX5 tyX5_ok nmX5 awX5 rfl (by decide) wd_4_21 rfl rfl (by decide +kernel) (by decide +kernel)) (
  fm (z_goto (off := (-23)) (by decide +kernel) (by decide)) (
  fm (z_aload_n (j := 0) (by decide +kernel) rfl) (
  fm (z_aload_n (j := 0) (by decide +kernel) rfl) (
  fm (z_getf (idx := 206) awX5 rfl (by decide) wd_4_21 rfl (by decide +kernel)) (
  fm (z_inv (idx := 209) rfl (by decide +kernel) wd_5_129 wd_5_131 ws_60 wd_1_7 wd_5_132 (by decide +kernel) ⟨Nat.le_of_ble_eq_true rfl, Nat.le_of_ble_eq_true rfl⟩) (
  fm (z_invS (idx := 212) (by decide +kernel) wd_5_133 wd_5_134 wd_1_7 wd_5_135 (by decide +kernel) ⟨Nat.le_of_ble_eq_true rfl, Nat.le_of_ble_eq_true rfl⟩) (
  fm (z_istore_n (j := 1) (by decide +kernel) rfl (by decide)) (
  fm (z_aload_n (j := 0) (by decide +kernel) rfl) (
  fm (z_aload_n (j := 0) (by decide +kernel) rfl) (
  fm (z_getf (idx := 206) awX5 rfl (by decide) wd_4_21 rfl (by decide +kernel)) (
  fm (z_inv (idx := 209) rfl (by decide +kernel) wd_5_129 wd_5_131 ws_60 wd_1_7 wd_5_132 (by decide +kernel) ⟨Nat.le_of_ble_eq_true rfl, Nat.le_of_ble_eq_true rfl⟩) (
  fm (z_invS (idx := 215) (by decide +kernel) wd_5_138 wd_5_139 wd_1_7 wd_5_140 (by decide +kernel) ⟨Nat.le_of_ble_eq_true rfl, Nat.le_of_ble_eq_true rfl⟩) (
  fm (z_istore_n (j := 2) (by decide +kernel) rfl (by decide)) (
  fm (z_aload_n (j := 0) (by decide +kernel) rfl) (
  fm (z_aload_n (j := 0) (by decide +kernel) rfl) (
  fm (z_getf (idx := 206) awX5 rfl (by decide) wd_4_21 rfl (by decide +kernel)) (
  fm (z_aload_n (j := 0) (by decide +kernel) rfl) (
  fm (z_getf (idx := 194) awX5 rfl (by decide) wd_4_20 rfl (by decide +kernel)) (
  fm (z_icmp_ge (off := 12) (by decide +kernel) (by decide)) (
  fm (z_aload_n (j := 0) (by decide +kernel) rfl) (
  fm (z_getf (idx := 206) awX5 rfl (by decide) wd_4_21 rfl (by decide +kernel)) (
  fm (z_iconst (n := 1) (by decide +kernel) (by decide)) (
  fm (z_iadd (by decide +kernel)) (
  fm (z_goto (off := 7) (by decide +kernel) (by decide)) (
  fm (z_aload_n (j := 0) (by decide +kernel) rfl) (
  fm (z_getf (idx := 206) awX5 rfl (by decide) wd_4_21 rfl (by decide +kernel)) (
  fm (z_putf (idx := 203) tyX5 tyX5_ok nmX5 awX5 rfl (by decide) wd_4_22 rfl rfl (by decide +kernel) (by decide +kernel)) (
  fm (z_iload_n (j := 1) (by decide +kernel) rfl) (
  fm (z_if_eq (off := 17) (by decide +kernel) (by decide)) (
  fm (z_aload_n (j := 0) (by decide +kernel) rfl) (
  fm (z_aload_n (j := 0) (by decide +kernel) rfl) (
  fm (z_getf (idx := 203) awX5 rfl (by decide) wd_4_22 rfl (by decide +kernel)) (
  fm (z_inv (idx := 209) rfl (by decide +kernel) wd_5_129 wd_5_131 ws_60 wd_1_7 wd_5_132 (by decide +kernel) ⟨Nat.le_of_ble_eq_true rfl, Nat.le_of_ble_eq_true rfl⟩) (
  fm (z_invS (idx := 212) (by decide +kernel) wd_5_133 wd_5_134 wd_1_7 wd_5_135 (by decide +kernel) ⟨Nat.le_of_ble_eq_true rfl, Nat.le_of_ble_eq_true rfl⟩) (
  fm (z_if_ne (off := 21) (by decide +kernel) (by decide)) (
  fm (z_iload_n (j := 2) (by decide +kernel) rfl) (
  fm (z_if_eq (off := 30) (by decide +kernel) (by decide)) (
  fm (z_aload_n (j := 0) (by decide +kernel) rfl) (
  fm (z_aload_n (j := 0) (by decide +kernel) rfl) (
  fm (z_getf (idx := 203) awX5 rfl (by decide) wd_4_22 rfl (by decide +kernel)) (
  fm (z_inv (idx := 209) rfl (by decide +kernel) wd_5_129 wd_5_131 ws_60 wd_1_7 wd_5_132 (by decide +kernel) ⟨Nat.le_of_ble_eq_true rfl, Nat.le_of_ble_eq_true rfl⟩) (
  fm (z_invS (idx := 215) (by decide +kernel) wd_5_138 wd_5_139 wd_1_7 wd_5_140 (by decide +kernel) ⟨Nat.le_of_ble_eq_true rfl, Nat.le_of_ble_eq_true rfl⟩) (
  fm (z_if_eq (off := 16) (by decide +kernel) (by decide)) (
  fm (z_aload_n (j := 0) (by decide +kernel) rfl) (
  fm (z_dup (by decide +kernel)) (
  fm (z_getf (idx := 203) awX5 rfl (by decide) wd_4_22 rfl (by decide +kernel)) (
  fm (z_iconst (n := 1) (by decide +kernel) (by decide)) (
  fm (z_iadd (by decide +kernel)) (
  fm (z_putf (idx := 203) tyX5 tyX5_ok nmX5 awX5 rfl (by decide) wd_4_22 rfl rfl (by decide +kernel) (by decide +kernel)) (
  fm (z_goto (off := (-46)) (by decide +kernel) (by decide)) (
  fm (z_vret rfl (by decide +kernel)) (fn)))))))))))))))))))))))))))))))))))))))))))))))))))))))))))))))))))
def kX5_undo : Cd := [(0, s_aload 0 1), (1, s_getf 5 4 4), (4, s_if (fun x => x = 0) 7 14), (7, s_aload 0 8), (8, s_pushi (-1000004) 10), (10, s_inv mX5_finds 5 1 13), (13, s_iret), (14, s_pushi 0 15), (15, s_istore 1 16), (16, s_iload 1 17), (17, s_pushi 78 19), (19, s_icmp (fun x y => y ≤ x) 40 22), (22, s_aload 0 23), (23, s_getf 5 0 26), (26, s_iload 1 27), (27, s_aload 0 28), (28, s_getf 5 1 31), (31, s_iload 1 32), (32, s_iald 33), (33, s_iast 34), (34, s_iinc 1 1 37), (37, s_goto 16), (40, s_aload 0 41), (41, s_getf 5 0 44), (44, s_pushi 0 45), (45, s_iald 46), (46, s_iret)]
set_option maxRecDepth 20000 in
theorem zX5_undo : ∀ q ∈ kX5_undo, Snd RX5 cX5_undo 2 (some .int) (rmM mX5_undo) q.1 q.2 :=
  fm (z_aload_n (j := 0) (by decide +kernel) rfl) (
  fm (z_getf (idx := 310) awX5 rfl (by decide) wd_4_16 rfl (by decide +kernel)) (
  fm (z_if_ne (off := 10) (by decide +kernel) (by decide)) (
  fm (z_aload_n (j := 0) (by decide +kernel) rfl) (
  fm (z_ldc (i := 145) (by decide +kernel) wd_4_224) (
  fm (z_inv (idx := 58) rfl (by decide +kernel) wd_4_77 wd_4_79 ws_28 wd_1_7 wd_4_80 (by decide +kernel) ⟨Nat.le_of_ble_eq_true rfl, Nat.le_of_ble_eq_true rfl⟩) (
  fm (z_iret rfl (by decide +kernel)) (
  fm (z_iconst (n := 0) (by decide +kernel) (by decide)) (
  fm (z_istore_n (j := 1) (by decide +kernel) rfl (by decide)) (
  fm (z_iload_n (j := 1) (by decide +kernel) rfl) (
  fm (z_bipush (n := 78) (by decide +kernel) (by decide)) (
  fm (z_icmp_ge (off := 21) (by decide +kernel) (by decide)) (
  fm (z_aload_n (j := 0) (by decide +kernel) rfl) (
  fm (z_getf (idx := 7) awX5 rfl (by decide) wd_4_12 rfl (by decide +kernel)) (
  fm (z_iload_n (j := 1) (by decide +kernel) rfl) (
  fm (z_aload_n (j := 0) (by decide +kernel) rfl) (
  fm (z_getf (idx := 13) awX5 rfl (by decide) wd_4_13 rfl (by decide +kernel)) (
  fm (z_iload_n (j := 1) (by decide +kernel) rfl) (
  fm (z_iald (by decide +kernel)) (
  fm (z_iast (by decide +kernel)) (
  fm (z_iinc (n := 1) (by decide +kernel) (by decide) (by decide)) (
  fm (z_goto (off := (-21)) (by decide +kernel) (by decide)) (
  fm (z_aload_n (j := 0) (by decide +kernel) rfl) (
  fm (z_getf (idx := 7) awX5 rfl (by decide) wd_4_12 rfl (by decide +kernel)) (
  fm (z_iconst (n := 0) (by decide +kernel) (by decide)) (
  fm (z_iald (by decide +kernel)) (
  fm (z_iret rfl (by decide +kernel)) (fn)))))))))))))))))))))))))))
def kX5_visits : Cd := [(0, s_iload 1 1), (1, s_invS mX5_isPlace 1 4), (4, s_if (fun x => x = 0) 19 7), (7, s_iload 2 8), (8, s_i2l 9), (9, s_pushl 0 10), (10, s_pushl 20 13), (13, s_invS mX5_in 3 16), (16, s_if (fun x => x = 0) 19 26), (19, s_aload 0 20), (20, s_pushi (-1000001) 22), (22, s_inv mX5_finds 5 1 25), (25, s_iret), (26, s_aload 0 27), (27, s_getf 5 0 30), (30, s_pushi 4 31), (31, s_iload 1 32), (32, s_bin (fun x y => x + y) 33), (33, s_iald 34), (34, s_istore 3 35), (35, s_aload 0 36), (36, s_getf 5 0 39), (39, s_pushi 4 40), (40, s_iload 1 41), (41, s_bin (fun x y => x + y) 42), (42, s_iload 2 43), (43, s_iast 44), (44, s_iload 3 45), (45, s_iret)]
set_option maxRecDepth 20000 in
theorem zX5_visits : ∀ q ∈ kX5_visits, Snd RX5 cX5_visits 4 (some .int) (rmM mX5_visits) q.1 q.2 :=
  fm (z_iload_n (j := 1) (by decide +kernel) rfl) (
  fm (z_invS (idx := 52) (by decide +kernel) wd_4_68 wd_4_69 wd_1_7 wd_4_70 (by decide +kernel) ⟨Nat.le_of_ble_eq_true rfl, Nat.le_of_ble_eq_true rfl⟩) (
  fm (z_if_eq (off := 15) (by decide +kernel) (by decide)) (
  fm (z_iload_n (j := 2) (by decide +kernel) rfl) (
  fm (z_i2l (by decide +kernel)) (
  fm (z_lconst (n := 0) (by decide +kernel) (by decide)) (
  fm (z_ldc2 (i := 56) (by decide +kernel) wd_4_75) (
  fm (z_invS (idx := 43) (by decide +kernel) wd_4_72 wd_4_73 wd_1_7 wd_4_74 (by decide +kernel) ⟨Nat.le_of_ble_eq_true rfl, Nat.le_of_ble_eq_true rfl⟩) (
  fm (z_if_ne (off := 10) (by decide +kernel) (by decide)) (
  fm (z_aload_n (j := 0) (by decide +kernel) rfl) (
  fm (z_ldc (i := 40) (by decide +kernel) wd_4_76) (
  fm (z_inv (idx := 58) rfl (by decide +kernel) wd_4_77 wd_4_79 ws_28 wd_1_7 wd_4_80 (by decide +kernel) ⟨Nat.le_of_ble_eq_true rfl, Nat.le_of_ble_eq_true rfl⟩) (
  fm (z_iret rfl (by decide +kernel)) (
  fm (z_aload_n (j := 0) (by decide +kernel) rfl) (
  fm (z_getf (idx := 7) awX5 rfl (by decide) wd_4_12 rfl (by decide +kernel)) (
  fm (z_iconst (n := 4) (by decide +kernel) (by decide)) (
  fm (z_iload_n (j := 1) (by decide +kernel) rfl) (
  fm (z_iadd (by decide +kernel)) (
  fm (z_iald (by decide +kernel)) (
  fm (z_istore_n (j := 3) (by decide +kernel) rfl (by decide)) (
  fm (z_aload_n (j := 0) (by decide +kernel) rfl) (
  fm (z_getf (idx := 7) awX5 rfl (by decide) wd_4_12 rfl (by decide +kernel)) (
  fm (z_iconst (n := 4) (by decide +kernel) (by decide)) (
  fm (z_iload_n (j := 1) (by decide +kernel) rfl) (
  fm (z_iadd (by decide +kernel)) (
  fm (z_iload_n (j := 2) (by decide +kernel) rfl) (
  fm (z_iast (by decide +kernel)) (
  fm (z_iload_n (j := 3) (by decide +kernel) rfl) (
  fm (z_iret rfl (by decide +kernel)) (fn)))))))))))))))))))))))))))))
def kX5_visitsItem : Cd := [(0, s_aload 0 1), (1, s_pushi 1 2), (2, s_pushi 0 3), (3, s_pushi 11 5), (5, s_pushi 0 6), (6, s_inv mX5_perhaps 5 4 9), (9, s_istore 1 10), (10, s_aload 0 11), (11, s_aload 0 12), (12, s_inv mX5_word 5 0 15), (15, s_pushl 655 18), (18, s_lcmp 19), (19, s_if (fun x => x = 0) 22 26), (22, s_pushi 1 23), (23, s_goto 27), (26, s_pushi 0 27), (27, s_iload 1 28), (28, s_pushi 11 30), (30, s_iload 1 31), (31, s_inv mX5_perhaps 5 4 34), (34, s_istore 2 35), (35, s_aload 0 36), (36, s_aload 0 37), (37, s_inv mX5_word 5 0 40), (40, s_pushl 1605 43), (43, s_lcmp 44), (44, s_if (fun x => x = 0) 47 51), (47, s_pushi 1 48), (48, s_goto 52), (51, s_pushi 0 52), (52, s_inv mX5_needs 5 1 55), (55, s_aload 0 56), (56, s_pushi 0 57), (57, s_pushi 20 59), (59, s_inv mX5_number 5 2 62), (62, s_iload 1 63), (63, s_istore 3 64), (64, s_iload 3 65), (65, s_iload 2 66), (66, s_icmp (fun x y => y < x) 94 69), (69, s_aload 0 70), (70, s_getf 5 12 73), (73, s_if (fun x => x = 0) 76 94), (76, s_aload 0 77), (77, s_getf 5 0 80), (80, s_pushi 4 81), (81, s_iload 3 82), (82, s_bin (fun x y => x + y) 83), (83, s_aload 0 84), (84, s_getf 5 11 87), (87, s_iast 88), (88, s_iinc 3 1 91), (91, s_goto 64), (94, s_vret)]
set_option maxRecDepth 20000 in
theorem zX5_visitsItem : ∀ q ∈ kX5_visitsItem, Snd RX5 cX5_visitsItem 4 none (rmM mX5_visitsItem) q.1 q.2 :=
  fm (z_aload_n (j := 0) (by decide +kernel) rfl) (
  fm (z_iconst (n := 1) (by decide +kernel) (by decide)) (
  fm (z_iconst (n := 0) (by decide +kernel) (by decide)) (
  fm (z_bipush (n := 11) (by decide +kernel) (by decide)) (
  fm (z_iconst (n := 0) (by decide +kernel) (by decide)) (
  fm (z_inv (idx := 263) rfl (by decide +kernel) wd_5_178 wd_5_180 ws_67 wd_1_7 wd_5_181 (by decide +kernel) ⟨Nat.le_of_ble_eq_true rfl, Nat.le_of_ble_eq_true rfl⟩) (
  fm (z_istore_n (j := 1) (by decide +kernel) rfl (by decide)) (
  fm (z_aload_n (j := 0) (by decide +kernel) rfl) (
  fm (z_aload_n (j := 0) (by decide +kernel) rfl) (
  fm (z_inv (idx := 236) rfl (by decide +kernel) wd_5_150 wd_5_152 ws_63 wd_1_7 wd_5_153 (by decide +kernel) ⟨Nat.le_of_ble_eq_true rfl, Nat.le_of_ble_eq_true rfl⟩) (
  fm (z_ldc2 (i := 267) (by decide +kernel) wd_5_191) (
  fm (z_lcmp (by decide +kernel)) (
  fm (z_if_ne (off := 7) (by decide +kernel) (by decide)) (
  fm (z_iconst (n := 1) (by decide +kernel) (by decide)) (
  fm (z_goto (off := 4) (by decide +kernel) (by decide)) (
  fm (z_iconst (n := 0) (by decide +kernel) (by decide)) (
  fm (z_iload_n (j := 1) (by decide +kernel) rfl) (
  fm (z_bipush (n := 11) (by decide +kernel) (by decide)) (
  fm (z_iload_n (j := 1) (by decide +kernel) rfl) (
  fm (z_inv (idx := 263) rfl (by decide +kernel) wd_5_178 wd_5_180 ws_67 wd_1_7 wd_5_181 (by decide +kernel) ⟨Nat.le_of_ble_eq_true rfl, Nat.le_of_ble_eq_true rfl⟩) (
  fm (z_istore_n (j := 2) (by decide +kernel) rfl (by decide)) (
  fm (z_aload_n (j := 0) (by decide +kernel) rfl) (
  fm (z_aload_n (j := 0) (by decide +kernel) rfl) (
  fm (z_inv (idx := 236) rfl (by decide +kernel) wd_5_150 wd_5_152 ws_63 wd_1_7 wd_5_153 (by decide +kernel) ⟨Nat.le_of_ble_eq_true rfl, Nat.le_of_ble_eq_true rfl⟩) (
  fm (z_ldc2 (i := 269) (by decide +kernel) wd_5_192) (
  fm (z_lcmp (by decide +kernel)) (
  fm (z_if_ne (off := 7) (by decide +kernel) (by decide)) (
  fm (z_iconst (n := 1) (by decide +kernel) (by decide)) (
  fm (z_goto (off := 4) (by decide +kernel) (by decide)) (
  fm (z_iconst (n := 0) (by decide +kernel) (by decide)) (
  fm (z_inv (idx := 232) rfl (by decide +kernel) wd_5_168 wd_5_170 ws_65 wd_1_7 wd_5_171 (by decide +kernel) ⟨Nat.le_of_ble_eq_true rfl, Nat.le_of_ble_eq_true rfl⟩) (
  fm (z_aload_n (j := 0) (by decide +kernel) rfl) (
  fm (z_iconst (n := 0) (by decide +kernel) (by decide)) (
  fm (z_bipush (n := 20) (by decide +kernel) (by decide)) (
  fm (z_inv (idx := 254) rfl (by decide +kernel) wd_5_182 wd_5_184 ws_68 wd_1_7 wd_5_185 (by decide +kernel) ⟨Nat.le_of_ble_eq_true rfl, Nat.le_of_ble_eq_true rfl⟩) (
  fm (z_iload_n (j := 1) (by decide +kernel) rfl) (
  fm (z_istore_n (j := 3) (by decide +kernel) rfl (by decide)) (
  fm (z_iload_n (j := 3) (by decide +kernel) rfl) (
  fm (z_iload_n (j := 2) (by decide +kernel) rfl) (
  fm (z_icmp_gt (off := 28) (by decide +kernel) (by decide)) (
  fm (z_aload_n (j := 0) (by decide +kernel) rfl) (
  fm (z_getf (idx := 218) awX5 rfl (by decide) wd_4_24 rfl (by decide +kernel)) (
  fm (z_if_ne (off := 21) (by decide +kernel) (by decide)) (
  fm (z_aload_n (j := 0) (by decide +kernel) rfl) (
  fm (z_getf (idx := 7) awX5 rfl (by decide) wd_4_12 rfl (by decide +kernel)) (
  fm (z_iconst (n := 4) (by decide +kernel) (by decide)) (
  fm (z_iload_n (j := 3) (by decide +kernel) rfl) (
  fm (z_iadd (by decide +kernel)) (
  fm (z_aload_n (j := 0) (by decide +kernel) rfl) (
  fm (z_getf (idx := 229) awX5 rfl (by decide) wd_4_23 rfl (by decide +kernel)) (
  fm (z_iast (by decide +kernel)) (
  fm (z_iinc (n := 1) (by decide +kernel) (by decide) (by decide)) (
  fm (z_goto (off := (-27)) (by decide +kernel) (by decide)) (
  fm (z_vret rfl (by decide +kernel)) (fn))))))))))))))))))))))))))))))))))))))))))))))))))))))
def kX5_visitsOfAll : Cd := [(0, s_pushi 0 1), (1, s_istore 1 2), (2, s_pushi 0 3), (3, s_istore 2 4), (4, s_iload 2 5), (5, s_pushi 12 7), (7, s_icmp (fun x y => y ≤ x) 27 10), (10, s_iload 1 11), (11, s_aload 0 12), (12, s_getf 5 0 15), (15, s_pushi 4 16), (16, s_iload 2 17), (17, s_bin (fun x y => x + y) 18), (18, s_iald 19), (19, s_bin (fun x y => x + y) 20), (20, s_istore 1 21), (21, s_iinc 2 1 24), (24, s_goto 4), (27, s_iload 1 28), (28, s_iret)]
set_option maxRecDepth 20000 in
theorem zX5_visitsOfAll : ∀ q ∈ kX5_visitsOfAll, Snd RX5 cX5_visitsOfAll 3 (some .int) (rmM mX5_visitsOfAll) q.1 q.2 :=
  fm (z_iconst (n := 0) (by decide +kernel) (by decide)) (
  fm (z_istore_n (j := 1) (by decide +kernel) rfl (by decide)) (
  fm (z_iconst (n := 0) (by decide +kernel) (by decide)) (
  fm (z_istore_n (j := 2) (by decide +kernel) rfl (by decide)) (
  fm (z_iload_n (j := 2) (by decide +kernel) rfl) (
  fm (z_bipush (n := 12) (by decide +kernel) (by decide)) (
  fm (z_icmp_ge (off := 20) (by decide +kernel) (by decide)) (
  fm (z_iload_n (j := 1) (by decide +kernel) rfl) (
  fm (z_aload_n (j := 0) (by decide +kernel) rfl) (
  fm (z_getf (idx := 7) awX5 rfl (by decide) wd_4_12 rfl (by decide +kernel)) (
  fm (z_iconst (n := 4) (by decide +kernel) (by decide)) (
  fm (z_iload_n (j := 2) (by decide +kernel) rfl) (
  fm (z_iadd (by decide +kernel)) (
  fm (z_iald (by decide +kernel)) (
  fm (z_iadd (by decide +kernel)) (
  fm (z_istore_n (j := 1) (by decide +kernel) rfl (by decide)) (
  fm (z_iinc (n := 1) (by decide +kernel) (by decide) (by decide)) (
  fm (z_goto (off := (-20)) (by decide +kernel) (by decide)) (
  fm (z_iload_n (j := 1) (by decide +kernel) rfl) (
  fm (z_iret rfl (by decide +kernel)) (fn))))))))))))))))))))
def kX5_when : Cd := [(0, s_aload 0 1), (1, s_iload 1 2), (2, s_inv mX5_isStall 5 1 5), (5, s_if (fun x => x = 0) 15 8), (8, s_iload 2 9), (9, s_invS mX5_isPlace 1 12), (12, s_if (fun x => x = 0) 15 22), (15, s_aload 0 16), (16, s_pushi (-1000001) 18), (18, s_inv mX5_finds 5 1 21), (21, s_iret), (22, s_aload 0 23), (23, s_pushi 96 25), (25, s_inv mX5_isTooLate 5 1 28), (28, s_if (fun x => x = 0) 38 31), (31, s_aload 0 32), (32, s_pushi (-1000005) 34), (34, s_inv mX5_finds 5 1 37), (37, s_iret), (38, s_aload 0 39), (39, s_inv mX5_saves 5 0 42), (42, s_pushi 0 43), (43, s_istore 3 44), (44, s_iload 3 45), (45, s_pushi 97 47), (47, s_icmp (fun x y => y ≤ x) 72 50), (50, s_aload 0 51), (51, s_iload 1 52), (52, s_pushi 1 53), (53, s_inv mX5_its 5 2 56), (56, s_iload 2 57), (57, s_icmp (fun x y => x = y) 72 60), (60, s_aload 0 61), (61, s_inv mX5_hour 5 0 64), (64, s_istore 4 66), (66, s_iinc 3 1 69), (69, s_goto 44), (72, s_aload 0 73), (73, s_inv mX5_putsBack 5 0 76), (76, s_iload 3 77), (77, s_pushi 96 79), (79, s_icmp (fun x y => x ≤ y) 91 82), (82, s_aload 0 83), (83, s_pushi (-1000004) 85), (85, s_inv mX5_finds 5 1 88), (88, s_goto 92), (91, s_iload 3 92), (92, s_iret)]
set_option maxRecDepth 20000 in
theorem zX5_when : ∀ q ∈ kX5_when, Snd RX5 cX5_when 5 (some .int) (rmM mX5_when) q.1 q.2 :=
  fm (z_aload_n (j := 0) (by decide +kernel) rfl) (
  fm (z_iload_n (j := 1) (by decide +kernel) rfl) (
  fm (z_inv (idx := 76) rfl (by decide +kernel) wd_4_115 wd_4_117 ws_32 wd_1_7 wd_4_118 (by decide +kernel) ⟨Nat.le_of_ble_eq_true rfl, Nat.le_of_ble_eq_true rfl⟩) (
  fm (z_if_eq (off := 10) (by decide +kernel) (by decide)) (
  fm (z_iload_n (j := 2) (by decide +kernel) rfl) (
  fm (z_invS (idx := 52) (by decide +kernel) wd_4_68 wd_4_69 wd_1_7 wd_4_70 (by decide +kernel) ⟨Nat.le_of_ble_eq_true rfl, Nat.le_of_ble_eq_true rfl⟩) (
  fm (z_if_ne (off := 10) (by decide +kernel) (by decide)) (
  fm (z_aload_n (j := 0) (by decide +kernel) rfl) (
  fm (z_ldc (i := 40) (by decide +kernel) wd_4_76) (
  fm (z_inv (idx := 58) rfl (by decide +kernel) wd_4_77 wd_4_79 ws_28 wd_1_7 wd_4_80 (by decide +kernel) ⟨Nat.le_of_ble_eq_true rfl, Nat.le_of_ble_eq_true rfl⟩) (
  fm (z_iret rfl (by decide +kernel)) (
  fm (z_aload_n (j := 0) (by decide +kernel) rfl) (
  fm (z_bipush (n := 96) (by decide +kernel) (by decide)) (
  fm (z_inv (idx := 119) rfl (by decide +kernel) wd_4_158 wd_4_160 ws_37 wd_1_7 wd_4_161 (by decide +kernel) ⟨Nat.le_of_ble_eq_true rfl, Nat.le_of_ble_eq_true rfl⟩) (
  fm (z_if_eq (off := 10) (by decide +kernel) (by decide)) (
  fm (z_aload_n (j := 0) (by decide +kernel) rfl) (
  fm (z_ldc (i := 70) (by decide +kernel) wd_4_105) (
  fm (z_inv (idx := 58) rfl (by decide +kernel) wd_4_77 wd_4_79 ws_28 wd_1_7 wd_4_80 (by decide +kernel) ⟨Nat.le_of_ble_eq_true rfl, Nat.le_of_ble_eq_true rfl⟩) (
  fm (z_iret rfl (by decide +kernel)) (
  fm (z_aload_n (j := 0) (by decide +kernel) rfl) (
  fm (z_inv (idx := 130) rfl (by decide +kernel) wd_4_200 wd_4_202 ws_43 wd_1_7 wd_4_203 (by decide +kernel) ⟨Nat.le_of_ble_eq_true rfl, Nat.le_of_ble_eq_true rfl⟩) (
  fm (z_iconst (n := 0) (by decide +kernel) (by decide)) (
  fm (z_istore_n (j := 3) (by decide +kernel) rfl (by decide)) (
  fm (z_iload_n (j := 3) (by decide +kernel) rfl) (
  fm (z_bipush (n := 97) (by decide +kernel) (by decide)) (
  fm (z_icmp_ge (off := 25) (by decide +kernel) (by decide)) (
  fm (z_aload_n (j := 0) (by decide +kernel) rfl) (
  fm (z_iload_n (j := 1) (by decide +kernel) rfl) (
  fm (z_iconst (n := 1) (by decide +kernel) (by decide)) (
  fm (z_inv (idx := 62) rfl (by decide +kernel) wd_4_98 wd_4_100 ws_30 wd_1_7 wd_4_101 (by decide +kernel) ⟨Nat.le_of_ble_eq_true rfl, Nat.le_of_ble_eq_true rfl⟩) (
  fm (z_iload_n (j := 2) (by decide +kernel) rfl) (
  fm (z_icmp_eq (off := 15) (by decide +kernel) (by decide)) (
  fm (z_aload_n (j := 0) (by decide +kernel) rfl) (
  fm (z_inv (idx := 113) rfl (by decide +kernel) wd_4_166 wd_4_168 ws_39 wd_1_7 wd_4_169 (by decide +kernel) ⟨Nat.le_of_ble_eq_true rfl, Nat.le_of_ble_eq_true rfl⟩) (
  fm (z_istore (i := 4) (by decide +kernel) (by decide)) (
  fm (z_iinc (n := 1) (by decide +kernel) (by decide) (by decide)) (
  fm (z_goto (off := (-25)) (by decide +kernel) (by decide)) (
  fm (z_aload_n (j := 0) (by decide +kernel) rfl) (
  fm (z_inv (idx := 142) rfl (by decide +kernel) wd_4_216 wd_4_218 ws_47 wd_1_7 wd_4_219 (by decide +kernel) ⟨Nat.le_of_ble_eq_true rfl, Nat.le_of_ble_eq_true rfl⟩) (
  fm (z_iload_n (j := 3) (by decide +kernel) rfl) (
  fm (z_bipush (n := 96) (by decide +kernel) (by decide)) (
  fm (z_icmp_le (off := 12) (by decide +kernel) (by decide)) (
  fm (z_aload_n (j := 0) (by decide +kernel) rfl) (
  fm (z_ldc (i := 145) (by decide +kernel) wd_4_224) (
  fm (z_inv (idx := 58) rfl (by decide +kernel) wd_4_77 wd_4_79 ws_28 wd_1_7 wd_4_80 (by decide +kernel) ⟨Nat.le_of_ble_eq_true rfl, Nat.le_of_ble_eq_true rfl⟩) (
  fm (z_goto (off := 4) (by decide +kernel) (by decide)) (
  fm (z_iload_n (j := 3) (by decide +kernel) rfl) (
  fm (z_iret rfl (by decide +kernel)) (fn))))))))))))))))))))))))))))))))))))))))))))))))
def kX5_wipe : Cd := [(0, s_aload 0 1), (1, s_getf 5 8 4), (4, s_istore 1 5), (5, s_aload 0 6), (6, s_pushi 0 7), (7, s_putf .int 5 8 10), (10, s_iload 1 11), (11, s_iret)]
set_option maxRecDepth 20000 in
theorem zX5_wipe : ∀ q ∈ kX5_wipe, Snd RX5 cX5_wipe 2 (some .int) (rmM mX5_wipe) q.1 q.2 :=
  fm (z_aload_n (j := 0) (by decide +kernel) rfl) (
  fm (z_getf (idx := 194) awX5 rfl (by decide) wd_4_20 rfl (by decide +kernel)) (
  fm (z_istore_n (j := 1) (by decide +kernel) rfl (by decide)) (
  fm (z_aload_n (j := 0) (by decide +kernel) rfl) (
  fm (z_iconst (n := 0) (by decide +kernel) (by decide)) (
  fm (z_putf (idx := 194) tyX5 tyX5_ok nmX5 awX5 rfl (by decide) wd_4_20 rfl rfl (by decide +kernel) (by decide +kernel)) (
  fm (z_iload_n (j := 1) (by decide +kernel) rfl) (
  fm (z_iret rfl (by decide +kernel)) (fn))))))))
def kX5_wishes : Cd := [(0, s_aload 0 1), (1, s_iload 1 2), (2, s_inv mX5_isStall 5 1 5), (5, s_if (fun x => x = 0) 15 8), (8, s_iload 2 9), (9, s_invS mX5_isDays 1 12), (12, s_if (fun x => x = 0) 15 22), (15, s_aload 0 16), (16, s_pushi (-1000001) 18), (18, s_inv mX5_finds 5 1 21), (21, s_iret), (22, s_aload 0 23), (23, s_iload 2 24), (24, s_inv mX5_isTooLate 5 1 27), (27, s_if (fun x => x = 0) 37 30), (30, s_aload 0 31), (31, s_pushi (-1000005) 33), (33, s_inv mX5_finds 5 1 36), (36, s_iret), (37, s_aload 0 38), (38, s_inv mX5_saves 5 0 41), (41, s_iload 1 42), (42, s_istore 3 43), (43, s_aload 0 44), (44, s_iload 1 45), (45, s_iload 2 46), (46, s_inv mX5_coinOf 5 2 49), (49, s_istore 4 51), (51, s_pushi 0 52), (52, s_istore 5 54), (54, s_iload 5 56), (56, s_aload 0 57), (57, s_getf 5 0 60), (60, s_pushi 1 61), (61, s_iald 62), (62, s_icmp (fun x y => y ≤ x) 116 65), (65, s_aload 0 66), (66, s_iload 1 67), (67, s_iload 5 69), (69, s_inv mX5_swaps 5 2 72), (72, s_aload 0 73), (73, s_iload 1 74), (74, s_iload 2 75), (75, s_inv mX5_coinOf 5 2 78), (78, s_istore 6 80), (80, s_iload 6 82), (82, s_iload 4 84), (84, s_icmp (fun x y => x ≤ y) 92 87), (87, s_iload 5 89), (89, s_goto 93), (92, s_iload 3 93), (93, s_istore 3 94), (94, s_iload 6 96), (96, s_iload 4 98), (98, s_icmp (fun x y => x ≤ y) 106 101), (101, s_iload 6 103), (103, s_goto 108), (106, s_iload 4 108), (108, s_istore 4 110), (110, s_iinc 5 1 113), (113, s_goto 54), (116, s_iload 3 117), (117, s_iret)]
set_option maxRecDepth 20000 in
theorem zX5_wishes : ∀ q ∈ kX5_wishes, Snd RX5 cX5_wishes 7 (some .int) (rmM mX5_wishes) q.1 q.2 :=
  fm (z_aload_n (j := 0) (by decide +kernel) rfl) (
  fm (z_iload_n (j := 1) (by decide +kernel) rfl) (
  fm (z_inv (idx := 76) rfl (by decide +kernel) wd_4_115 wd_4_117 ws_32 wd_1_7 wd_4_118 (by decide +kernel) ⟨Nat.le_of_ble_eq_true rfl, Nat.le_of_ble_eq_true rfl⟩) (
  fm (z_if_eq (off := 10) (by decide +kernel) (by decide)) (
  fm (z_iload_n (j := 2) (by decide +kernel) rfl) (
  fm (z_invS (idx := 169) (by decide +kernel) wd_5_39 wd_5_40 wd_1_7 wd_5_41 (by decide +kernel) ⟨Nat.le_of_ble_eq_true rfl, Nat.le_of_ble_eq_true rfl⟩) (
  fm (z_if_ne (off := 10) (by decide +kernel) (by decide)) (
  fm (z_aload_n (j := 0) (by decide +kernel) rfl) (
  fm (z_ldc (i := 40) (by decide +kernel) wd_4_76) (
  fm (z_inv (idx := 58) rfl (by decide +kernel) wd_4_77 wd_4_79 ws_28 wd_1_7 wd_4_80 (by decide +kernel) ⟨Nat.le_of_ble_eq_true rfl, Nat.le_of_ble_eq_true rfl⟩) (
  fm (z_iret rfl (by decide +kernel)) (
  fm (z_aload_n (j := 0) (by decide +kernel) rfl) (
  fm (z_iload_n (j := 2) (by decide +kernel) rfl) (
  fm (z_inv (idx := 119) rfl (by decide +kernel) wd_4_158 wd_4_160 ws_37 wd_1_7 wd_4_161 (by decide +kernel) ⟨Nat.le_of_ble_eq_true rfl, Nat.le_of_ble_eq_true rfl⟩) (
  fm (z_if_eq (off := 10) (by decide +kernel) (by decide)) (
  fm (z_aload_n (j := 0) (by decide +kernel) rfl) (
  fm (z_ldc (i := 70) (by decide +kernel) wd_4_105) (
  fm (z_inv (idx := 58) rfl (by decide +kernel) wd_4_77 wd_4_79 ws_28 wd_1_7 wd_4_80 (by decide +kernel) ⟨Nat.le_of_ble_eq_true rfl, Nat.le_of_ble_eq_true rfl⟩) (
  fm (z_iret rfl (by decide +kernel)) (
  fm (z_aload_n (j := 0) (by decide +kernel) rfl) (
  fm (z_inv (idx := 130) rfl (by decide +kernel) wd_4_200 wd_4_202 ws_43 wd_1_7 wd_4_203 (by decide +kernel) ⟨Nat.le_of_ble_eq_true rfl, Nat.le_of_ble_eq_true rfl⟩) (
  fm (z_iload_n (j := 1) (by decide +kernel) rfl) (
  fm (z_istore_n (j := 3) (by decide +kernel) rfl (by decide)) (
  fm (z_aload_n (j := 0) (by decide +kernel) rfl) (
  fm (z_iload_n (j := 1) (by decide +kernel) rfl) (
  fm (z_iload_n (j := 2) (by decide +kernel) rfl) (
  fm (z_inv (idx := 172) rfl (by decide +kernel) wd_5_42 wd_5_44 ws_53 wd_1_7 wd_5_45 (by decide +kernel) ⟨Nat.le_of_ble_eq_true rfl, Nat.le_of_ble_eq_true rfl⟩) (
  fm (z_istore (i := 4) (by decide +kernel) (by decide)) (
  fm (z_iconst (n := 0) (by decide +kernel) (by decide)) (
  fm (z_istore (i := 5) (by decide +kernel) (by decide)) (
  fm (z_iload (i := 5) (by decide +kernel)) (
  fm (z_aload_n (j := 0) (by decide +kernel) rfl) (
  fm (z_getf (idx := 7) awX5 rfl (by decide) wd_4_12 rfl (by decide +kernel)) (
  fm (z_iconst (n := 1) (by decide +kernel) (by decide)) (
  fm (z_iald (by decide +kernel)) (
  fm (z_icmp_ge (off := 54) (by decide +kernel) (by decide)) (
  fm (z_aload_n (j := 0) (by decide +kernel) rfl) (
  fm (z_iload_n (j := 1) (by decide +kernel) rfl) (
  fm (z_iload (i := 5) (by decide +kernel)) (
  fm (z_inv (idx := 87) rfl (by decide +kernel) wd_4_136 wd_4_138 ws_35 wd_1_7 wd_4_139 (by decide +kernel) ⟨Nat.le_of_ble_eq_true rfl, Nat.le_of_ble_eq_true rfl⟩) (
  fm (z_aload_n (j := 0) (by decide +kernel) rfl) (
  fm (z_iload_n (j := 1) (by decide +kernel) rfl) (
  fm (z_iload_n (j := 2) (by decide +kernel) rfl) (
  fm (z_inv (idx := 172) rfl (by decide +kernel) wd_5_42 wd_5_44 ws_53 wd_1_7 wd_5_45 (by decide +kernel) ⟨Nat.le_of_ble_eq_true rfl, Nat.le_of_ble_eq_true rfl⟩) (
  fm (z_istore (i := 6) (by decide +kernel) (by decide)) (
  fm (z_iload (i := 6) (by decide +kernel)) (
  fm (z_iload (i := 4) (by decide +kernel)) (
  fm (z_icmp_le (off := 8) (by decide +kernel) (by decide)) (
  fm (z_iload (i := 5) (by decide +kernel)) (
  fm (z_goto (off := 4) (by decide +kernel) (by decide)) (
  fm (z_iload_n (j := 3) (by decide +kernel) rfl) (
  fm (z_istore_n (j := 3) (by decide +kernel) rfl (by decide)) (
  fm (z_iload (i := 6) (by decide +kernel)) (
  fm (z_iload (i := 4) (by decide +kernel)) (
  fm (z_icmp_le (off := 8) (by decide +kernel) (by decide)) (
  fm (z_iload (i := 6) (by decide +kernel)) (
  fm (z_goto (off := 5) (by decide +kernel) (by decide)) (
  fm (z_iload (i := 4) (by decide +kernel)) (
  fm (z_istore (i := 4) (by decide +kernel) (by decide)) (
  fm (z_iinc (n := 1) (by decide +kernel) (by decide) (by decide)) (
  fm (z_goto (off := (-59)) (by decide +kernel) (by decide)) (
  fm (z_iload_n (j := 3) (by decide +kernel) rfl) (
  fm (z_iret rfl (by decide +kernel)) (fn)))))))))))))))))))))))))))))))))))))))))))))))))))))))))))))))
def kX5_word : Cd := [(0, s_pushl 0 1), (1, s_lstore 1 2), (2, s_aload 0 3), (3, s_getf 5 9 6), (6, s_istore 3 7), (7, s_iload 3 8), (8, s_aload 0 9), (9, s_getf 5 10 12), (12, s_icmp (fun x y => y ≤ x) 50 15), (15, s_lload 1 16), (16, s_pushl 36028797018963967 19), (19, s_lcmp 20), (20, s_if (fun x => x ≤ 0) 27 23), (23, s_lload 1 24), (24, s_goto 43), (27, s_pushl 32 30), (30, s_lload 1 31), (31, s_lbin (fun x y => x * y) 32), (32, s_aload 0 33), (33, s_getf 5 7 36), (36, s_iload 3 37), (37, s_iald 38), (38, s_pushi 96 40), (40, s_bin (fun x y => x - y) 41), (41, s_i2l 42), (42, s_lbin (fun x y => x + y) 43), (43, s_lstore 1 44), (44, s_iinc 3 1 47), (47, s_goto 7), (50, s_aload 0 51), (51, s_getf 5 12 54), (54, s_if (fun x => x = 0) 57 71), (57, s_aload 0 58), (58, s_aload 0 59), (59, s_getf 5 9 62), (62, s_inv mX5_byteAt 5 1 65), (65, s_invS mX5_isLetter 1 68), (68, s_if (fun x => x = 0) 71 75), (71, s_pushl 0 72), (72, s_goto 76), (75, s_lload 1 76), (76, s_lret)]
set_option maxRecDepth 20000 in
theorem zX5_word : ∀ q ∈ kX5_word, Snd RX5 cX5_word 4 (some .long) (rmM mX5_word) q.1 q.2 :=
  fm (z_lconst (n := 0) (by decide +kernel) (by decide)) (
  fm (z_lstore_n (j := 1) (by decide +kernel) rfl (by decide)) (
  fm (z_aload_n (j := 0) (by decide +kernel) rfl) (
  fm (z_getf (idx := 206) awX5 rfl (by decide) wd_4_21 rfl (by decide +kernel)) (
  fm (z_istore_n (j := 3) (by decide +kernel) rfl (by decide)) (
  fm (z_iload_n (j := 3) (by decide +kernel) rfl) (
  fm (z_aload_n (j := 0) (by decide +kernel) rfl) (
  fm (z_getf (idx := 203) awX5 rfl (by decide) wd_4_22 rfl (by decide +kernel)) (
  fm (z_icmp_ge (off := 38) (by decide +kernel) (by decide)) (
  fm (z_lload_n (j := 1) (by decide +kernel) rfl) (
  fm (z_ldc2 (i := 225) (by decide +kernel) wd_5_154) (
  fm (z_lcmp (by decide +kernel)) (
  fm (z_if_le (off := 7) (by decide +kernel) (by decide)) (
  fm (z_lload_n (j := 1) (by decide +kernel) rfl) (
  fm (z_goto (off := 19) (by decide +kernel) (by decide)) (
  fm (z_ldc2 (i := 227) (by decide +kernel) wd_5_155) (
  fm (z_lload_n (j := 1) (by decide +kernel) rfl) (
  fm (z_lmul (by decide +kernel)) (
  fm (z_aload_n (j := 0) (by decide +kernel) rfl) (
  fm (z_getf (idx := 25) awX5 rfl (by decide) wd_4_19 rfl (by decide +kernel)) (
  fm (z_iload_n (j := 3) (by decide +kernel) rfl) (
  fm (z_iald (by decide +kernel)) (
  fm (z_bipush (n := 96) (by decide +kernel) (by decide)) (
  fm (z_isub (by decide +kernel)) (
  fm (z_i2l (by decide +kernel)) (
  fm (z_ladd (by decide +kernel)) (
  fm (z_lstore_n (j := 1) (by decide +kernel) rfl (by decide)) (
  fm (z_iinc (n := 1) (by decide +kernel) (by decide) (by decide)) (
  fm (z_goto (off := (-40)) (by decide +kernel) (by decide)) (
  fm (z_aload_n (j := 0) (by decide +kernel) rfl) (
  fm (z_getf (idx := 218) awX5 rfl (by decide) wd_4_24 rfl (by decide +kernel)) (
  fm (z_if_ne (off := 17) (by decide +kernel) (by decide)) (
  fm (z_aload_n (j := 0) (by decide +kernel) rfl) (
  fm (z_aload_n (j := 0) (by decide +kernel) rfl) (
  fm (z_getf (idx := 206) awX5 rfl (by decide) wd_4_21 rfl (by decide +kernel)) (
  fm (z_inv (idx := 209) rfl (by decide +kernel) wd_5_129 wd_5_131 ws_60 wd_1_7 wd_5_132 (by decide +kernel) ⟨Nat.le_of_ble_eq_true rfl, Nat.le_of_ble_eq_true rfl⟩) (
  fm (z_invS (idx := 212) (by decide +kernel) wd_5_133 wd_5_134 wd_1_7 wd_5_135 (by decide +kernel) ⟨Nat.le_of_ble_eq_true rfl, Nat.le_of_ble_eq_true rfl⟩) (
  fm (z_if_ne (off := 7) (by decide +kernel) (by decide)) (
  fm (z_lconst (n := 0) (by decide +kernel) (by decide)) (
  fm (z_goto (off := 4) (by decide +kernel) (by decide)) (
  fm (z_lload_n (j := 1) (by decide +kernel) rfl) (
  fm (z_lret rfl (by decide +kernel)) (fn))))))))))))))))))))))))))))))))))))))))))
def kX5_worth : Cd := [(0, s_aload 0 1), (1, s_iload 1 2), (2, s_inv mX5_isStall 5 1 5), (5, s_if (fun x => x = 0) 22 8), (8, s_iload 2 9), (9, s_invS mX5_isPlace 1 12), (12, s_if (fun x => x = 0) 22 15), (15, s_iload 3 16), (16, s_invS mX5_isDays 1 19), (19, s_if (fun x => x = 0) 22 29), (22, s_aload 0 23), (23, s_pushi (-1000001) 25), (25, s_inv mX5_finds 5 1 28), (28, s_iret), (29, s_aload 0 30), (30, s_iload 3 31), (31, s_inv mX5_isTooLate 5 1 34), (34, s_if (fun x => x = 0) 44 37), (37, s_aload 0 38), (38, s_pushi (-1000005) 40), (40, s_inv mX5_finds 5 1 43), (43, s_iret), (44, s_aload 0 45), (45, s_inv mX5_saves 5 0 48), (48, s_aload 0 49), (49, s_iload 1 50), (50, s_iload 2 51), (51, s_iload 3 52), (52, s_inv mX5_worthOf 5 3 55), (55, s_iret)]
set_option maxRecDepth 20000 in
theorem zX5_worth : ∀ q ∈ kX5_worth, Snd RX5 cX5_worth 4 (some .int) (rmM mX5_worth) q.1 q.2 :=
  fm (z_aload_n (j := 0) (by decide +kernel) rfl) (
  fm (z_iload_n (j := 1) (by decide +kernel) rfl) (
  fm (z_inv (idx := 76) rfl (by decide +kernel) wd_4_115 wd_4_117 ws_32 wd_1_7 wd_4_118 (by decide +kernel) ⟨Nat.le_of_ble_eq_true rfl, Nat.le_of_ble_eq_true rfl⟩) (
  fm (z_if_eq (off := 17) (by decide +kernel) (by decide)) (
  fm (z_iload_n (j := 2) (by decide +kernel) rfl) (
  fm (z_invS (idx := 52) (by decide +kernel) wd_4_68 wd_4_69 wd_1_7 wd_4_70 (by decide +kernel) ⟨Nat.le_of_ble_eq_true rfl, Nat.le_of_ble_eq_true rfl⟩) (
  fm (z_if_eq (off := 10) (by decide +kernel) (by decide)) (
  fm (z_iload_n (j := 3) (by decide +kernel) rfl) (
  fm (z_invS (idx := 169) (by decide +kernel) wd_5_39 wd_5_40 wd_1_7 wd_5_41 (by decide +kernel) ⟨Nat.le_of_ble_eq_true rfl, Nat.le_of_ble_eq_true rfl⟩) (
  fm (z_if_ne (off := 10) (by decide +kernel) (by decide)) (
  fm (z_aload_n (j := 0) (by decide +kernel) rfl) (
  fm (z_ldc (i := 40) (by decide +kernel) wd_4_76) (
  fm (z_inv (idx := 58) rfl (by decide +kernel) wd_4_77 wd_4_79 ws_28 wd_1_7 wd_4_80 (by decide +kernel) ⟨Nat.le_of_ble_eq_true rfl, Nat.le_of_ble_eq_true rfl⟩) (
  fm (z_iret rfl (by decide +kernel)) (
  fm (z_aload_n (j := 0) (by decide +kernel) rfl) (
  fm (z_iload_n (j := 3) (by decide +kernel) rfl) (
  fm (z_inv (idx := 119) rfl (by decide +kernel) wd_4_158 wd_4_160 ws_37 wd_1_7 wd_4_161 (by decide +kernel) ⟨Nat.le_of_ble_eq_true rfl, Nat.le_of_ble_eq_true rfl⟩) (
  fm (z_if_eq (off := 10) (by decide +kernel) (by decide)) (
  fm (z_aload_n (j := 0) (by decide +kernel) rfl) (
  fm (z_ldc (i := 70) (by decide +kernel) wd_4_105) (
  fm (z_inv (idx := 58) rfl (by decide +kernel) wd_4_77 wd_4_79 ws_28 wd_1_7 wd_4_80 (by decide +kernel) ⟨Nat.le_of_ble_eq_true rfl, Nat.le_of_ble_eq_true rfl⟩) (
  fm (z_iret rfl (by decide +kernel)) (
  fm (z_aload_n (j := 0) (by decide +kernel) rfl) (
  fm (z_inv (idx := 130) rfl (by decide +kernel) wd_4_200 wd_4_202 ws_43 wd_1_7 wd_4_203 (by decide +kernel) ⟨Nat.le_of_ble_eq_true rfl, Nat.le_of_ble_eq_true rfl⟩) (
  fm (z_aload_n (j := 0) (by decide +kernel) rfl) (
  fm (z_iload_n (j := 1) (by decide +kernel) rfl) (
  fm (z_iload_n (j := 2) (by decide +kernel) rfl) (
  fm (z_iload_n (j := 3) (by decide +kernel) rfl) (
  fm (z_inv (idx := 184) rfl (by decide +kernel) wd_5_86 wd_5_88 ws_57 wd_1_7 wd_5_89 (by decide +kernel) ⟨Nat.le_of_ble_eq_true rfl, Nat.le_of_ble_eq_true rfl⟩) (
  fm (z_iret rfl (by decide +kernel)) (fn))))))))))))))))))))))))))))))
def kX5_worthOf : Cd := [(0, s_aload 0 1), (1, s_iload 1 2), (2, s_iload 3 3), (3, s_inv mX5_coinOf 5 2 6), (6, s_istore 4 8), (8, s_aload 0 9), (9, s_iload 2 10), (10, s_inv mX5_stallAt 5 1 13), (13, s_istore 5 15), (15, s_iload 5 17), (17, s_if (fun x => x < 0) 30 20), (20, s_aload 0 21), (21, s_iload 1 22), (22, s_iload 5 24), (24, s_inv mX5_swaps 5 2 27), (27, s_goto 41), (30, s_aload 0 31), (31, s_getf 5 0 34), (34, s_iload 1 35), (35, s_pushi 1 36), (36, s_invS mX5_at 2 39), (39, s_iload 2 40), (40, s_iast 41), (41, s_aload 0 42), (42, s_iload 1 43), (43, s_iload 3 44), (44, s_inv mX5_coinOf 5 2 47), (47, s_iload 4 49), (49, s_bin (fun x y => x - y) 50), (50, s_iret)]
set_option maxRecDepth 20000 in
theorem zX5_worthOf : ∀ q ∈ kX5_worthOf, Snd RX5 cX5_worthOf 6 (some .int) (rmM mX5_worthOf) q.1 q.2 :=
  fm (z_aload_n (j := 0) (by decide +kernel) rfl) (
  fm (z_iload_n (j := 1) (by decide +kernel) rfl) (
  fm (z_iload_n (j := 3) (by decide +kernel) rfl) (
  fm (z_inv (idx := 172) rfl (by decide +kernel) wd_5_42 wd_5_44 ws_53 wd_1_7 wd_5_45 (by decide +kernel) ⟨Nat.le_of_ble_eq_true rfl, Nat.le_of_ble_eq_true rfl⟩) (
  fm (z_istore (i := 4) (by decide +kernel) (by decide)) (
  fm (z_aload_n (j := 0) (by decide +kernel) rfl) (
  fm (z_iload_n (j := 2) (by decide +kernel) rfl) (
  fm (z_inv (idx := 67) rfl (by decide +kernel) wd_4_94 wd_4_96 ws_29 wd_1_7 wd_4_97 (by decide +kernel) ⟨Nat.le_of_ble_eq_true rfl, Nat.le_of_ble_eq_true rfl⟩) (
  fm (z_istore (i := 5) (by decide +kernel) (by decide)) (
  fm (z_iload (i := 5) (by decide +kernel)) (
  fm (z_if_lt (off := 13) (by decide +kernel) (by decide)) (
  fm (z_aload_n (j := 0) (by decide +kernel) rfl) (
  fm (z_iload_n (j := 1) (by decide +kernel) rfl) (
  fm (z_iload (i := 5) (by decide +kernel)) (
  fm (z_inv (idx := 87) rfl (by decide +kernel) wd_4_136 wd_4_138 ws_35 wd_1_7 wd_4_139 (by decide +kernel) ⟨Nat.le_of_ble_eq_true rfl, Nat.le_of_ble_eq_true rfl⟩) (
  fm (z_goto (off := 14) (by decide +kernel) (by decide)) (
  fm (z_aload_n (j := 0) (by decide +kernel) rfl) (
  fm (z_getf (idx := 7) awX5 rfl (by decide) wd_4_12 rfl (by decide +kernel)) (
  fm (z_iload_n (j := 1) (by decide +kernel) rfl) (
  fm (z_iconst (n := 1) (by decide +kernel) (by decide)) (
  fm (z_invS (idx := 48) (by decide +kernel) wd_4_102 wd_4_103 wd_1_7 wd_4_104 (by decide +kernel) ⟨Nat.le_of_ble_eq_true rfl, Nat.le_of_ble_eq_true rfl⟩) (
  fm (z_iload_n (j := 2) (by decide +kernel) rfl) (
  fm (z_iast (by decide +kernel)) (
  fm (z_aload_n (j := 0) (by decide +kernel) rfl) (
  fm (z_iload_n (j := 1) (by decide +kernel) rfl) (
  fm (z_iload_n (j := 3) (by decide +kernel) rfl) (
  fm (z_inv (idx := 172) rfl (by decide +kernel) wd_5_42 wd_5_44 ws_53 wd_1_7 wd_5_45 (by decide +kernel) ⟨Nat.le_of_ble_eq_true rfl, Nat.le_of_ble_eq_true rfl⟩) (
  fm (z_iload (i := 4) (by decide +kernel)) (
  fm (z_isub (by decide +kernel)) (
  fm (z_iret rfl (by decide +kernel)) (fn))))))))))))))))))))))))))))))
def kX5_write : Cd := [(0, s_aload 0 1), (1, s_iload 1 2), (2, s_inv mX5_wrong 5 1 5), (5, s_istore 4 7), (7, s_iload 4 9), (9, s_if (fun x => x = 0) 19 12), (12, s_aload 0 13), (13, s_iload 4 15), (15, s_inv mX5_finds 5 1 18), (18, s_iret), (19, s_iload 2 20), (20, s_i2l 21), (21, s_pushl 0 22), (22, s_aload 0 23), (23, s_getf 5 14 26), (26, s_iload 1 27), (27, s_iald 28), (28, s_pushi 1 29), (29, s_bin (fun x y => x - y) 30), (30, s_i2l 31), (31, s_invS mX5_in 3 34), (34, s_if (fun x => x = 0) 37 44), (37, s_aload 0 38), (38, s_pushi (-1000001) 40), (40, s_inv mX5_finds 5 1 43), (43, s_iret), (44, s_aload 0 45), (45, s_getf 5 15 48), (48, s_pushi 40 50), (50, s_iload 1 51), (51, s_bin (fun x y => x * y) 52), (52, s_iload 2 53), (53, s_bin (fun x y => x + y) 54), (54, s_aload 0 55), (55, s_getf 5 13 58), (58, s_iload 1 59), (59, s_iald 60), (60, s_iload 3 61), (61, s_invS mX5_narrowed 2 64), (64, s_iast 65), (65, s_pushi 1 66), (66, s_iret)]
set_option maxRecDepth 20000 in
theorem zX5_write : ∀ q ∈ kX5_write, Snd RX5 cX5_write 5 (some .int) (rmM mX5_write) q.1 q.2 :=
  fm (z_aload_n (j := 0) (by decide +kernel) rfl) (
  fm (z_iload_n (j := 1) (by decide +kernel) rfl) (
  fm (z_inv (idx := 301) rfl (by decide +kernel) wd_5_218 wd_5_220 ws_70 wd_1_7 wd_5_221 (by decide +kernel) ⟨Nat.le_of_ble_eq_true rfl, Nat.le_of_ble_eq_true rfl⟩) (
  fm (z_istore (i := 4) (by decide +kernel) (by decide)) (
  fm (z_iload (i := 4) (by decide +kernel)) (
  fm (z_if_eq (off := 10) (by decide +kernel) (by decide)) (
  fm (z_aload_n (j := 0) (by decide +kernel) rfl) (
  fm (z_iload (i := 4) (by decide +kernel)) (
  fm (z_inv (idx := 58) rfl (by decide +kernel) wd_4_77 wd_4_79 ws_28 wd_1_7 wd_4_80 (by decide +kernel) ⟨Nat.le_of_ble_eq_true rfl, Nat.le_of_ble_eq_true rfl⟩) (
  fm (z_iret rfl (by decide +kernel)) (
  fm (z_iload_n (j := 2) (by decide +kernel) rfl) (
  fm (z_i2l (by decide +kernel)) (
  fm (z_lconst (n := 0) (by decide +kernel) (by decide)) (
  fm (z_aload_n (j := 0) (by decide +kernel) rfl) (
  fm (z_getf (idx := 31) awX5 rfl (by decide) wd_4_26 rfl (by decide +kernel)) (
  fm (z_iload_n (j := 1) (by decide +kernel) rfl) (
  fm (z_iald (by decide +kernel)) (
  fm (z_iconst (n := 1) (by decide +kernel) (by decide)) (
  fm (z_isub (by decide +kernel)) (
  fm (z_i2l (by decide +kernel)) (
  fm (z_invS (idx := 43) (by decide +kernel) wd_4_72 wd_4_73 wd_1_7 wd_4_74 (by decide +kernel) ⟨Nat.le_of_ble_eq_true rfl, Nat.le_of_ble_eq_true rfl⟩) (
  fm (z_if_ne (off := 10) (by decide +kernel) (by decide)) (
  fm (z_aload_n (j := 0) (by decide +kernel) rfl) (
  fm (z_ldc (i := 40) (by decide +kernel) wd_4_76) (
  fm (z_inv (idx := 58) rfl (by decide +kernel) wd_4_77 wd_4_79 ws_28 wd_1_7 wd_4_80 (by decide +kernel) ⟨Nat.le_of_ble_eq_true rfl, Nat.le_of_ble_eq_true rfl⟩) (
  fm (z_iret rfl (by decide +kernel)) (
  fm (z_aload_n (j := 0) (by decide +kernel) rfl) (
  fm (z_getf (idx := 34) awX5 rfl (by decide) wd_4_27 rfl (by decide +kernel)) (
  fm (z_bipush (n := 40) (by decide +kernel) (by decide)) (
  fm (z_iload_n (j := 1) (by decide +kernel) rfl) (
  fm (z_imul (by decide +kernel)) (
  fm (z_iload_n (j := 2) (by decide +kernel) rfl) (
  fm (z_iadd (by decide +kernel)) (
  fm (z_aload_n (j := 0) (by decide +kernel) rfl) (
  fm (z_getf (idx := 28) awX5 rfl (by decide) wd_4_25 rfl (by decide +kernel)) (
  fm (z_iload_n (j := 1) (by decide +kernel) rfl) (
  fm (z_iald (by decide +kernel)) (
  fm (z_iload_n (j := 3) (by decide +kernel) rfl) (
  fm (z_invS (idx := 304) (by decide +kernel) wd_5_222 wd_5_223 wd_1_7 wd_5_224 (by decide +kernel) ⟨Nat.le_of_ble_eq_true rfl, Nat.le_of_ble_eq_true rfl⟩) (
  fm (z_iast (by decide +kernel)) (
  fm (z_iconst (n := 1) (by decide +kernel) (by decide)) (
  fm (z_iret rfl (by decide +kernel)) (fn))))))))))))))))))))))))))))))))))))))))))
def kX5_wrong : Cd := [(0, s_iload 1 1), (1, s_invS mX5_isOne 1 4), (4, s_if (fun x => x = 0) 7 12), (7, s_pushi (-1000001) 9), (9, s_goto 28), (12, s_aload 0 13), (13, s_getf 5 13 16), (16, s_iload 1 17), (17, s_iald 18), (18, s_if (fun x => x = 0) 21 27), (21, s_pushi (-1000006) 24), (24, s_goto 28), (27, s_pushi 0 28), (28, s_iret)]
set_option maxRecDepth 20000 in
theorem zX5_wrong : ∀ q ∈ kX5_wrong, Snd RX5 cX5_wrong 2 (some .int) (rmM mX5_wrong) q.1 q.2 :=
  fm (z_iload_n (j := 1) (by decide +kernel) rfl) (
  fm (z_invS (idx := 298) (by decide +kernel) wd_5_210 wd_5_211 wd_1_7 wd_5_212 (by decide +kernel) ⟨Nat.le_of_ble_eq_true rfl, Nat.le_of_ble_eq_true rfl⟩) (
  fm (z_if_ne (off := 8) (by decide +kernel) (by decide)) (
  fm (z_ldc (i := 40) (by decide +kernel) wd_4_76) (
  fm (z_goto (off := 19) (by decide +kernel) (by decide)) (
  fm (z_aload_n (j := 0) (by decide +kernel) rfl) (
  fm (z_getf (idx := 28) awX5 rfl (by decide) wd_4_25 rfl (by decide +kernel)) (
  fm (z_iload_n (j := 1) (by decide +kernel) rfl) (
  fm (z_iald (by decide +kernel)) (
  fm (z_if_ne (off := 9) (by decide +kernel) (by decide)) (
  fm (z_ldcw (i := 294) (by decide +kernel) wd_5_204) (
  fm (z_goto (off := 4) (by decide +kernel) (by decide)) (
  fm (z_iconst (n := 0) (by decide +kernel) (by decide)) (
  fm (z_iret rfl (by decide +kernel)) (fn))))))))))))))
end
