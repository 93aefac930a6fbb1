section
-- ===== PART A: goes FIRST, ahead of the names: the tables' words, and 'selects' of the private methods out of them =====
/-- a private method of a class that the tables say can be made, by its rows of tables_1 -/
def lw_okq (q : MethodName × Nat) : Prop := (q.1.cls ≠ "java/lang/invoke/MethodHandle" ∧ q.1.cls ≠ "java/lang/invoke/VarHandle") ∧ Cond.instantiable q.1.cls q.2 ∈ tables_1 ∧ Cond.privateMethod q.1 ∈ tables_1 ∧ Cond.instanceMethod q.1 ∈ tables_1
theorem lw_p0 : lw_okq (⟨"MovingMarket", "finding", "(I)I"⟩, 10) := ⟨⟨by decide +kernel, by decide +kernel⟩, List.mem_of_getElem? (i := 15) (by decide +kernel), List.mem_of_getElem? (i := 185) (by decide +kernel), List.mem_of_getElem? (i := 186) (by decide +kernel)⟩
theorem lw_p1 : lw_okq (⟨"MovingMarket", "isStall", "(I)Z"⟩, 10) := ⟨⟨by decide +kernel, by decide +kernel⟩, List.mem_of_getElem? (i := 15) (by decide +kernel), List.mem_of_getElem? (i := 217) (by decide +kernel), List.mem_of_getElem? (i := 218) (by decide +kernel)⟩
theorem lw_p2 : lw_okq (⟨"MovingMarket$Square", "twofoldVisits", "(I)I"⟩, 12) := ⟨⟨by decide +kernel, by decide +kernel⟩, List.mem_of_getElem? (i := 23) (by decide +kernel), List.mem_of_getElem? (i := 251) (by decide +kernel), List.mem_of_getElem? (i := 252) (by decide +kernel)⟩
theorem lw_p3 : lw_okq (⟨"MovingMarket", "aheadFinding", "(ZIII)I"⟩, 10) := ⟨⟨by decide +kernel, by decide +kernel⟩, List.mem_of_getElem? (i := 15) (by decide +kernel), List.mem_of_getElem? (i := 263) (by decide +kernel), List.mem_of_getElem? (i := 264) (by decide +kernel)⟩
theorem lw_p4 : lw_okq (⟨"MovingMarket$Square", "strike", "()V"⟩, 12) := ⟨⟨by decide +kernel, by decide +kernel⟩, List.mem_of_getElem? (i := 23) (by decide +kernel), List.mem_of_getElem? (i := 284) (by decide +kernel), List.mem_of_getElem? (i := 285) (by decide +kernel)⟩
theorem lw_p5 : lw_okq (⟨"MovingMarket", "orderFinding", "(ZII)I"⟩, 10) := ⟨⟨by decide +kernel, by decide +kernel⟩, List.mem_of_getElem? (i := 15) (by decide +kernel), List.mem_of_getElem? (i := 361) (by decide +kernel), List.mem_of_getElem? (i := 362) (by decide +kernel)⟩
theorem lw_p6 : lw_okq (⟨"MovingMarket", "searchMost", "(I)I"⟩, 10) := ⟨⟨by decide +kernel, by decide +kernel⟩, List.mem_of_getElem? (i := 15) (by decide +kernel), List.mem_of_getElem? (i := 365) (by decide +kernel), List.mem_of_getElem? (i := 366) (by decide +kernel)⟩
theorem lw_p7 : lw_okq (⟨"MovingMarket", "tryOrder", "()V"⟩, 10) := ⟨⟨by decide +kernel, by decide +kernel⟩, List.mem_of_getElem? (i := 15) (by decide +kernel), List.mem_of_getElem? (i := 373) (by decide +kernel), List.mem_of_getElem? (i := 374) (by decide +kernel)⟩
theorem lw_p8 : lw_okq (⟨"MovingMarket$Order", "exchangeTaken", "(II)V"⟩, 2) := ⟨⟨by decide +kernel, by decide +kernel⟩, List.mem_of_getElem? (i := 87) (by decide +kernel), List.mem_of_getElem? (i := 386) (by decide +kernel), List.mem_of_getElem? (i := 387) (by decide +kernel)⟩
theorem lw_p9 : lw_okq (⟨"MovingMarket", "swapAhead", "(III)V"⟩, 10) := ⟨⟨by decide +kernel, by decide +kernel⟩, List.mem_of_getElem? (i := 15) (by decide +kernel), List.mem_of_getElem? (i := 406) (by decide +kernel), List.mem_of_getElem? (i := 407) (by decide +kernel)⟩
theorem lw_p10 : lw_okq (⟨"MovingMarket", "isPair", "(II)Z"⟩, 10) := ⟨⟨by decide +kernel, by decide +kernel⟩, List.mem_of_getElem? (i := 15) (by decide +kernel), List.mem_of_getElem? (i := 438) (by decide +kernel), List.mem_of_getElem? (i := 439) (by decide +kernel)⟩
theorem lw_p11 : lw_okq (⟨"MovingMarket", "firstBeside", "(III)I"⟩, 10) := ⟨⟨by decide +kernel, by decide +kernel⟩, List.mem_of_getElem? (i := 15) (by decide +kernel), List.mem_of_getElem? (i := 442) (by decide +kernel), List.mem_of_getElem? (i := 443) (by decide +kernel)⟩
theorem lw_p12 : lw_okq (⟨"MovingMarket", "coinFrom", "(III)I"⟩, 10) := ⟨⟨by decide +kernel, by decide +kernel⟩, List.mem_of_getElem? (i := 15) (by decide +kernel), List.mem_of_getElem? (i := 455) (by decide +kernel), List.mem_of_getElem? (i := 456) (by decide +kernel)⟩
theorem lw_p13 : lw_okq (⟨"MovingMarket$Tape", "readOn", "()V"⟩, 6) := ⟨⟨by decide +kernel, by decide +kernel⟩, List.mem_of_getElem? (i := 101) (by decide +kernel), List.mem_of_getElem? (i := 505) (by decide +kernel), List.mem_of_getElem? (i := 506) (by decide +kernel)⟩
theorem lw_p14 : lw_okq (⟨"MovingMarket$Tape", "isBetween", "(ICC)Z"⟩, 6) := ⟨⟨by decide +kernel, by decide +kernel⟩, List.mem_of_getElem? (i := 101) (by decide +kernel), List.mem_of_getElem? (i := 509) (by decide +kernel), List.mem_of_getElem? (i := 510) (by decide +kernel)⟩
theorem lw_p15 : lw_okq (⟨"MovingMarket$Tape", "readRun", "(CC)V"⟩, 6) := ⟨⟨by decide +kernel, by decide +kernel⟩, List.mem_of_getElem? (i := 101) (by decide +kernel), List.mem_of_getElem? (i := 513) (by decide +kernel), List.mem_of_getElem? (i := 514) (by decide +kernel)⟩
def lw_privs_1 : List (MethodName × Nat) := [(⟨"MovingMarket", "finding", "(I)I"⟩, 10), (⟨"MovingMarket", "isStall", "(I)Z"⟩, 10), (⟨"MovingMarket$Square", "twofoldVisits", "(I)I"⟩, 12), (⟨"MovingMarket", "aheadFinding", "(ZIII)I"⟩, 10), (⟨"MovingMarket$Square", "strike", "()V"⟩, 12), (⟨"MovingMarket", "orderFinding", "(ZII)I"⟩, 10), (⟨"MovingMarket", "searchMost", "(I)I"⟩, 10), (⟨"MovingMarket", "tryOrder", "()V"⟩, 10), (⟨"MovingMarket$Order", "exchangeTaken", "(II)V"⟩, 2), (⟨"MovingMarket", "swapAhead", "(III)V"⟩, 10), (⟨"MovingMarket", "isPair", "(II)Z"⟩, 10), (⟨"MovingMarket", "firstBeside", "(III)I"⟩, 10), (⟨"MovingMarket", "coinFrom", "(III)I"⟩, 10), (⟨"MovingMarket$Tape", "readOn", "()V"⟩, 6), (⟨"MovingMarket$Tape", "isBetween", "(ICC)Z"⟩, 6), (⟨"MovingMarket$Tape", "readRun", "(CC)V"⟩, 6)]
theorem lw_r1 : ∀ q ∈ lw_privs_1, lw_okq q := List.forall_mem_cons.mpr ⟨lw_p0, List.forall_mem_cons.mpr ⟨lw_p1, List.forall_mem_cons.mpr ⟨lw_p2, List.forall_mem_cons.mpr ⟨lw_p3, List.forall_mem_cons.mpr ⟨lw_p4, List.forall_mem_cons.mpr ⟨lw_p5, List.forall_mem_cons.mpr ⟨lw_p6, List.forall_mem_cons.mpr ⟨lw_p7, List.forall_mem_cons.mpr ⟨lw_p8, List.forall_mem_cons.mpr ⟨lw_p9, List.forall_mem_cons.mpr ⟨lw_p10, List.forall_mem_cons.mpr ⟨lw_p11, List.forall_mem_cons.mpr ⟨lw_p12, List.forall_mem_cons.mpr ⟨lw_p13, List.forall_mem_cons.mpr ⟨lw_p14, List.forall_mem_cons.mpr ⟨lw_p15, fun _ h => absurd h List.not_mem_nil⟩⟩⟩⟩⟩⟩⟩⟩⟩⟩⟩⟩⟩⟩⟩⟩
theorem lw_p16 : lw_okq (⟨"MovingMarket$Tape", "valueOfRun", "()I"⟩, 6) := ⟨⟨by decide +kernel, by decide +kernel⟩, List.mem_of_getElem? (i := 101) (by decide +kernel), List.mem_of_getElem? (i := 517) (by decide +kernel), List.mem_of_getElem? (i := 518) (by decide +kernel)⟩
theorem lw_p17 : lw_okq (⟨"MovingMarket$Tape", "readItem", "(LMovingMarket$Square;)Z"⟩, 6) := ⟨⟨by decide +kernel, by decide +kernel⟩, List.mem_of_getElem? (i := 101) (by decide +kernel), List.mem_of_getElem? (i := 521) (by decide +kernel), List.mem_of_getElem? (i := 522) (by decide +kernel)⟩
theorem lw_p18 : lw_okq (⟨"MovingMarket$Tape", "kindOfWord", "()I"⟩, 6) := ⟨⟨by decide +kernel, by decide +kernel⟩, List.mem_of_getElem? (i := 101) (by decide +kernel), List.mem_of_getElem? (i := 525) (by decide +kernel), List.mem_of_getElem? (i := 526) (by decide +kernel)⟩
theorem lw_p19 : lw_okq (⟨"MovingMarket$Tape", "isWord", "(Ljava/lang/String;)Z"⟩, 6) := ⟨⟨by decide +kernel, by decide +kernel⟩, List.mem_of_getElem? (i := 101) (by decide +kernel), List.mem_of_getElem? (i := 539) (by decide +kernel), List.mem_of_getElem? (i := 540) (by decide +kernel)⟩
theorem lw_p20 : lw_okq (⟨"MovingMarket$Tape", "readStall", "(LMovingMarket$Square;I)Z"⟩, 6) := ⟨⟨by decide +kernel, by decide +kernel⟩, List.mem_of_getElem? (i := 101) (by decide +kernel), List.mem_of_getElem? (i := 591) (by decide +kernel), List.mem_of_getElem? (i := 592) (by decide +kernel)⟩
theorem lw_p21 : lw_okq (⟨"MovingMarket$Tape", "isNumber", "(II)Z"⟩, 6) := ⟨⟨by decide +kernel, by decide +kernel⟩, List.mem_of_getElem? (i := 101) (by decide +kernel), List.mem_of_getElem? (i := 596) (by decide +kernel), List.mem_of_getElem? (i := 597) (by decide +kernel)⟩
theorem lw_p22 : lw_okq (⟨"MovingMarket$Tape", "readVisits", "(LMovingMarket$Square;)Z"⟩, 6) := ⟨⟨by decide +kernel, by decide +kernel⟩, List.mem_of_getElem? (i := 101) (by decide +kernel), List.mem_of_getElem? (i := 604) (by decide +kernel), List.mem_of_getElem? (i := 605) (by decide +kernel)⟩
theorem lw_p23 : lw_okq (⟨"MovingMarket$Tape", "readShade", "(LMovingMarket$Square;I)Z"⟩, 6) := ⟨⟨by decide +kernel, by decide +kernel⟩, List.mem_of_getElem? (i := 101) (by decide +kernel), List.mem_of_getElem? (i := 611) (by decide +kernel), List.mem_of_getElem? (i := 612) (by decide +kernel)⟩
theorem lw_p24 : lw_okq (⟨"MovingMarket$Tape", "readSpring", "(LMovingMarket$Square;)Z"⟩, 6) := ⟨⟨by decide +kernel, by decide +kernel⟩, List.mem_of_getElem? (i := 101) (by decide +kernel), List.mem_of_getElem? (i := 617) (by decide +kernel), List.mem_of_getElem? (i := 618) (by decide +kernel)⟩
theorem lw_p25 : lw_okq (⟨"MovingMarket", "sheetFinding", "(I)I"⟩, 10) := ⟨⟨by decide +kernel, by decide +kernel⟩, List.mem_of_getElem? (i := 15) (by decide +kernel), List.mem_of_getElem? (i := 655) (by decide +kernel), List.mem_of_getElem? (i := 656) (by decide +kernel)⟩
theorem lw_p26 : lw_okq (⟨"MovingMarket", "lastWordHour", "(LMovingMarket$Sheet;)I"⟩, 10) := ⟨⟨by decide +kernel, by decide +kernel⟩, List.mem_of_getElem? (i := 15) (by decide +kernel), List.mem_of_getElem? (i := 680) (by decide +kernel), List.mem_of_getElem? (i := 681) (by decide +kernel)⟩
theorem lw_p27 : lw_okq (⟨"MovingMarket", "wordsAreSo", "(LMovingMarket$Sheet;I)Z"⟩, 10) := ⟨⟨by decide +kernel, by decide +kernel⟩, List.mem_of_getElem? (i := 15) (by decide +kernel), List.mem_of_getElem? (i := 687) (by decide +kernel), List.mem_of_getElem? (i := 688) (by decide +kernel)⟩
theorem lw_p28 : lw_okq (⟨"MovingMarketModel", "finds", "(I)I"⟩, 17) := ⟨⟨by decide +kernel, by decide +kernel⟩, List.mem_of_getElem? (i := 727) (by decide +kernel), List.mem_of_getElem? (i := 798) (by decide +kernel), List.mem_of_getElem? (i := 799) (by decide +kernel)⟩
theorem lw_p29 : lw_okq (⟨"MovingMarketModel", "stallAt", "(I)I"⟩, 17) := ⟨⟨by decide +kernel, by decide +kernel⟩, List.mem_of_getElem? (i := 727) (by decide +kernel), List.mem_of_getElem? (i := 815) (by decide +kernel), List.mem_of_getElem? (i := 816) (by decide +kernel)⟩
theorem lw_p30 : lw_okq (⟨"MovingMarketModel", "its", "(II)I"⟩, 17) := ⟨⟨by decide +kernel, by decide +kernel⟩, List.mem_of_getElem? (i := 727) (by decide +kernel), List.mem_of_getElem? (i := 819) (by decide +kernel), List.mem_of_getElem? (i := 820) (by decide +kernel)⟩
theorem lw_p31 : lw_okq (⟨"MovingMarketModel", "newStall", "(III)I"⟩, 17) := ⟨⟨by decide +kernel, by decide +kernel⟩, List.mem_of_getElem? (i := 727) (by decide +kernel), List.mem_of_getElem? (i := 828) (by decide +kernel), List.mem_of_getElem? (i := 829) (by decide +kernel)⟩
def lw_privs_2 : List (MethodName × Nat) := [(⟨"MovingMarket$Tape", "valueOfRun", "()I"⟩, 6), (⟨"MovingMarket$Tape", "readItem", "(LMovingMarket$Square;)Z"⟩, 6), (⟨"MovingMarket$Tape", "kindOfWord", "()I"⟩, 6), (⟨"MovingMarket$Tape", "isWord", "(Ljava/lang/String;)Z"⟩, 6), (⟨"MovingMarket$Tape", "readStall", "(LMovingMarket$Square;I)Z"⟩, 6), (⟨"MovingMarket$Tape", "isNumber", "(II)Z"⟩, 6), (⟨"MovingMarket$Tape", "readVisits", "(LMovingMarket$Square;)Z"⟩, 6), (⟨"MovingMarket$Tape", "readShade", "(LMovingMarket$Square;I)Z"⟩, 6), (⟨"MovingMarket$Tape", "readSpring", "(LMovingMarket$Square;)Z"⟩, 6), (⟨"MovingMarket", "sheetFinding", "(I)I"⟩, 10), (⟨"MovingMarket", "lastWordHour", "(LMovingMarket$Sheet;)I"⟩, 10), (⟨"MovingMarket", "wordsAreSo", "(LMovingMarket$Sheet;I)Z"⟩, 10), (⟨"MovingMarketModel", "finds", "(I)I"⟩, 17), (⟨"MovingMarketModel", "stallAt", "(I)I"⟩, 17), (⟨"MovingMarketModel", "its", "(II)I"⟩, 17), (⟨"MovingMarketModel", "newStall", "(III)I"⟩, 17)]
theorem lw_r2 : ∀ q ∈ lw_privs_2, lw_okq q := List.forall_mem_cons.mpr ⟨lw_p16, List.forall_mem_cons.mpr ⟨lw_p17, List.forall_mem_cons.mpr ⟨lw_p18, List.forall_mem_cons.mpr ⟨lw_p19, List.forall_mem_cons.mpr ⟨lw_p20, List.forall_mem_cons.mpr ⟨lw_p21, List.forall_mem_cons.mpr ⟨lw_p22, List.forall_mem_cons.mpr ⟨lw_p23, List.forall_mem_cons.mpr ⟨lw_p24, List.forall_mem_cons.mpr ⟨lw_p25, List.forall_mem_cons.mpr ⟨lw_p26, List.forall_mem_cons.mpr ⟨lw_p27, List.forall_mem_cons.mpr ⟨lw_p28, List.forall_mem_cons.mpr ⟨lw_p29, List.forall_mem_cons.mpr ⟨lw_p30, List.forall_mem_cons.mpr ⟨lw_p31, fun _ h => absurd h List.not_mem_nil⟩⟩⟩⟩⟩⟩⟩⟩⟩⟩⟩⟩⟩⟩⟩⟩
theorem lw_p32 : lw_okq (⟨"MovingMarketModel", "isStall", "(I)Z"⟩, 17) := ⟨⟨by decide +kernel, by decide +kernel⟩, List.mem_of_getElem? (i := 727) (by decide +kernel), List.mem_of_getElem? (i := 836) (by decide +kernel), List.mem_of_getElem? (i := 837) (by decide +kernel)⟩
theorem lw_p33 : lw_okq (⟨"MovingMarketModel", "price", "(I)I"⟩, 17) := ⟨⟨by decide +kernel, by decide +kernel⟩, List.mem_of_getElem? (i := 727) (by decide +kernel), List.mem_of_getElem? (i := 840) (by decide +kernel), List.mem_of_getElem? (i := 841) (by decide +kernel)⟩
theorem lw_p34 : lw_okq (⟨"MovingMarketModel", "isGoing", "(I)Z"⟩, 17) := ⟨⟨by decide +kernel, by decide +kernel⟩, List.mem_of_getElem? (i := 727) (by decide +kernel), List.mem_of_getElem? (i := 844) (by decide +kernel), List.mem_of_getElem? (i := 845) (by decide +kernel)⟩
theorem lw_p35 : lw_okq (⟨"MovingMarketModel", "swaps", "(II)V"⟩, 17) := ⟨⟨by decide +kernel, by decide +kernel⟩, List.mem_of_getElem? (i := 727) (by decide +kernel), List.mem_of_getElem? (i := 857) (by decide +kernel), List.mem_of_getElem? (i := 858) (by decide +kernel)⟩
theorem lw_p36 : lw_okq (⟨"MovingMarketModel", "offer", "(II)I"⟩, 17) := ⟨⟨by decide +kernel, by decide +kernel⟩, List.mem_of_getElem? (i := 727) (by decide +kernel), List.mem_of_getElem? (i := 865) (by decide +kernel), List.mem_of_getElem? (i := 866) (by decide +kernel)⟩
theorem lw_p37 : lw_okq (⟨"MovingMarketModel", "isTooLate", "(I)Z"⟩, 17) := ⟨⟨by decide +kernel, by decide +kernel⟩, List.mem_of_getElem? (i := 727) (by decide +kernel), List.mem_of_getElem? (i := 879) (by decide +kernel), List.mem_of_getElem? (i := 880) (by decide +kernel)⟩
theorem lw_p38 : lw_okq (⟨"MovingMarketModel", "hoursGo", "(I)I"⟩, 17) := ⟨⟨by decide +kernel, by decide +kernel⟩, List.mem_of_getElem? (i := 727) (by decide +kernel), List.mem_of_getElem? (i := 883) (by decide +kernel), List.mem_of_getElem? (i := 884) (by decide +kernel)⟩
theorem lw_p39 : lw_okq (⟨"MovingMarketModel", "hour", "()I"⟩, 17) := ⟨⟨by decide +kernel, by decide +kernel⟩, List.mem_of_getElem? (i := 727) (by decide +kernel), List.mem_of_getElem? (i := 887) (by decide +kernel), List.mem_of_getElem? (i := 888) (by decide +kernel)⟩
theorem lw_p40 : lw_okq (⟨"MovingMarketModel", "sells", "(I)I"⟩, 17) := ⟨⟨by decide +kernel, by decide +kernel⟩, List.mem_of_getElem? (i := 727) (by decide +kernel), List.mem_of_getElem? (i := 891) (by decide +kernel), List.mem_of_getElem? (i := 892) (by decide +kernel)⟩
theorem lw_p41 : lw_okq (⟨"MovingMarketModel", "staying", "(Z)I"⟩, 17) := ⟨⟨by decide +kernel, by decide +kernel⟩, List.mem_of_getElem? (i := 727) (by decide +kernel), List.mem_of_getElem? (i := 895) (by decide +kernel), List.mem_of_getElem? (i := 896) (by decide +kernel)⟩
theorem lw_p42 : lw_okq (⟨"MovingMarketModel", "placesOf", "(I)I"⟩, 17) := ⟨⟨by decide +kernel, by decide +kernel⟩, List.mem_of_getElem? (i := 727) (by decide +kernel), List.mem_of_getElem? (i := 899) (by decide +kernel), List.mem_of_getElem? (i := 900) (by decide +kernel)⟩
theorem lw_p43 : lw_okq (⟨"MovingMarketModel", "saves", "()V"⟩, 17) := ⟨⟨by decide +kernel, by decide +kernel⟩, List.mem_of_getElem? (i := 727) (by decide +kernel), List.mem_of_getElem? (i := 921) (by decide +kernel), List.mem_of_getElem? (i := 922) (by decide +kernel)⟩
theorem lw_p44 : lw_okq (⟨"MovingMarketModel", "emptySet", "()I"⟩, 17) := ⟨⟨by decide +kernel, by decide +kernel⟩, List.mem_of_getElem? (i := 727) (by decide +kernel), List.mem_of_getElem? (i := 925) (by decide +kernel), List.mem_of_getElem? (i := 926) (by decide +kernel)⟩
theorem lw_p45 : lw_okq (⟨"MovingMarketModel", "everyPlace", "()I"⟩, 17) := ⟨⟨by decide +kernel, by decide +kernel⟩, List.mem_of_getElem? (i := 727) (by decide +kernel), List.mem_of_getElem? (i := 929) (by decide +kernel), List.mem_of_getElem? (i := 930) (by decide +kernel)⟩
theorem lw_p46 : lw_okq (⟨"MovingMarketModel", "sumOf", "(I)I"⟩, 17) := ⟨⟨by decide +kernel, by decide +kernel⟩, List.mem_of_getElem? (i := 727) (by decide +kernel), List.mem_of_getElem? (i := 933) (by decide +kernel), List.mem_of_getElem? (i := 934) (by decide +kernel)⟩
theorem lw_p47 : lw_okq (⟨"MovingMarketModel", "putsBack", "()V"⟩, 17) := ⟨⟨by decide +kernel, by decide +kernel⟩, List.mem_of_getElem? (i := 727) (by decide +kernel), List.mem_of_getElem? (i := 937) (by decide +kernel), List.mem_of_getElem? (i := 938) (by decide +kernel)⟩
def lw_privs_3 : List (MethodName × Nat) := [(⟨"MovingMarketModel", "isStall", "(I)Z"⟩, 17), (⟨"MovingMarketModel", "price", "(I)I"⟩, 17), (⟨"MovingMarketModel", "isGoing", "(I)Z"⟩, 17), (⟨"MovingMarketModel", "swaps", "(II)V"⟩, 17), (⟨"MovingMarketModel", "offer", "(II)I"⟩, 17), (⟨"MovingMarketModel", "isTooLate", "(I)Z"⟩, 17), (⟨"MovingMarketModel", "hoursGo", "(I)I"⟩, 17), (⟨"MovingMarketModel", "hour", "()I"⟩, 17), (⟨"MovingMarketModel", "sells", "(I)I"⟩, 17), (⟨"MovingMarketModel", "staying", "(Z)I"⟩, 17), (⟨"MovingMarketModel", "placesOf", "(I)I"⟩, 17), (⟨"MovingMarketModel", "saves", "()V"⟩, 17), (⟨"MovingMarketModel", "emptySet", "()I"⟩, 17), (⟨"MovingMarketModel", "everyPlace", "()I"⟩, 17), (⟨"MovingMarketModel", "sumOf", "(I)I"⟩, 17), (⟨"MovingMarketModel", "putsBack", "()V"⟩, 17)]
theorem lw_r3 : ∀ q ∈ lw_privs_3, lw_okq q := List.forall_mem_cons.mpr ⟨lw_p32, List.forall_mem_cons.mpr ⟨lw_p33, List.forall_mem_cons.mpr ⟨lw_p34, List.forall_mem_cons.mpr ⟨lw_p35, List.forall_mem_cons.mpr ⟨lw_p36, List.forall_mem_cons.mpr ⟨lw_p37, List.forall_mem_cons.mpr ⟨lw_p38, List.forall_mem_cons.mpr ⟨lw_p39, List.forall_mem_cons.mpr ⟨lw_p40, List.forall_mem_cons.mpr ⟨lw_p41, List.forall_mem_cons.mpr ⟨lw_p42, List.forall_mem_cons.mpr ⟨lw_p43, List.forall_mem_cons.mpr ⟨lw_p44, List.forall_mem_cons.mpr ⟨lw_p45, List.forall_mem_cons.mpr ⟨lw_p46, List.forall_mem_cons.mpr ⟨lw_p47, fun _ h => absurd h List.not_mem_nil⟩⟩⟩⟩⟩⟩⟩⟩⟩⟩⟩⟩⟩⟩⟩⟩
theorem lw_p48 : lw_okq (⟨"MovingMarketModel", "orderWrong", "(I)I"⟩, 17) := ⟨⟨by decide +kernel, by decide +kernel⟩, List.mem_of_getElem? (i := 727) (by decide +kernel), List.mem_of_getElem? (i := 967) (by decide +kernel), List.mem_of_getElem? (i := 968) (by decide +kernel)⟩
theorem lw_p49 : lw_okq (⟨"MovingMarketModel", "bestOrder", "(II)I"⟩, 17) := ⟨⟨by decide +kernel, by decide +kernel⟩, List.mem_of_getElem? (i := 727) (by decide +kernel), List.mem_of_getElem? (i := 972) (by decide +kernel), List.mem_of_getElem? (i := 973) (by decide +kernel)⟩
theorem lw_p50 : lw_okq (⟨"MovingMarketModel", "firstOrder", "()V"⟩, 17) := ⟨⟨by decide +kernel, by decide +kernel⟩, List.mem_of_getElem? (i := 727) (by decide +kernel), List.mem_of_getElem? (i := 976) (by decide +kernel), List.mem_of_getElem? (i := 977) (by decide +kernel)⟩
theorem lw_p51 : lw_okq (⟨"MovingMarketModel", "lays", "()V"⟩, 17) := ⟨⟨by decide +kernel, by decide +kernel⟩, List.mem_of_getElem? (i := 727) (by decide +kernel), List.mem_of_getElem? (i := 980) (by decide +kernel), List.mem_of_getElem? (i := 981) (by decide +kernel)⟩
theorem lw_p52 : lw_okq (⟨"MovingMarketModel", "nextOrder", "()Z"⟩, 17) := ⟨⟨by decide +kernel, by decide +kernel⟩, List.mem_of_getElem? (i := 727) (by decide +kernel), List.mem_of_getElem? (i := 984) (by decide +kernel), List.mem_of_getElem? (i := 985) (by decide +kernel)⟩
theorem lw_p53 : lw_okq (⟨"MovingMarketModel", "coinOf", "(II)I"⟩, 17) := ⟨⟨by decide +kernel, by decide +kernel⟩, List.mem_of_getElem? (i := 727) (by decide +kernel), List.mem_of_getElem? (i := 1003) (by decide +kernel), List.mem_of_getElem? (i := 1004) (by decide +kernel)⟩
theorem lw_p54 : lw_okq (⟨"MovingMarketModel", "besideSet", "(I)I"⟩, 17) := ⟨⟨by decide +kernel, by decide +kernel⟩, List.mem_of_getElem? (i := 727) (by decide +kernel), List.mem_of_getElem? (i := 1019) (by decide +kernel), List.mem_of_getElem? (i := 1020) (by decide +kernel)⟩
theorem lw_p55 : lw_okq (⟨"MovingMarketModel", "isBeside", "(II)Z"⟩, 17) := ⟨⟨by decide +kernel, by decide +kernel⟩, List.mem_of_getElem? (i := 727) (by decide +kernel), List.mem_of_getElem? (i := 1023) (by decide +kernel), List.mem_of_getElem? (i := 1024) (by decide +kernel)⟩
theorem lw_p56 : lw_okq (⟨"MovingMarketModel", "isTwo", "(II)Z"⟩, 17) := ⟨⟨by decide +kernel, by decide +kernel⟩, List.mem_of_getElem? (i := 727) (by decide +kernel), List.mem_of_getElem? (i := 1035) (by decide +kernel), List.mem_of_getElem? (i := 1036) (by decide +kernel)⟩
theorem lw_p57 : lw_okq (⟨"MovingMarketModel", "worthOf", "(III)I"⟩, 17) := ⟨⟨by decide +kernel, by decide +kernel⟩, List.mem_of_getElem? (i := 727) (by decide +kernel), List.mem_of_getElem? (i := 1047) (by decide +kernel), List.mem_of_getElem? (i := 1048) (by decide +kernel)⟩
theorem lw_p58 : lw_okq (⟨"MovingMarketModel", "draw", "()I"⟩, 17) := ⟨⟨by decide +kernel, by decide +kernel⟩, List.mem_of_getElem? (i := 727) (by decide +kernel), List.mem_of_getElem? (i := 1064) (by decide +kernel), List.mem_of_getElem? (i := 1065) (by decide +kernel)⟩
theorem lw_p59 : lw_okq (⟨"MovingMarketModel", "token", "()V"⟩, 17) := ⟨⟨by decide +kernel, by decide +kernel⟩, List.mem_of_getElem? (i := 727) (by decide +kernel), List.mem_of_getElem? (i := 1086) (by decide +kernel), List.mem_of_getElem? (i := 1087) (by decide +kernel)⟩
theorem lw_p60 : lw_okq (⟨"MovingMarketModel", "byteAt", "(I)I"⟩, 17) := ⟨⟨by decide +kernel, by decide +kernel⟩, List.mem_of_getElem? (i := 727) (by decide +kernel), List.mem_of_getElem? (i := 1090) (by decide +kernel), List.mem_of_getElem? (i := 1091) (by decide +kernel)⟩
theorem lw_p61 : lw_okq (⟨"MovingMarketModel", "item", "()V"⟩, 17) := ⟨⟨by decide +kernel, by decide +kernel⟩, List.mem_of_getElem? (i := 727) (by decide +kernel), List.mem_of_getElem? (i := 1103) (by decide +kernel), List.mem_of_getElem? (i := 1104) (by decide +kernel)⟩
theorem lw_p62 : lw_okq (⟨"MovingMarketModel", "kindHere", "()I"⟩, 17) := ⟨⟨by decide +kernel, by decide +kernel⟩, List.mem_of_getElem? (i := 727) (by decide +kernel), List.mem_of_getElem? (i := 1107) (by decide +kernel), List.mem_of_getElem? (i := 1108) (by decide +kernel)⟩
theorem lw_p63 : lw_okq (⟨"MovingMarketModel", "word", "()J"⟩, 17) := ⟨⟨by decide +kernel, by decide +kernel⟩, List.mem_of_getElem? (i := 727) (by decide +kernel), List.mem_of_getElem? (i := 1111) (by decide +kernel), List.mem_of_getElem? (i := 1112) (by decide +kernel)⟩
def lw_privs_4 : List (MethodName × Nat) := [(⟨"MovingMarketModel", "orderWrong", "(I)I"⟩, 17), (⟨"MovingMarketModel", "bestOrder", "(II)I"⟩, 17), (⟨"MovingMarketModel", "firstOrder", "()V"⟩, 17), (⟨"MovingMarketModel", "lays", "()V"⟩, 17), (⟨"MovingMarketModel", "nextOrder", "()Z"⟩, 17), (⟨"MovingMarketModel", "coinOf", "(II)I"⟩, 17), (⟨"MovingMarketModel", "besideSet", "(I)I"⟩, 17), (⟨"MovingMarketModel", "isBeside", "(II)Z"⟩, 17), (⟨"MovingMarketModel", "isTwo", "(II)Z"⟩, 17), (⟨"MovingMarketModel", "worthOf", "(III)I"⟩, 17), (⟨"MovingMarketModel", "draw", "()I"⟩, 17), (⟨"MovingMarketModel", "token", "()V"⟩, 17), (⟨"MovingMarketModel", "byteAt", "(I)I"⟩, 17), (⟨"MovingMarketModel", "item", "()V"⟩, 17), (⟨"MovingMarketModel", "kindHere", "()I"⟩, 17), (⟨"MovingMarketModel", "word", "()J"⟩, 17)]
theorem lw_r4 : ∀ q ∈ lw_privs_4, lw_okq q := List.forall_mem_cons.mpr ⟨lw_p48, List.forall_mem_cons.mpr ⟨lw_p49, List.forall_mem_cons.mpr ⟨lw_p50, List.forall_mem_cons.mpr ⟨lw_p51, List.forall_mem_cons.mpr ⟨lw_p52, List.forall_mem_cons.mpr ⟨lw_p53, List.forall_mem_cons.mpr ⟨lw_p54, List.forall_mem_cons.mpr ⟨lw_p55, List.forall_mem_cons.mpr ⟨lw_p56, List.forall_mem_cons.mpr ⟨lw_p57, List.forall_mem_cons.mpr ⟨lw_p58, List.forall_mem_cons.mpr ⟨lw_p59, List.forall_mem_cons.mpr ⟨lw_p60, List.forall_mem_cons.mpr ⟨lw_p61, List.forall_mem_cons.mpr ⟨lw_p62, List.forall_mem_cons.mpr ⟨lw_p63, fun _ h => absurd h List.not_mem_nil⟩⟩⟩⟩⟩⟩⟩⟩⟩⟩⟩⟩⟩⟩⟩⟩
theorem lw_p64 : lw_okq (⟨"MovingMarketModel", "stallItem", "(I)V"⟩, 17) := ⟨⟨by decide +kernel, by decide +kernel⟩, List.mem_of_getElem? (i := 727) (by decide +kernel), List.mem_of_getElem? (i := 1125) (by decide +kernel), List.mem_of_getElem? (i := 1126) (by decide +kernel)⟩
theorem lw_p65 : lw_okq (⟨"MovingMarketModel", "needs", "(Z)V"⟩, 17) := ⟨⟨by decide +kernel, by decide +kernel⟩, List.mem_of_getElem? (i := 727) (by decide +kernel), List.mem_of_getElem? (i := 1129) (by decide +kernel), List.mem_of_getElem? (i := 1130) (by decide +kernel)⟩
theorem lw_p66 : lw_okq (⟨"MovingMarketModel", "freePlace", "()V"⟩, 17) := ⟨⟨by decide +kernel, by decide +kernel⟩, List.mem_of_getElem? (i := 727) (by decide +kernel), List.mem_of_getElem? (i := 1134) (by decide +kernel), List.mem_of_getElem? (i := 1135) (by decide +kernel)⟩
theorem lw_p67 : lw_okq (⟨"MovingMarketModel", "perhaps", "(ZIII)I"⟩, 17) := ⟨⟨by decide +kernel, by decide +kernel⟩, List.mem_of_getElem? (i := 727) (by decide +kernel), List.mem_of_getElem? (i := 1139) (by decide +kernel), List.mem_of_getElem? (i := 1140) (by decide +kernel)⟩
theorem lw_p68 : lw_okq (⟨"MovingMarketModel", "number", "(II)V"⟩, 17) := ⟨⟨by decide +kernel, by decide +kernel⟩, List.mem_of_getElem? (i := 727) (by decide +kernel), List.mem_of_getElem? (i := 1143) (by decide +kernel), List.mem_of_getElem? (i := 1144) (by decide +kernel)⟩
theorem lw_p69 : lw_okq (⟨"MovingMarketModel", "visitsItem", "()V"⟩, 17) := ⟨⟨by decide +kernel, by decide +kernel⟩, List.mem_of_getElem? (i := 727) (by decide +kernel), List.mem_of_getElem? (i := 1148) (by decide +kernel), List.mem_of_getElem? (i := 1149) (by decide +kernel)⟩
theorem lw_p70 : lw_okq (⟨"MovingMarketModel", "wrong", "(I)I"⟩, 17) := ⟨⟨by decide +kernel, by decide +kernel⟩, List.mem_of_getElem? (i := 727) (by decide +kernel), List.mem_of_getElem? (i := 1179) (by decide +kernel), List.mem_of_getElem? (i := 1180) (by decide +kernel)⟩
theorem lw_p71 : lw_okq (⟨"MovingMarketModel", "isSo", "(II)Z"⟩, 17) := ⟨⟨by decide +kernel, by decide +kernel⟩, List.mem_of_getElem? (i := 727) (by decide +kernel), List.mem_of_getElem? (i := 1198) (by decide +kernel), List.mem_of_getElem? (i := 1199) (by decide +kernel)⟩
theorem lw_p72 : lw_okq (⟨"MovingMarketModel", "visitsOfAll", "()I"⟩, 17) := ⟨⟨by decide +kernel, by decide +kernel⟩, List.mem_of_getElem? (i := 727) (by decide +kernel), List.mem_of_getElem? (i := 1222) (by decide +kernel), List.mem_of_getElem? (i := 1223) (by decide +kernel)⟩
theorem lw_p73 : lw_okq (⟨"MovingMarketModel", "held", "()I"⟩, 17) := ⟨⟨by decide +kernel, by decide +kernel⟩, List.mem_of_getElem? (i := 727) (by decide +kernel), List.mem_of_getElem? (i := 1226) (by decide +kernel), List.mem_of_getElem? (i := 1227) (by decide +kernel)⟩
def lw_privs_5 : List (MethodName × Nat) := [(⟨"MovingMarketModel", "stallItem", "(I)V"⟩, 17), (⟨"MovingMarketModel", "needs", "(Z)V"⟩, 17), (⟨"MovingMarketModel", "freePlace", "()V"⟩, 17), (⟨"MovingMarketModel", "perhaps", "(ZIII)I"⟩, 17), (⟨"MovingMarketModel", "number", "(II)V"⟩, 17), (⟨"MovingMarketModel", "visitsItem", "()V"⟩, 17), (⟨"MovingMarketModel", "wrong", "(I)I"⟩, 17), (⟨"MovingMarketModel", "isSo", "(II)Z"⟩, 17), (⟨"MovingMarketModel", "visitsOfAll", "()I"⟩, 17), (⟨"MovingMarketModel", "held", "()I"⟩, 17)]
theorem lw_r5 : ∀ q ∈ lw_privs_5, lw_okq q := List.forall_mem_cons.mpr ⟨lw_p64, List.forall_mem_cons.mpr ⟨lw_p65, List.forall_mem_cons.mpr ⟨lw_p66, List.forall_mem_cons.mpr ⟨lw_p67, List.forall_mem_cons.mpr ⟨lw_p68, List.forall_mem_cons.mpr ⟨lw_p69, List.forall_mem_cons.mpr ⟨lw_p70, List.forall_mem_cons.mpr ⟨lw_p71, List.forall_mem_cons.mpr ⟨lw_p72, List.forall_mem_cons.mpr ⟨lw_p73, fun _ h => absurd h List.not_mem_nil⟩⟩⟩⟩⟩⟩⟩⟩⟩⟩
def lw_privs : List (MethodName × Nat) := lw_privs_1 ++ (lw_privs_2 ++ (lw_privs_3 ++ (lw_privs_4 ++ (lw_privs_5))))
def lw_tbl : List Cond := k2_sels lw_privs ++ tables_1
theorem lw_privs_ok : ∀ q ∈ lw_privs, lw_okq q := by
  show ∀ q ∈ lw_privs_1 ++ (lw_privs_2 ++ (lw_privs_3 ++ (lw_privs_4 ++ (lw_privs_5)))), lw_okq q
  exact List.forall_mem_append.mpr ⟨lw_r1, List.forall_mem_append.mpr ⟨lw_r2, List.forall_mem_append.mpr ⟨lw_r3, List.forall_mem_append.mpr ⟨lw_r4, lw_r5⟩⟩⟩⟩
end
section
def RX0 : String := "MovingMarket$Order"
def TX0 : u_T := fun k => match k with
  | 0 => ("MovingMarket$Order", "taken", "[I", true)
  | _ => ("MovingMarket$Order", "stalls", "I", false)
def tyX0 : Nat → FieldType := fun k => match k with
  | 0 => .array .int
  | _ => .int
abbrev wsX00 : List Cond := u_ws RX0 TX0 2
theorem nmX0 : ∀ a, a < 2 → ∀ b, b < 2 → a ≠ b → (TX0 a).2.1 ≠ (TX0 b).2.1 := by decide +kernel
theorem tyX0_ok : ∀ k, k < 2 → parseFieldDescriptor (TX0 k).2.2.1 = some (tyX0 k) := by decide +kernel
abbrev cX0_init : ByteArray := prog_2_method_1_code
def yX0_init : MethodName := ⟨RX0, "<init>", "()V"⟩
abbrev cX0_begin : ByteArray := prog_2_method_2_code
def yX0_begin : MethodName := ⟨RX0, "begin", "(I)I"⟩
abbrev cX0_become : ByteArray := prog_2_method_3_code
def yX0_become : MethodName := ⟨RX0, "become", "(LMovingMarket$Order;)V"⟩
abbrev cX0_advance : ByteArray := prog_2_method_4_code
def yX0_advance : MethodName := ⟨RX0, "advance", "()V"⟩
abbrev cX0_exchangeTaken : ByteArray := prog_2_method_5_code
def yX0_exchangeTaken : MethodName := ⟨RX0, "exchangeTaken", "(II)V"⟩
def RX1 : String := "MovingMarket$Sheet"
def TX1 : u_T := fun k => match k with
  | 0 => ("MovingMarket$Sheet", "numbers", "[I", true)
  | 1 => ("MovingMarket$Sheet", "bits", "I", false)
  | _ => ("MovingMarket$Sheet", "length", "I", false)
def tyX1 : Nat → FieldType := fun k => match k with
  | 0 => .array .int
  | 1 => .int
  | _ => .int
abbrev wsX10 : List Cond := u_ws RX1 TX1 3
theorem nmX1 : ∀ a, a < 3 → ∀ b, b < 3 → a ≠ b → (TX1 a).2.1 ≠ (TX1 b).2.1 := by decide +kernel
theorem tyX1_ok : ∀ k, k < 3 → parseFieldDescriptor (TX1 k).2.2.1 = some (tyX1 k) := by decide +kernel
abbrev cX1_init : ByteArray := prog_3_method_1_code
def yX1_init : MethodName := ⟨RX1, "<init>", "()V"⟩
abbrev cX1_begin : ByteArray := prog_3_method_2_code
def yX1_begin : MethodName := ⟨RX1, "begin", "(II)V"⟩
abbrev cX1_put : ByteArray := prog_3_method_3_code
def yX1_put : MethodName := ⟨RX1, "put", "(II)V"⟩
abbrev cX1_hasPart : ByteArray := prog_3_method_4_code
def yX1_hasPart : MethodName := ⟨RX1, "hasPart", "(II)Z"⟩
def RX2 : String := "MovingMarket$Square"
def TX2 : u_T := fun k => match k with
  | 0 => ("MovingMarket$Square", "visitsAt", "[I", true)
  | 1 => ("MovingMarket$Square", "shadeAt", "[I", true)
  | 2 => ("MovingMarket$Square", "kindOf", "[I", true)
  | 3 => ("MovingMarket$Square", "whereIs", "[I", true)
  | 4 => ("MovingMarket$Square", "goodsOf", "[I", true)
  | 5 => ("MovingMarket$Square", "coinOf", "[I", true)
  | 6 => ("MovingMarket$Square", "soldOf", "[I", true)
  | 7 => ("MovingMarket$Square", "heldIn", "[I", true)
  | 8 => ("MovingMarket$Square", "springAt", "I", false)
  | 9 => ("MovingMarket$Square", "stalls", "I", false)
  | 10 => ("MovingMarket$Square", "hour", "I", false)
  | _ => ("MovingMarket$Square", "z", "I", false)
def tyX2 : Nat → FieldType := fun k => match k with
  | 0 => .array .int
  | 1 => .array .int
  | 2 => .array .int
  | 3 => .array .int
  | 4 => .array .int
  | 5 => .array .int
  | 6 => .array .int
  | 7 => .array .int
  | 8 => .int
  | 9 => .int
  | 10 => .int
  | _ => .int
abbrev wsX20 : List Cond := u_ws RX2 TX2 12
theorem nmX2 : ∀ a, a < 12 → ∀ b, b < 12 → a ≠ b → (TX2 a).2.1 ≠ (TX2 b).2.1 := by decide +kernel
theorem tyX2_ok : ∀ k, k < 12 → parseFieldDescriptor (TX2 k).2.2.1 = some (tyX2 k) := by decide +kernel
abbrev cX2_init : ByteArray := prog_4_method_1_code
def yX2_init : MethodName := ⟨RX2, "<init>", "()V"⟩
abbrev cX2_become : ByteArray := prog_4_method_2_code
def yX2_become : MethodName := ⟨RX2, "become", "(LMovingMarket$Square;)V"⟩
abbrev cX2_addStall : ByteArray := prog_4_method_3_code
def yX2_addStall : MethodName := ⟨RX2, "addStall", "(II)I"⟩
abbrev cX2_stallAt : ByteArray := prog_4_method_4_code
def yX2_stallAt : MethodName := ⟨RX2, "stallAt", "(I)I"⟩
abbrev cX2_isOfKind : ByteArray := prog_4_method_5_code
def yX2_isOfKind : MethodName := ⟨RX2, "isOfKind", "(II)Z"⟩
abbrev cX2_priceOf : ByteArray := prog_4_method_6_code
def yX2_priceOf : MethodName := ⟨RX2, "priceOf", "(I)I"⟩
abbrev cX2_wouldGo : ByteArray := prog_4_method_7_code
def yX2_wouldGo : MethodName := ⟨RX2, "wouldGo", "(I)Z"⟩
abbrev cX2_offerAt : ByteArray := prog_4_method_8_code
def yX2_offerAt : MethodName := ⟨RX2, "offerAt", "(II)I"⟩
abbrev cX2_twofoldVisits : ByteArray := prog_4_method_9_code
def yX2_twofoldVisits : MethodName := ⟨RX2, "twofoldVisits", "(I)I"⟩
abbrev cX2_exchange : ByteArray := prog_4_method_10_code
def yX2_exchange : MethodName := ⟨RX2, "exchange", "(II)V"⟩
abbrev cX2_bring : ByteArray := prog_4_method_11_code
def yX2_bring : MethodName := ⟨RX2, "bring", "(II)V"⟩
abbrev cX2_passHours : ByteArray := prog_4_method_12_code
def yX2_passHours : MethodName := ⟨RX2, "passHours", "(I)I"⟩
abbrev cX2_passHour : ByteArray := prog_4_method_13_code
def yX2_passHour : MethodName := ⟨RX2, "passHour", "()I"⟩
abbrev cX2_sellAll : ByteArray := prog_4_method_14_code
def yX2_sellAll : MethodName := ⟨RX2, "sellAll", "()I"⟩
abbrev cX2_strike : ByteArray := prog_4_method_15_code
def yX2_strike : MethodName := ⟨RX2, "strike", "()V"⟩
abbrev cX2_stayers : ByteArray := prog_4_method_16_code
def yX2_stayers : MethodName := ⟨RX2, "stayers", "()I"⟩
abbrev cX2_placesOf : ByteArray := prog_4_method_17_code
def yX2_placesOf : MethodName := ⟨RX2, "placesOf", "(I)I"⟩
abbrev cX2_stepsFrom : ByteArray := prog_4_method_18_code
def yX2_stepsFrom : MethodName := ⟨RX2, "stepsFrom", "(II)I"⟩
abbrev cX2_standsLike : ByteArray := prog_4_method_19_code
def yX2_standsLike : MethodName := ⟨RX2, "standsLike", "(LMovingMarket$Square;)Z"⟩
abbrev cX2_areBeside : ByteArray := prog_4_method_20_code
def yX2_areBeside : MethodName := ⟨RX2, "areBeside", "(II)Z"⟩
abbrev cX2_besideSet : ByteArray := prog_4_method_21_code
def yX2_besideSet : MethodName := ⟨RX2, "besideSet", "(I)I"⟩
abbrev cX2_soldOut : ByteArray := prog_4_method_22_code
def yX2_soldOut : MethodName := ⟨RX2, "soldOut", "()I"⟩
abbrev cX2_freePlaces : ByteArray := prog_4_method_23_code
def yX2_freePlaces : MethodName := ⟨RX2, "freePlaces", "()I"⟩
abbrev cX2_allCoin : ByteArray := prog_4_method_24_code
def yX2_allCoin : MethodName := ⟨RX2, "allCoin", "()I"⟩
abbrev cX2_allGoods : ByteArray := prog_4_method_25_code
def yX2_allGoods : MethodName := ⟨RX2, "allGoods", "()I"⟩
abbrev cX2_allVisits : ByteArray := prog_4_method_26_code
def yX2_allVisits : MethodName := ⟨RX2, "allVisits", "()I"⟩
abbrev cX2_spotsInUse : ByteArray := prog_4_method_27_code
def yX2_spotsInUse : MethodName := ⟨RX2, "spotsInUse", "()I"⟩
abbrev cX2_draw : ByteArray := prog_4_method_28_code
def yX2_draw : MethodName := ⟨RX2, "draw", "()I"⟩
def RX3 : String := "MovingMarket$Tape"
def TX3 : u_T := fun k => match k with
  | 0 => ("MovingMarket$Tape", "bytes", "[I", true)
  | 1 => ("MovingMarket$Tape", "length", "I", false)
  | 2 => ("MovingMarket$Tape", "sort", "I", false)
  | 3 => ("MovingMarket$Tape", "begin", "I", false)
  | 4 => ("MovingMarket$Tape", "end", "I", false)
  | _ => ("MovingMarket$Tape", "value", "I", false)
def tyX3 : Nat → FieldType := fun k => match k with
  | 0 => .array .int
  | 1 => .int
  | 2 => .int
  | 3 => .int
  | 4 => .int
  | _ => .int
abbrev wsX30 : List Cond := u_ws RX3 TX3 6
theorem nmX3 : ∀ a, a < 6 → ∀ b, b < 6 → a ≠ b → (TX3 a).2.1 ≠ (TX3 b).2.1 := by decide +kernel
theorem tyX3_ok : ∀ k, k < 6 → parseFieldDescriptor (TX3 k).2.2.1 = some (tyX3 k) := by decide +kernel
abbrev cX3_init : ByteArray := prog_5_method_1_code
def yX3_init : MethodName := ⟨RX3, "<init>", "()V"⟩
abbrev cX3_put : ByteArray := prog_5_method_2_code
def yX3_put : MethodName := ⟨RX3, "put", "(I)V"⟩
abbrev cX3_readText : ByteArray := prog_5_method_3_code
def yX3_readText : MethodName := ⟨RX3, "readText", "(LMovingMarket$Square;)I"⟩
abbrev cX3_readOn : ByteArray := prog_5_method_4_code
def yX3_readOn : MethodName := ⟨RX3, "readOn", "()V"⟩
abbrev cX3_readRun : ByteArray := prog_5_method_5_code
def yX3_readRun : MethodName := ⟨RX3, "readRun", "(CC)V"⟩
abbrev cX3_isBetween : ByteArray := prog_5_method_6_code
def yX3_isBetween : MethodName := ⟨RX3, "isBetween", "(ICC)Z"⟩
abbrev cX3_valueOfRun : ByteArray := prog_5_method_7_code
def yX3_valueOfRun : MethodName := ⟨RX3, "valueOfRun", "()I"⟩
abbrev cX3_readItem : ByteArray := prog_5_method_8_code
def yX3_readItem : MethodName := ⟨RX3, "readItem", "(LMovingMarket$Square;)Z"⟩
abbrev cX3_readStall : ByteArray := prog_5_method_9_code
def yX3_readStall : MethodName := ⟨RX3, "readStall", "(LMovingMarket$Square;I)Z"⟩
abbrev cX3_readVisits : ByteArray := prog_5_method_10_code
def yX3_readVisits : MethodName := ⟨RX3, "readVisits", "(LMovingMarket$Square;)Z"⟩
abbrev cX3_readShade : ByteArray := prog_5_method_11_code
def yX3_readShade : MethodName := ⟨RX3, "readShade", "(LMovingMarket$Square;I)Z"⟩
abbrev cX3_readSpring : ByteArray := prog_5_method_12_code
def yX3_readSpring : MethodName := ⟨RX3, "readSpring", "(LMovingMarket$Square;)Z"⟩
abbrev cX3_isNumber : ByteArray := prog_5_method_13_code
def yX3_isNumber : MethodName := ⟨RX3, "isNumber", "(II)Z"⟩
abbrev cX3_kindOfWord : ByteArray := prog_5_method_14_code
def yX3_kindOfWord : MethodName := ⟨RX3, "kindOfWord", "()I"⟩
abbrev cX3_isWord : ByteArray := prog_5_method_15_code
def yX3_isWord : MethodName := ⟨RX3, "isWord", "(Ljava/lang/String;)Z"⟩
abbrev cX3_wordOfKind : ByteArray := prog_5_method_16_code
def yX3_wordOfKind : MethodName := ⟨RX3, "wordOfKind", "(I)Ljava/lang/String;"⟩
def RX4 : String := "MovingMarket"
def TX4 : u_T := fun k => match k with
  | 0 => ("MovingMarket", "now", "LMovingMarket$Square;", true)
  | 1 => ("MovingMarket", "trial", "LMovingMarket$Square;", true)
  | 2 => ("MovingMarket", "kept", "LMovingMarket$Square;", true)
  | 3 => ("MovingMarket", "tried", "LMovingMarket$Order;", true)
  | 4 => ("MovingMarket", "winner", "LMovingMarket$Order;", true)
  | 5 => ("MovingMarket", "tape", "LMovingMarket$Tape;", true)
  | 6 => ("MovingMarket", "sheets", "[LMovingMarket$Sheet;", true)
  | 7 => ("MovingMarket", "plainCoin", "[I", true)
  | 8 => ("MovingMarket", "told", "[I", true)
  | _ => ("MovingMarket", "isKept", "Z", false)
def tyX4 : Nat → FieldType := fun k => match k with
  | 0 => .object "MovingMarket$Square"
  | 1 => .object "MovingMarket$Square"
  | 2 => .object "MovingMarket$Square"
  | 3 => .object "MovingMarket$Order"
  | 4 => .object "MovingMarket$Order"
  | 5 => .object "MovingMarket$Tape"
  | 6 => .array (.object "MovingMarket$Sheet")
  | 7 => .array .int
  | 8 => .array .int
  | _ => .boolean
abbrev wsX40 : List Cond := u_ws RX4 TX4 10
theorem nmX4 : ∀ a, a < 10 → ∀ b, b < 10 → a ≠ b → (TX4 a).2.1 ≠ (TX4 b).2.1 := by decide +kernel
theorem tyX4_ok : ∀ k, k < 10 → parseFieldDescriptor (TX4 k).2.2.1 = some (tyX4 k) := by decide +kernel
abbrev cX4_init : ByteArray := prog_1_method_1_code
def yX4_init : MethodName := ⟨RX4, "<init>", "()V"⟩
abbrev cX4_visits : ByteArray := prog_1_method_2_code
def yX4_visits : MethodName := ⟨RX4, "visits", "(II)I"⟩
abbrev cX4_shade : ByteArray := prog_1_method_3_code
def yX4_shade : MethodName := ⟨RX4, "shade", "(IZ)I"⟩
abbrev cX4_spring : ByteArray := prog_1_method_4_code
def yX4_spring : MethodName := ⟨RX4, "spring", "(I)I"⟩
abbrev cX4_stall : ByteArray := prog_1_method_5_code
def yX4_stall : MethodName := ⟨RX4, "stall", "(II)I"⟩
abbrev cX4_of : ByteArray := prog_1_method_6_code
def yX4_of : MethodName := ⟨RX4, "of", "(II)I"⟩
abbrev cX4_change : ByteArray := prog_1_method_7_code
def yX4_change : MethodName := ⟨RX4, "change", "(III)I"⟩
abbrev cX4_swap : ByteArray := prog_1_method_8_code
def yX4_swap : MethodName := ⟨RX4, "swap", "(II)I"⟩
abbrev cX4_offers : ByteArray := prog_1_method_9_code
def yX4_offers : MethodName := ⟨RX4, "offers", "(II)I"⟩
abbrev cX4_placeOf : ByteArray := prog_1_method_10_code
def yX4_placeOf : MethodName := ⟨RX4, "placeOf", "(II)I"⟩
abbrev cX4_hours : ByteArray := prog_1_method_11_code
def yX4_hours : MethodName := ⟨RX4, "hours", "(I)I"⟩
abbrev cX4_stay : ByteArray := prog_1_method_12_code
def yX4_stay : MethodName := ⟨RX4, "stay", "()I"⟩
abbrev cX4_ahead : ByteArray := prog_1_method_13_code
def yX4_ahead : MethodName := ⟨RX4, "ahead", "(II)I"⟩
abbrev cX4_when : ByteArray := prog_1_method_14_code
def yX4_when : MethodName := ⟨RX4, "when", "(II)I"⟩
abbrev cX4_empty : ByteArray := prog_1_method_15_code
def yX4_empty : MethodName := ⟨RX4, "empty", "(I)I"⟩
abbrev cX4_again : ByteArray := prog_1_method_16_code
def yX4_again : MethodName := ⟨RX4, "again", "()I"⟩
abbrev cX4_there : ByteArray := prog_1_method_17_code
def yX4_there : MethodName := ⟨RX4, "there", "(II)I"⟩
abbrev cX4_passes : ByteArray := prog_1_method_18_code
def yX4_passes : MethodName := ⟨RX4, "passes", "(I)I"⟩
abbrev cX4_most : ByteArray := prog_1_method_19_code
def yX4_most : MethodName := ⟨RX4, "most", "(I)I"⟩
abbrev cX4_order : ByteArray := prog_1_method_20_code
def yX4_order : MethodName := ⟨RX4, "order", "(II)I"⟩
abbrev cX4_dawn : ByteArray := prog_1_method_21_code
def yX4_dawn : MethodName := ⟨RX4, "dawn", "(III)I"⟩
abbrev cX4_throwAway : ByteArray := prog_1_method_22_code
def yX4_throwAway : MethodName := ⟨RX4, "throwAway", "(II)I"⟩
abbrev cX4_wishes : ByteArray := prog_1_method_23_code
def yX4_wishes : MethodName := ⟨RX4, "wishes", "(II)I"⟩
abbrev cX4_deal : ByteArray := prog_1_method_24_code
def yX4_deal : MethodName := ⟨RX4, "deal", "(I)I"⟩
abbrev cX4_beside : ByteArray := prog_1_method_25_code
def yX4_beside : MethodName := ⟨RX4, "beside", "(I)I"⟩
abbrev cX4_ever : ByteArray := prog_1_method_26_code
def yX4_ever : MethodName := ⟨RX4, "ever", "(II)I"⟩
abbrev cX4_meet : ByteArray := prog_1_method_27_code
def yX4_meet : MethodName := ⟨RX4, "meet", "(II)I"⟩
abbrev cX4_never : ByteArray := prog_1_method_28_code
def yX4_never : MethodName := ⟨RX4, "never", "(III)I"⟩
abbrev cX4_worth : ByteArray := prog_1_method_29_code
def yX4_worth : MethodName := ⟨RX4, "worth", "(III)I"⟩
abbrev cX4_best : ByteArray := prog_1_method_30_code
def yX4_best : MethodName := ⟨RX4, "best", "(II)I"⟩
abbrev cX4_thief : ByteArray := prog_1_method_31_code
def yX4_thief : MethodName := ⟨RX4, "thief", "(II)I"⟩
abbrev cX4_lots : ByteArray := prog_1_method_32_code
def yX4_lots : MethodName := ⟨RX4, "lots", "(I)I"⟩
abbrev cX4_seed : ByteArray := prog_1_method_33_code
def yX4_seed : MethodName := ⟨RX4, "seed", "(I)I"⟩
abbrev cX4_feed : ByteArray := prog_1_method_34_code
def yX4_feed : MethodName := ⟨RX4, "feed", "(II)I"⟩
abbrev cX4_wipe : ByteArray := prog_1_method_35_code
def yX4_wipe : MethodName := ⟨RX4, "wipe", "()I"⟩
abbrev cX4_text : ByteArray := prog_1_method_36_code
def yX4_text : MethodName := ⟨RX4, "text", "()I"⟩
abbrev cX4_hold : ByteArray := prog_1_method_37_code
def yX4_hold : MethodName := ⟨RX4, "hold", "(II)I"⟩
abbrev cX4_as : ByteArray := prog_1_method_38_code
def yX4_as : MethodName := ⟨RX4, "as", "(II)I"⟩
abbrev cX4_sheet : ByteArray := prog_1_method_39_code
def yX4_sheet : MethodName := ⟨RX4, "sheet", "(III)I"⟩
abbrev cX4_write : ByteArray := prog_1_method_40_code
def yX4_write : MethodName := ⟨RX4, "write", "(III)I"⟩
abbrev cX4_copy : ByteArray := prog_1_method_41_code
def yX4_copy : MethodName := ⟨RX4, "copy", "(IIIII)I"⟩
abbrev cX4_load : ByteArray := prog_1_method_42_code
def yX4_load : MethodName := ⟨RX4, "load", "(I)I"⟩
abbrev cX4_fit : ByteArray := prog_1_method_43_code
def yX4_fit : MethodName := ⟨RX4, "fit", "(I)I"⟩
abbrev cX4_judge : ByteArray := prog_1_method_44_code
def yX4_judge : MethodName := ⟨RX4, "judge", "(II)I"⟩
abbrev cX4_image : ByteArray := prog_1_method_45_code
def yX4_image : MethodName := ⟨RX4, "image", "()I"⟩
abbrev cX4_undo : ByteArray := prog_1_method_46_code
def yX4_undo : MethodName := ⟨RX4, "undo", "()I"⟩
abbrev cX4_tear : ByteArray := prog_1_method_47_code
def yX4_tear : MethodName := ⟨RX4, "tear", "()I"⟩
abbrev cX4_count : ByteArray := prog_1_method_48_code
def yX4_count : MethodName := ⟨RX4, "count", "(I)I"⟩
abbrev cX4_status : ByteArray := prog_1_method_49_code
def yX4_status : MethodName := ⟨RX4, "status", "(I)I"⟩
abbrev cX4_finding : ByteArray := prog_1_method_50_code
def yX4_finding : MethodName := ⟨RX4, "finding", "(I)I"⟩
abbrev cX4_isPlace : ByteArray := prog_1_method_51_code
def yX4_isPlace : MethodName := ⟨RX4, "isPlace", "(I)Z"⟩
abbrev cX4_isKind : ByteArray := prog_1_method_52_code
def yX4_isKind : MethodName := ⟨RX4, "isKind", "(I)Z"⟩
abbrev cX4_isSpot : ByteArray := prog_1_method_53_code
def yX4_isSpot : MethodName := ⟨RX4, "isSpot", "(I)Z"⟩
abbrev cX4_isSheet : ByteArray := prog_1_method_54_code
def yX4_isSheet : MethodName := ⟨RX4, "isSheet", "(I)Z"⟩
abbrev cX4_isStall : ByteArray := prog_1_method_55_code
def yX4_isStall : MethodName := ⟨RX4, "isStall", "(I)Z"⟩
abbrev cX4_isPair : ByteArray := prog_1_method_56_code
def yX4_isPair : MethodName := ⟨RX4, "isPair", "(II)Z"⟩
abbrev cX4_aheadFinding : ByteArray := prog_1_method_57_code
def yX4_aheadFinding : MethodName := ⟨RX4, "aheadFinding", "(ZIII)I"⟩
abbrev cX4_orderFinding : ByteArray := prog_1_method_58_code
def yX4_orderFinding : MethodName := ⟨RX4, "orderFinding", "(ZII)I"⟩
abbrev cX4_sheetFinding : ByteArray := prog_1_method_59_code
def yX4_sheetFinding : MethodName := ⟨RX4, "sheetFinding", "(I)I"⟩
abbrev cX4_tryOrder : ByteArray := prog_1_method_60_code
def yX4_tryOrder : MethodName := ⟨RX4, "tryOrder", "()V"⟩
abbrev cX4_searchMost : ByteArray := prog_1_method_61_code
def yX4_searchMost : MethodName := ⟨RX4, "searchMost", "(I)I"⟩
abbrev cX4_swapAhead : ByteArray := prog_1_method_62_code
def yX4_swapAhead : MethodName := ⟨RX4, "swapAhead", "(III)V"⟩
abbrev cX4_coinFrom : ByteArray := prog_1_method_63_code
def yX4_coinFrom : MethodName := ⟨RX4, "coinFrom", "(III)I"⟩
abbrev cX4_firstBeside : ByteArray := prog_1_method_64_code
def yX4_firstBeside : MethodName := ⟨RX4, "firstBeside", "(III)I"⟩
abbrev cX4_lastWordHour : ByteArray := prog_1_method_65_code
def yX4_lastWordHour : MethodName := ⟨RX4, "lastWordHour", "(LMovingMarket$Sheet;)I"⟩
abbrev cX4_wordsAreSo : ByteArray := prog_1_method_66_code
def yX4_wordsAreSo : MethodName := ⟨RX4, "wordsAreSo", "(LMovingMarket$Sheet;I)Z"⟩
def RX5 : String := "MovingMarketModel"
def TX5 : u_T := fun k => match k with
  | 0 => ("MovingMarketModel", "s", "[I", true)
  | 1 => ("MovingMarketModel", "keptS", "[I", true)
  | 2 => ("MovingMarketModel", "other", "[I", true)
  | 3 => ("MovingMarketModel", "statuses", "[I", true)
  | 4 => ("MovingMarketModel", "isKept", "Z", false)
  | 5 => ("MovingMarketModel", "takes", "[I", true)
  | 6 => ("MovingMarketModel", "bestTake", "I", false)
  | 7 => ("MovingMarketModel", "tape", "[I", true)
  | 8 => ("MovingMarketModel", "taped", "I", false)
  | 9 => ("MovingMarketModel", "from", "I", false)
  | 10 => ("MovingMarketModel", "to", "I", false)
  | 11 => ("MovingMarketModel", "value", "I", false)
  | 12 => ("MovingMarketModel", "isWrong", "Z", false)
  | 13 => ("MovingMarketModel", "bitsOf", "[I", true)
  | 14 => ("MovingMarketModel", "sizeOf", "[I", true)
  | 15 => ("MovingMarketModel", "number", "[I", true)
  | _ => ("MovingMarketModel", "moved", "[I", true)
def tyX5 : Nat → FieldType := fun k => match k with
  | 0 => .array .int
  | 1 => .array .int
  | 2 => .array .int
  | 3 => .array .int
  | 4 => .boolean
  | 5 => .array .int
  | 6 => .int
  | 7 => .array .int
  | 8 => .int
  | 9 => .int
  | 10 => .int
  | 11 => .int
  | 12 => .boolean
  | 13 => .array .int
  | 14 => .array .int
  | 15 => .array .int
  | _ => .array .int
abbrev wsX50 : List Cond := u_ws RX5 TX5 17
theorem nmX5 : ∀ a, a < 17 → ∀ b, b < 17 → a ≠ b → (TX5 a).2.1 ≠ (TX5 b).2.1 := by decide +kernel
theorem tyX5_ok : ∀ k, k < 17 → parseFieldDescriptor (TX5 k).2.2.1 = some (tyX5 k) := by decide +kernel
abbrev cX5_init : ByteArray := prog_7_method_1_code
def yX5_init : MethodName := ⟨RX5, "<init>", "()V"⟩
abbrev cX5_in : ByteArray := prog_7_method_2_code
def yX5_in : MethodName := ⟨RX5, "in", "(JJJ)Z"⟩
abbrev cX5_finds : ByteArray := prog_7_method_3_code
def yX5_finds : MethodName := ⟨RX5, "finds", "(I)I"⟩
abbrev cX5_isPlace : ByteArray := prog_7_method_4_code
def yX5_isPlace : MethodName := ⟨RX5, "isPlace", "(I)Z"⟩
abbrev cX5_isStall : ByteArray := prog_7_method_5_code
def yX5_isStall : MethodName := ⟨RX5, "isStall", "(I)Z"⟩
abbrev cX5_has : ByteArray := prog_7_method_6_code
def yX5_has : MethodName := ⟨RX5, "has", "(II)Z"⟩
abbrev cX5_draw : ByteArray := prog_7_method_7_code
def yX5_draw : MethodName := ⟨RX5, "draw", "()I"⟩
abbrev cX5_saves : ByteArray := prog_7_method_8_code
def yX5_saves : MethodName := ⟨RX5, "saves", "()V"⟩
abbrev cX5_putsBack : ByteArray := prog_7_method_9_code
def yX5_putsBack : MethodName := ⟨RX5, "putsBack", "()V"⟩
abbrev cX5_at : ByteArray := prog_7_method_10_code
def yX5_at : MethodName := ⟨RX5, "at", "(II)I"⟩
abbrev cX5_its : ByteArray := prog_7_method_11_code
def yX5_its : MethodName := ⟨RX5, "its", "(II)I"⟩
abbrev cX5_visits : ByteArray := prog_7_method_12_code
def yX5_visits : MethodName := ⟨RX5, "visits", "(II)I"⟩
abbrev cX5_shade : ByteArray := prog_7_method_13_code
def yX5_shade : MethodName := ⟨RX5, "shade", "(IZ)I"⟩
abbrev cX5_spring : ByteArray := prog_7_method_14_code
def yX5_spring : MethodName := ⟨RX5, "spring", "(I)I"⟩
abbrev cX5_stallAt : ByteArray := prog_7_method_15_code
def yX5_stallAt : MethodName := ⟨RX5, "stallAt", "(I)I"⟩
abbrev cX5_newStall : ByteArray := prog_7_method_16_code
def yX5_newStall : MethodName := ⟨RX5, "newStall", "(III)I"⟩
abbrev cX5_stall : ByteArray := prog_7_method_17_code
def yX5_stall : MethodName := ⟨RX5, "stall", "(II)I"⟩
abbrev cX5_price : ByteArray := prog_7_method_18_code
def yX5_price : MethodName := ⟨RX5, "price", "(I)I"⟩
abbrev cX5_isGoing : ByteArray := prog_7_method_19_code
def yX5_isGoing : MethodName := ⟨RX5, "isGoing", "(I)Z"⟩
abbrev cX5_of : ByteArray := prog_7_method_20_code
def yX5_of : MethodName := ⟨RX5, "of", "(II)I"⟩
abbrev cX5_change : ByteArray := prog_7_method_21_code
def yX5_change : MethodName := ⟨RX5, "change", "(III)I"⟩
abbrev cX5_swaps : ByteArray := prog_7_method_22_code
def yX5_swaps : MethodName := ⟨RX5, "swaps", "(II)V"⟩
abbrev cX5_swap : ByteArray := prog_7_method_23_code
def yX5_swap : MethodName := ⟨RX5, "swap", "(II)I"⟩
abbrev cX5_offer : ByteArray := prog_7_method_24_code
def yX5_offer : MethodName := ⟨RX5, "offer", "(II)I"⟩
abbrev cX5_offers : ByteArray := prog_7_method_25_code
def yX5_offers : MethodName := ⟨RX5, "offers", "(II)I"⟩
abbrev cX5_placeOf : ByteArray := prog_7_method_26_code
def yX5_placeOf : MethodName := ⟨RX5, "placeOf", "(II)I"⟩
abbrev cX5_sells : ByteArray := prog_7_method_27_code
def yX5_sells : MethodName := ⟨RX5, "sells", "(I)I"⟩
abbrev cX5_staying : ByteArray := prog_7_method_28_code
def yX5_staying : MethodName := ⟨RX5, "staying", "(Z)I"⟩
abbrev cX5_placesOf : ByteArray := prog_7_method_29_code
def yX5_placesOf : MethodName := ⟨RX5, "placesOf", "(I)I"⟩
abbrev cX5_farFrom : ByteArray := prog_7_method_30_code
def yX5_farFrom : MethodName := ⟨RX5, "farFrom", "(II)I"⟩
abbrev cX5_hour : ByteArray := prog_7_method_31_code
def yX5_hour : MethodName := ⟨RX5, "hour", "()I"⟩
abbrev cX5_hoursGo : ByteArray := prog_7_method_32_code
def yX5_hoursGo : MethodName := ⟨RX5, "hoursGo", "(I)I"⟩
abbrev cX5_isTooLate : ByteArray := prog_7_method_33_code
def yX5_isTooLate : MethodName := ⟨RX5, "isTooLate", "(I)Z"⟩
abbrev cX5_hours : ByteArray := prog_7_method_34_code
def yX5_hours : MethodName := ⟨RX5, "hours", "(I)I"⟩
abbrev cX5_stay : ByteArray := prog_7_method_35_code
def yX5_stay : MethodName := ⟨RX5, "stay", "()I"⟩
abbrev cX5_emptySet : ByteArray := prog_7_method_36_code
def yX5_emptySet : MethodName := ⟨RX5, "emptySet", "()I"⟩
abbrev cX5_sumOf : ByteArray := prog_7_method_37_code
def yX5_sumOf : MethodName := ⟨RX5, "sumOf", "(I)I"⟩
abbrev cX5_everyPlace : ByteArray := prog_7_method_38_code
def yX5_everyPlace : MethodName := ⟨RX5, "everyPlace", "()I"⟩
abbrev cX5_isSpan : ByteArray := prog_7_method_39_code
def yX5_isSpan : MethodName := ⟨RX5, "isSpan", "(I)Z"⟩
abbrev cX5_ahead : ByteArray := prog_7_method_40_code
def yX5_ahead : MethodName := ⟨RX5, "ahead", "(II)I"⟩
abbrev cX5_when : ByteArray := prog_7_method_41_code
def yX5_when : MethodName := ⟨RX5, "when", "(II)I"⟩
abbrev cX5_empty : ByteArray := prog_7_method_42_code
def yX5_empty : MethodName := ⟨RX5, "empty", "(I)I"⟩
abbrev cX5_again : ByteArray := prog_7_method_43_code
def yX5_again : MethodName := ⟨RX5, "again", "()I"⟩
abbrev cX5_there : ByteArray := prog_7_method_44_code
def yX5_there : MethodName := ⟨RX5, "there", "(II)I"⟩
abbrev cX5_passes : ByteArray := prog_7_method_45_code
def yX5_passes : MethodName := ⟨RX5, "passes", "(I)I"⟩
abbrev cX5_firstOrder : ByteArray := prog_7_method_46_code
def yX5_firstOrder : MethodName := ⟨RX5, "firstOrder", "()V"⟩
abbrev cX5_nextOrder : ByteArray := prog_7_method_47_code
def yX5_nextOrder : MethodName := ⟨RX5, "nextOrder", "()Z"⟩
abbrev cX5_lays : ByteArray := prog_7_method_48_code
def yX5_lays : MethodName := ⟨RX5, "lays", "()V"⟩
abbrev cX5_orderWrong : ByteArray := prog_7_method_49_code
def yX5_orderWrong : MethodName := ⟨RX5, "orderWrong", "(I)I"⟩
abbrev cX5_bestOrder : ByteArray := prog_7_method_50_code
def yX5_bestOrder : MethodName := ⟨RX5, "bestOrder", "(II)I"⟩
abbrev cX5_most : ByteArray := prog_7_method_51_code
def yX5_most : MethodName := ⟨RX5, "most", "(I)I"⟩
abbrev cX5_order : ByteArray := prog_7_method_52_code
def yX5_order : MethodName := ⟨RX5, "order", "(II)I"⟩
abbrev cX5_dawn : ByteArray := prog_7_method_53_code
def yX5_dawn : MethodName := ⟨RX5, "dawn", "(III)I"⟩
abbrev cX5_coinOf : ByteArray := prog_7_method_54_code
def yX5_coinOf : MethodName := ⟨RX5, "coinOf", "(II)I"⟩
abbrev cX5_isDays : ByteArray := prog_7_method_55_code
def yX5_isDays : MethodName := ⟨RX5, "isDays", "(I)Z"⟩
abbrev cX5_throwAway : ByteArray := prog_7_method_56_code
def yX5_throwAway : MethodName := ⟨RX5, "throwAway", "(II)I"⟩
abbrev cX5_wishes : ByteArray := prog_7_method_57_code
def yX5_wishes : MethodName := ⟨RX5, "wishes", "(II)I"⟩
abbrev cX5_deal : ByteArray := prog_7_method_58_code
def yX5_deal : MethodName := ⟨RX5, "deal", "(I)I"⟩
abbrev cX5_isBeside : ByteArray := prog_7_method_59_code
def yX5_isBeside : MethodName := ⟨RX5, "isBeside", "(II)Z"⟩
abbrev cX5_besideSet : ByteArray := prog_7_method_60_code
def yX5_besideSet : MethodName := ⟨RX5, "besideSet", "(I)I"⟩
abbrev cX5_beside : ByteArray := prog_7_method_61_code
def yX5_beside : MethodName := ⟨RX5, "beside", "(I)I"⟩
abbrev cX5_ever : ByteArray := prog_7_method_62_code
def yX5_ever : MethodName := ⟨RX5, "ever", "(II)I"⟩
abbrev cX5_isTwo : ByteArray := prog_7_method_63_code
def yX5_isTwo : MethodName := ⟨RX5, "isTwo", "(II)Z"⟩
abbrev cX5_meet : ByteArray := prog_7_method_64_code
def yX5_meet : MethodName := ⟨RX5, "meet", "(II)I"⟩
abbrev cX5_never : ByteArray := prog_7_method_65_code
def yX5_never : MethodName := ⟨RX5, "never", "(III)I"⟩
abbrev cX5_worthOf : ByteArray := prog_7_method_66_code
def yX5_worthOf : MethodName := ⟨RX5, "worthOf", "(III)I"⟩
abbrev cX5_worth : ByteArray := prog_7_method_67_code
def yX5_worth : MethodName := ⟨RX5, "worth", "(III)I"⟩
abbrev cX5_best : ByteArray := prog_7_method_68_code
def yX5_best : MethodName := ⟨RX5, "best", "(II)I"⟩
abbrev cX5_thief : ByteArray := prog_7_method_69_code
def yX5_thief : MethodName := ⟨RX5, "thief", "(II)I"⟩
abbrev cX5_lots : ByteArray := prog_7_method_70_code
def yX5_lots : MethodName := ⟨RX5, "lots", "(I)I"⟩
abbrev cX5_seed : ByteArray := prog_7_method_71_code
def yX5_seed : MethodName := ⟨RX5, "seed", "(I)I"⟩
abbrev cX5_feed : ByteArray := prog_7_method_72_code
def yX5_feed : MethodName := ⟨RX5, "feed", "(II)I"⟩
abbrev cX5_wipe : ByteArray := prog_7_method_73_code
def yX5_wipe : MethodName := ⟨RX5, "wipe", "()I"⟩
abbrev cX5_byteAt : ByteArray := prog_7_method_74_code
def yX5_byteAt : MethodName := ⟨RX5, "byteAt", "(I)I"⟩
abbrev cX5_isLetter : ByteArray := prog_7_method_75_code
def yX5_isLetter : MethodName := ⟨RX5, "isLetter", "(I)Z"⟩
abbrev cX5_isDigit : ByteArray := prog_7_method_76_code
def yX5_isDigit : MethodName := ⟨RX5, "isDigit", "(I)Z"⟩
abbrev cX5_token : ByteArray := prog_7_method_77_code
def yX5_token : MethodName := ⟨RX5, "token", "()V"⟩
abbrev cX5_needs : ByteArray := prog_7_method_78_code
def yX5_needs : MethodName := ⟨RX5, "needs", "(Z)V"⟩
abbrev cX5_word : ByteArray := prog_7_method_79_code
def yX5_word : MethodName := ⟨RX5, "word", "()J"⟩
abbrev cX5_number : ByteArray := prog_7_method_80_code
def yX5_number : MethodName := ⟨RX5, "number", "(II)V"⟩
abbrev cX5_kindHere : ByteArray := prog_7_method_81_code
def yX5_kindHere : MethodName := ⟨RX5, "kindHere", "()I"⟩
abbrev cX5_perhaps : ByteArray := prog_7_method_82_code
def yX5_perhaps : MethodName := ⟨RX5, "perhaps", "(ZIII)I"⟩
abbrev cX5_freePlace : ByteArray := prog_7_method_83_code
def yX5_freePlace : MethodName := ⟨RX5, "freePlace", "()V"⟩
abbrev cX5_stallItem : ByteArray := prog_7_method_84_code
def yX5_stallItem : MethodName := ⟨RX5, "stallItem", "(I)V"⟩
abbrev cX5_visitsItem : ByteArray := prog_7_method_85_code
def yX5_visitsItem : MethodName := ⟨RX5, "visitsItem", "()V"⟩
abbrev cX5_item : ByteArray := prog_7_method_86_code
def yX5_item : MethodName := ⟨RX5, "item", "()V"⟩
abbrev cX5_text : ByteArray := prog_7_method_87_code
def yX5_text : MethodName := ⟨RX5, "text", "()I"⟩
abbrev cX5_hold : ByteArray := prog_7_method_88_code
def yX5_hold : MethodName := ⟨RX5, "hold", "(II)I"⟩
abbrev cX5_as : ByteArray := prog_7_method_89_code
def yX5_as : MethodName := ⟨RX5, "as", "(II)I"⟩
abbrev cX5_isOne : ByteArray := prog_7_method_90_code
def yX5_isOne : MethodName := ⟨RX5, "isOne", "(I)Z"⟩
abbrev cX5_sheet : ByteArray := prog_7_method_91_code
def yX5_sheet : MethodName := ⟨RX5, "sheet", "(III)I"⟩
abbrev cX5_narrowed : ByteArray := prog_7_method_92_code
def yX5_narrowed : MethodName := ⟨RX5, "narrowed", "(II)I"⟩
abbrev cX5_wrong : ByteArray := prog_7_method_93_code
def yX5_wrong : MethodName := ⟨RX5, "wrong", "(I)I"⟩
abbrev cX5_write : ByteArray := prog_7_method_94_code
def yX5_write : MethodName := ⟨RX5, "write", "(III)I"⟩
abbrev cX5_copy : ByteArray := prog_7_method_95_code
def yX5_copy : MethodName := ⟨RX5, "copy", "(IIIII)I"⟩
abbrev cX5_load : ByteArray := prog_7_method_96_code
def yX5_load : MethodName := ⟨RX5, "load", "(I)I"⟩
abbrev cX5_isSo : ByteArray := prog_7_method_97_code
def yX5_isSo : MethodName := ⟨RX5, "isSo", "(II)Z"⟩
abbrev cX5_fit : ByteArray := prog_7_method_98_code
def yX5_fit : MethodName := ⟨RX5, "fit", "(I)I"⟩
abbrev cX5_judge : ByteArray := prog_7_method_99_code
def yX5_judge : MethodName := ⟨RX5, "judge", "(II)I"⟩
abbrev cX5_image : ByteArray := prog_7_method_100_code
def yX5_image : MethodName := ⟨RX5, "image", "()I"⟩
abbrev cX5_undo : ByteArray := prog_7_method_101_code
def yX5_undo : MethodName := ⟨RX5, "undo", "()I"⟩
abbrev cX5_tear : ByteArray := prog_7_method_102_code
def yX5_tear : MethodName := ⟨RX5, "tear", "()I"⟩
abbrev cX5_visitsOfAll : ByteArray := prog_7_method_103_code
def yX5_visitsOfAll : MethodName := ⟨RX5, "visitsOfAll", "()I"⟩
abbrev cX5_held : ByteArray := prog_7_method_104_code
def yX5_held : MethodName := ⟨RX5, "held", "()I"⟩
abbrev cX5_count : ByteArray := prog_7_method_105_code
def yX5_count : MethodName := ⟨RX5, "count", "(I)I"⟩
abbrev cX5_status : ByteArray := prog_7_method_106_code
def yX5_status : MethodName := ⟨RX5, "status", "(I)I"⟩
def RJx145de : String := "java/io/Serializable"
def TJx145de : u_T := fun k => match k with
  | _ => ("", "", "", false)
def tyJx145de : Nat → FieldType := fun k => match k with
  | _ => .int
abbrev wsJx145de0 : List Cond := u_ws RJx145de TJx145de 0
theorem nmJx145de : ∀ a, a < 0 → ∀ b, b < 0 → a ≠ b → (TJx145de a).2.1 ≠ (TJx145de b).2.1 := by decide +kernel
theorem tyJx145de_ok : ∀ k, k < 0 → parseFieldDescriptor (TJx145de k).2.2.1 = some (tyJx145de k) := by decide +kernel
def RJx9f9b0 : String := "java/lang/CharSequence"
def TJx9f9b0 : u_T := fun k => match k with
  | _ => ("", "", "", false)
def tyJx9f9b0 : Nat → FieldType := fun k => match k with
  | _ => .int
abbrev wsJx9f9b00 : List Cond := u_ws RJx9f9b0 TJx9f9b0 0
theorem nmJx9f9b0 : ∀ a, a < 0 → ∀ b, b < 0 → a ≠ b → (TJx9f9b0 a).2.1 ≠ (TJx9f9b0 b).2.1 := by decide +kernel
theorem tyJx9f9b0_ok : ∀ k, k < 0 → parseFieldDescriptor (TJx9f9b0 k).2.2.1 = some (tyJx9f9b0 k) := by decide +kernel
def RJxb160c : String := "java/lang/Comparable"
def TJxb160c : u_T := fun k => match k with
  | _ => ("", "", "", false)
def tyJxb160c : Nat → FieldType := fun k => match k with
  | _ => .int
abbrev wsJxb160c0 : List Cond := u_ws RJxb160c TJxb160c 0
theorem nmJxb160c : ∀ a, a < 0 → ∀ b, b < 0 → a ≠ b → (TJxb160c a).2.1 ≠ (TJxb160c b).2.1 := by decide +kernel
theorem tyJxb160c_ok : ∀ k, k < 0 → parseFieldDescriptor (TJxb160c k).2.2.1 = some (tyJxb160c k) := by decide +kernel
def RJ9 : String := "java/lang/Math"
def TJ9 : u_T := fun k => match k with
  | _ => ("", "", "", false)
def tyJ9 : Nat → FieldType := fun k => match k with
  | _ => .int
abbrev wsJ90 : List Cond := u_ws RJ9 TJ9 0
theorem nmJ9 : ∀ a, a < 0 → ∀ b, b < 0 → a ≠ b → (TJ9 a).2.1 ≠ (TJ9 b).2.1 := by decide +kernel
theorem tyJ9_ok : ∀ k, k < 0 → parseFieldDescriptor (TJ9 k).2.2.1 = some (tyJ9 k) := by decide +kernel
abbrev cJ9_floorMod_7cf53 : ByteArray := prog_8_method_50_code
def yJ9_floorMod_7cf53 : MethodName := ⟨RJ9, "floorMod", "(II)I"⟩
abbrev cJ9_max_7cf53 : ByteArray := prog_8_method_65_code
def yJ9_max_7cf53 : MethodName := ⟨RJ9, "max", "(II)I"⟩
abbrev cJ9_min_7cf53 : ByteArray := prog_8_method_69_code
def yJ9_min_7cf53 : MethodName := ⟨RJ9, "min", "(II)I"⟩
def RJ0 : String := "java/lang/String"
def TJ0 : u_T := fun k => match k with
  | _ => ("", "", "", false)
def tyJ0 : Nat → FieldType := fun k => match k with
  | _ => .int
abbrev wsJ00 : List Cond := u_ws RJ0 TJ0 0
theorem nmJ0 : ∀ a, a < 0 → ∀ b, b < 0 → a ≠ b → (TJ0 a).2.1 ≠ (TJ0 b).2.1 := by decide +kernel
theorem tyJ0_ok : ∀ k, k < 0 → parseFieldDescriptor (TJ0 k).2.2.1 = some (tyJ0 k) := by decide +kernel
abbrev cJ0_length_8abf5 : ByteArray := prog_9_method_54_code
def yJ0_length_8abf5 : MethodName := ⟨RJ0, "length", "()I"⟩
abbrev cJ0_charAt_5068e : ByteArray := prog_9_method_56_code
def yJ0_charAt_5068e : MethodName := ⟨RJ0, "charAt", "(I)C"⟩
abbrev cJ0_coder_7d493 : ByteArray := prog_9_method_152_code
def yJ0_coder_7d493 : MethodName := ⟨RJ0, "coder", "()B"⟩
abbrev cJ0_isLatin1_aae02 : ByteArray := prog_9_method_154_code
def yJ0_isLatin1_aae02 : MethodName := ⟨RJ0, "isLatin1", "()Z"⟩
abbrev cJ0_checkIndex_df160 : ByteArray := prog_9_method_155_code
def yJ0_checkIndex_df160 : MethodName := ⟨RJ0, "checkIndex", "(II)V"⟩
def RJ1 : String := "java/lang/StringLatin1"
def TJ1 : u_T := fun k => match k with
  | _ => ("", "", "", false)
def tyJ1 : Nat → FieldType := fun k => match k with
  | _ => .int
abbrev wsJ10 : List Cond := u_ws RJ1 TJ1 0
theorem nmJ1 : ∀ a, a < 0 → ∀ b, b < 0 → a ≠ b → (TJ1 a).2.1 ≠ (TJ1 b).2.1 := by decide +kernel
theorem tyJ1_ok : ∀ k, k < 0 → parseFieldDescriptor (TJ1 k).2.2.1 = some (tyJ1 k) := by decide +kernel
abbrev cJ1_charAt_3b067 : ByteArray := prog_10_method_2_code
def yJ1_charAt_3b067 : MethodName := ⟨RJ1, "charAt", "([BI)C"⟩
def RJ2 : String := "java/lang/StringUTF16"
def TJ2 : u_T := fun k => match k with
  | _ => ("", "", "", false)
def tyJ2 : Nat → FieldType := fun k => match k with
  | _ => .int
abbrev wsJ20 : List Cond := u_ws RJ2 TJ2 0
theorem nmJ2 : ∀ a, a < 0 → ∀ b, b < 0 → a ≠ b → (TJ2 a).2.1 ≠ (TJ2 b).2.1 := by decide +kernel
theorem tyJ2_ok : ∀ k, k < 0 → parseFieldDescriptor (TJ2 k).2.2.1 = some (tyJ2 k) := by decide +kernel
abbrev cJ2_getChar_3b067 : ByteArray := prog_11_method_5_code
def yJ2_getChar_3b067 : MethodName := ⟨RJ2, "getChar", "([BI)C"⟩
abbrev cJ2_length_9d52b : ByteArray := prog_11_method_6_code
def yJ2_length_9d52b : MethodName := ⟨RJ2, "length", "([B)I"⟩
abbrev cJ2_charAt_3b067 : ByteArray := prog_11_method_83_code
def yJ2_charAt_3b067 : MethodName := ⟨RJ2, "charAt", "([BI)C"⟩
abbrev cJ2_checkIndex_2214a : ByteArray := prog_11_method_91_code
def yJ2_checkIndex_2214a : MethodName := ⟨RJ2, "checkIndex", "(I[B)V"⟩
def RJ10 : String := "java/lang/System"
def TJ10 : u_T := fun k => match k with
  | _ => ("", "", "", false)
def tyJ10 : Nat → FieldType := fun k => match k with
  | _ => .int
abbrev wsJ100 : List Cond := u_ws RJ10 TJ10 0
theorem nmJ10 : ∀ a, a < 0 → ∀ b, b < 0 → a ≠ b → (TJ10 a).2.1 ≠ (TJ10 b).2.1 := by decide +kernel
theorem tyJ10_ok : ∀ k, k < 0 → parseFieldDescriptor (TJ10 k).2.2.1 = some (tyJ10 k) := by decide +kernel
def RJxfd54e : String := "java/lang/constant/Constable"
def TJxfd54e : u_T := fun k => match k with
  | _ => ("", "", "", false)
def tyJxfd54e : Nat → FieldType := fun k => match k with
  | _ => .int
abbrev wsJxfd54e0 : List Cond := u_ws RJxfd54e TJxfd54e 0
theorem nmJxfd54e : ∀ a, a < 0 → ∀ b, b < 0 → a ≠ b → (TJxfd54e a).2.1 ≠ (TJxfd54e b).2.1 := by decide +kernel
theorem tyJxfd54e_ok : ∀ k, k < 0 → parseFieldDescriptor (TJxfd54e k).2.2.1 = some (tyJxfd54e k) := by decide +kernel
def RJx3cf43 : String := "java/lang/constant/ConstantDesc"
def TJx3cf43 : u_T := fun k => match k with
  | _ => ("", "", "", false)
def tyJx3cf43 : Nat → FieldType := fun k => match k with
  | _ => .int
abbrev wsJx3cf430 : List Cond := u_ws RJx3cf43 TJx3cf43 0
theorem nmJx3cf43 : ∀ a, a < 0 → ∀ b, b < 0 → a ≠ b → (TJx3cf43 a).2.1 ≠ (TJx3cf43 b).2.1 := by decide +kernel
theorem tyJx3cf43_ok : ∀ k, k < 0 → parseFieldDescriptor (TJx3cf43 k).2.2.1 = some (tyJx3cf43 k) := by decide +kernel
def RJ7 : String := "java/util/Arrays"
def TJ7 : u_T := fun k => match k with
  | _ => ("", "", "", false)
def tyJ7 : Nat → FieldType := fun k => match k with
  | _ => .int
abbrev wsJ70 : List Cond := u_ws RJ7 TJ7 0
theorem nmJ7 : ∀ a, a < 0 → ∀ b, b < 0 → a ≠ b → (TJ7 a).2.1 ≠ (TJ7 b).2.1 := by decide +kernel
theorem tyJ7_ok : ∀ k, k < 0 → parseFieldDescriptor (TJ7 k).2.2.1 = some (tyJ7 k) := by decide +kernel
abbrev cJ7_fill_53178 : ByteArray := prog_13_method_103_code
def yJ7_fill_53178 : MethodName := ⟨RJ7, "fill", "([II)V"⟩
def RJ3 : String := "jdk/internal/util/Preconditions"
def TJ3 : u_T := fun k => match k with
  | _ => ("", "", "", false)
def tyJ3 : Nat → FieldType := fun k => match k with
  | _ => .int
abbrev wsJ30 : List Cond := u_ws RJ3 TJ3 0
theorem nmJ3 : ∀ a, a < 0 → ∀ b, b < 0 → a ≠ b → (TJ3 a).2.1 ≠ (TJ3 b).2.1 := by decide +kernel
theorem tyJ3_ok : ∀ k, k < 0 → parseFieldDescriptor (TJ3 k).2.2.1 = some (tyJ3 k) := by decide +kernel
abbrev cJ3_checkIndex_8e157 : ByteArray := prog_14_method_11_code
def yJ3_checkIndex_8e157 : MethodName := ⟨RJ3, "checkIndex", "(IILjava/util/function/BiFunction;)I"⟩
def RL : String := "MovingMarketLaw"
abbrev cL_law : ByteArray := code
def yL_law : MethodName := ⟨RL, "law", "([I)Z"⟩
abbrev vwCl : List vw_C := [(RX0, TX0, 2), (RX1, TX1, 3), (RX2, TX2, 12), (RX3, TX3, 6), (RX4, TX4, 10), (RX5, TX5, 17)]
end
section
/-! THE WORDS of the tables: AW, those that keep; each that is used, by its place -/
abbrev AW : List Cond := lw_tbl.filter goodWord
theorem gAW : GoodIn lw_tbl AW := fun w h => ⟨(List.mem_filter.mp h).1, good_of_word (List.mem_filter.mp h).2⟩
theorem aw_s {w : Cond} (i : Nat) (h : (k2_sels lw_privs)[i]? = some w) (g : goodWord w = true) : w ∈ AW := List.mem_filter.mpr ⟨List.mem_append_left _ (List.mem_of_getElem? h), g⟩
theorem aw_1 {w : Cond} (i : Nat) (h : tables_1_1[i]? = some w) (g : goodWord w = true) : w ∈ AW := List.mem_filter.mpr ⟨List.mem_append_right _ (List.mem_append_left _ (List.mem_of_getElem? h)), g⟩
theorem aw_2 {w : Cond} (i : Nat) (h : tables_1_2[i]? = some w) (g : goodWord w = true) : w ∈ AW := List.mem_filter.mpr ⟨List.mem_append_right _ (List.mem_append_right _ (List.mem_append_left _ (List.mem_of_getElem? h))), g⟩
theorem aw_3 {w : Cond} (i : Nat) (h : tables_1_3[i]? = some w) (g : goodWord w = true) : w ∈ AW := List.mem_filter.mpr ⟨List.mem_append_right _ (List.mem_append_right _ (List.mem_append_right _ (List.mem_append_left _ (List.mem_of_getElem? h)))), g⟩
theorem aw_4 {w : Cond} (i : Nat) (h : tables_1_4[i]? = some w) (g : goodWord w = true) : w ∈ AW := List.mem_filter.mpr ⟨List.mem_append_right _ (List.mem_append_right _ (List.mem_append_right _ (List.mem_append_right _ (List.mem_append_left _ (List.mem_of_getElem? h))))), g⟩
theorem aw_5 {w : Cond} (i : Nat) (h : tables_1_5[i]? = some w) (g : goodWord w = true) : w ∈ AW := List.mem_filter.mpr ⟨List.mem_append_right _ (List.mem_append_right _ (List.mem_append_right _ (List.mem_append_right _ (List.mem_append_right _ (List.mem_append_left _ (List.mem_of_getElem? h)))))), g⟩
theorem aw_6 {w : Cond} (i : Nat) (h : tables_1_6[i]? = some w) (g : goodWord w = true) : w ∈ AW := List.mem_filter.mpr ⟨List.mem_append_right _ (List.mem_append_right _ (List.mem_append_right _ (List.mem_append_right _ (List.mem_append_right _ (List.mem_append_right _ (List.mem_of_getElem? h)))))), g⟩
theorem ws_0 : Cond.selects "MovingMarket" ⟨"MovingMarket", "finding", "(I)I"⟩ ⟨"MovingMarket", "finding", "(I)I"⟩ ∈ AW := aw_s 0 rfl rfl
theorem ws_1 : Cond.selects "MovingMarket" ⟨"MovingMarket", "isStall", "(I)Z"⟩ ⟨"MovingMarket", "isStall", "(I)Z"⟩ ∈ AW := aw_s 1 rfl rfl
theorem ws_2 : Cond.selects "MovingMarket$Square" ⟨"MovingMarket$Square", "twofoldVisits", "(I)I"⟩ ⟨"MovingMarket$Square", "twofoldVisits", "(I)I"⟩ ∈ AW := aw_s 2 rfl rfl
theorem ws_3 : Cond.selects "MovingMarket" ⟨"MovingMarket", "aheadFinding", "(ZIII)I"⟩ ⟨"MovingMarket", "aheadFinding", "(ZIII)I"⟩ ∈ AW := aw_s 3 rfl rfl
theorem ws_4 : Cond.selects "MovingMarket$Square" ⟨"MovingMarket$Square", "strike", "()V"⟩ ⟨"MovingMarket$Square", "strike", "()V"⟩ ∈ AW := aw_s 4 rfl rfl
theorem ws_5 : Cond.selects "MovingMarket" ⟨"MovingMarket", "orderFinding", "(ZII)I"⟩ ⟨"MovingMarket", "orderFinding", "(ZII)I"⟩ ∈ AW := aw_s 5 rfl rfl
theorem ws_6 : Cond.selects "MovingMarket" ⟨"MovingMarket", "searchMost", "(I)I"⟩ ⟨"MovingMarket", "searchMost", "(I)I"⟩ ∈ AW := aw_s 6 rfl rfl
theorem ws_7 : Cond.selects "MovingMarket" ⟨"MovingMarket", "tryOrder", "()V"⟩ ⟨"MovingMarket", "tryOrder", "()V"⟩ ∈ AW := aw_s 7 rfl rfl
theorem ws_8 : Cond.selects "MovingMarket$Order" ⟨"MovingMarket$Order", "exchangeTaken", "(II)V"⟩ ⟨"MovingMarket$Order", "exchangeTaken", "(II)V"⟩ ∈ AW := aw_s 8 rfl rfl
theorem ws_9 : Cond.selects "MovingMarket" ⟨"MovingMarket", "swapAhead", "(III)V"⟩ ⟨"MovingMarket", "swapAhead", "(III)V"⟩ ∈ AW := aw_s 9 rfl rfl
theorem ws_10 : Cond.selects "MovingMarket" ⟨"MovingMarket", "isPair", "(II)Z"⟩ ⟨"MovingMarket", "isPair", "(II)Z"⟩ ∈ AW := aw_s 10 rfl rfl
theorem ws_11 : Cond.selects "MovingMarket" ⟨"MovingMarket", "firstBeside", "(III)I"⟩ ⟨"MovingMarket", "firstBeside", "(III)I"⟩ ∈ AW := aw_s 11 rfl rfl
theorem ws_12 : Cond.selects "MovingMarket" ⟨"MovingMarket", "coinFrom", "(III)I"⟩ ⟨"MovingMarket", "coinFrom", "(III)I"⟩ ∈ AW := aw_s 12 rfl rfl
theorem ws_13 : Cond.selects "MovingMarket$Tape" ⟨"MovingMarket$Tape", "readOn", "()V"⟩ ⟨"MovingMarket$Tape", "readOn", "()V"⟩ ∈ AW := aw_s 13 rfl rfl
theorem ws_14 : Cond.selects "MovingMarket$Tape" ⟨"MovingMarket$Tape", "isBetween", "(ICC)Z"⟩ ⟨"MovingMarket$Tape", "isBetween", "(ICC)Z"⟩ ∈ AW := aw_s 14 rfl rfl
theorem ws_15 : Cond.selects "MovingMarket$Tape" ⟨"MovingMarket$Tape", "readRun", "(CC)V"⟩ ⟨"MovingMarket$Tape", "readRun", "(CC)V"⟩ ∈ AW := aw_s 15 rfl rfl
theorem ws_16 : Cond.selects "MovingMarket$Tape" ⟨"MovingMarket$Tape", "valueOfRun", "()I"⟩ ⟨"MovingMarket$Tape", "valueOfRun", "()I"⟩ ∈ AW := aw_s 16 rfl rfl
theorem ws_17 : Cond.selects "MovingMarket$Tape" ⟨"MovingMarket$Tape", "readItem", "(LMovingMarket$Square;)Z"⟩ ⟨"MovingMarket$Tape", "readItem", "(LMovingMarket$Square;)Z"⟩ ∈ AW := aw_s 17 rfl rfl
theorem ws_18 : Cond.selects "MovingMarket$Tape" ⟨"MovingMarket$Tape", "kindOfWord", "()I"⟩ ⟨"MovingMarket$Tape", "kindOfWord", "()I"⟩ ∈ AW := aw_s 18 rfl rfl
theorem ws_19 : Cond.selects "MovingMarket$Tape" ⟨"MovingMarket$Tape", "isWord", "(Ljava/lang/String;)Z"⟩ ⟨"MovingMarket$Tape", "isWord", "(Ljava/lang/String;)Z"⟩ ∈ AW := aw_s 19 rfl rfl
theorem ws_20 : Cond.selects "MovingMarket$Tape" ⟨"MovingMarket$Tape", "readStall", "(LMovingMarket$Square;I)Z"⟩ ⟨"MovingMarket$Tape", "readStall", "(LMovingMarket$Square;I)Z"⟩ ∈ AW := aw_s 20 rfl rfl
theorem ws_21 : Cond.selects "MovingMarket$Tape" ⟨"MovingMarket$Tape", "isNumber", "(II)Z"⟩ ⟨"MovingMarket$Tape", "isNumber", "(II)Z"⟩ ∈ AW := aw_s 21 rfl rfl
theorem ws_22 : Cond.selects "MovingMarket$Tape" ⟨"MovingMarket$Tape", "readVisits", "(LMovingMarket$Square;)Z"⟩ ⟨"MovingMarket$Tape", "readVisits", "(LMovingMarket$Square;)Z"⟩ ∈ AW := aw_s 22 rfl rfl
theorem ws_23 : Cond.selects "MovingMarket$Tape" ⟨"MovingMarket$Tape", "readShade", "(LMovingMarket$Square;I)Z"⟩ ⟨"MovingMarket$Tape", "readShade", "(LMovingMarket$Square;I)Z"⟩ ∈ AW := aw_s 23 rfl rfl
theorem ws_24 : Cond.selects "MovingMarket$Tape" ⟨"MovingMarket$Tape", "readSpring", "(LMovingMarket$Square;)Z"⟩ ⟨"MovingMarket$Tape", "readSpring", "(LMovingMarket$Square;)Z"⟩ ∈ AW := aw_s 24 rfl rfl
theorem ws_25 : Cond.selects "MovingMarket" ⟨"MovingMarket", "sheetFinding", "(I)I"⟩ ⟨"MovingMarket", "sheetFinding", "(I)I"⟩ ∈ AW := aw_s 25 rfl rfl
theorem ws_26 : Cond.selects "MovingMarket" ⟨"MovingMarket", "lastWordHour", "(LMovingMarket$Sheet;)I"⟩ ⟨"MovingMarket", "lastWordHour", "(LMovingMarket$Sheet;)I"⟩ ∈ AW := aw_s 26 rfl rfl
theorem ws_27 : Cond.selects "MovingMarket" ⟨"MovingMarket", "wordsAreSo", "(LMovingMarket$Sheet;I)Z"⟩ ⟨"MovingMarket", "wordsAreSo", "(LMovingMarket$Sheet;I)Z"⟩ ∈ AW := aw_s 27 rfl rfl
theorem ws_28 : Cond.selects "MovingMarketModel" ⟨"MovingMarketModel", "finds", "(I)I"⟩ ⟨"MovingMarketModel", "finds", "(I)I"⟩ ∈ AW := aw_s 28 rfl rfl
theorem ws_29 : Cond.selects "MovingMarketModel" ⟨"MovingMarketModel", "stallAt", "(I)I"⟩ ⟨"MovingMarketModel", "stallAt", "(I)I"⟩ ∈ AW := aw_s 29 rfl rfl
theorem ws_30 : Cond.selects "MovingMarketModel" ⟨"MovingMarketModel", "its", "(II)I"⟩ ⟨"MovingMarketModel", "its", "(II)I"⟩ ∈ AW := aw_s 30 rfl rfl
theorem ws_31 : Cond.selects "MovingMarketModel" ⟨"MovingMarketModel", "newStall", "(III)I"⟩ ⟨"MovingMarketModel", "newStall", "(III)I"⟩ ∈ AW := aw_s 31 rfl rfl
theorem ws_32 : Cond.selects "MovingMarketModel" ⟨"MovingMarketModel", "isStall", "(I)Z"⟩ ⟨"MovingMarketModel", "isStall", "(I)Z"⟩ ∈ AW := aw_s 32 rfl rfl
theorem ws_33 : Cond.selects "MovingMarketModel" ⟨"MovingMarketModel", "price", "(I)I"⟩ ⟨"MovingMarketModel", "price", "(I)I"⟩ ∈ AW := aw_s 33 rfl rfl
theorem ws_34 : Cond.selects "MovingMarketModel" ⟨"MovingMarketModel", "isGoing", "(I)Z"⟩ ⟨"MovingMarketModel", "isGoing", "(I)Z"⟩ ∈ AW := aw_s 34 rfl rfl
theorem ws_35 : Cond.selects "MovingMarketModel" ⟨"MovingMarketModel", "swaps", "(II)V"⟩ ⟨"MovingMarketModel", "swaps", "(II)V"⟩ ∈ AW := aw_s 35 rfl rfl
theorem ws_36 : Cond.selects "MovingMarketModel" ⟨"MovingMarketModel", "offer", "(II)I"⟩ ⟨"MovingMarketModel", "offer", "(II)I"⟩ ∈ AW := aw_s 36 rfl rfl
theorem ws_37 : Cond.selects "MovingMarketModel" ⟨"MovingMarketModel", "isTooLate", "(I)Z"⟩ ⟨"MovingMarketModel", "isTooLate", "(I)Z"⟩ ∈ AW := aw_s 37 rfl rfl
theorem ws_38 : Cond.selects "MovingMarketModel" ⟨"MovingMarketModel", "hoursGo", "(I)I"⟩ ⟨"MovingMarketModel", "hoursGo", "(I)I"⟩ ∈ AW := aw_s 38 rfl rfl
theorem ws_39 : Cond.selects "MovingMarketModel" ⟨"MovingMarketModel", "hour", "()I"⟩ ⟨"MovingMarketModel", "hour", "()I"⟩ ∈ AW := aw_s 39 rfl rfl
theorem ws_40 : Cond.selects "MovingMarketModel" ⟨"MovingMarketModel", "sells", "(I)I"⟩ ⟨"MovingMarketModel", "sells", "(I)I"⟩ ∈ AW := aw_s 40 rfl rfl
theorem ws_41 : Cond.selects "MovingMarketModel" ⟨"MovingMarketModel", "staying", "(Z)I"⟩ ⟨"MovingMarketModel", "staying", "(Z)I"⟩ ∈ AW := aw_s 41 rfl rfl
theorem ws_42 : Cond.selects "MovingMarketModel" ⟨"MovingMarketModel", "placesOf", "(I)I"⟩ ⟨"MovingMarketModel", "placesOf", "(I)I"⟩ ∈ AW := aw_s 42 rfl rfl
theorem ws_43 : Cond.selects "MovingMarketModel" ⟨"MovingMarketModel", "saves", "()V"⟩ ⟨"MovingMarketModel", "saves", "()V"⟩ ∈ AW := aw_s 43 rfl rfl
theorem ws_44 : Cond.selects "MovingMarketModel" ⟨"MovingMarketModel", "emptySet", "()I"⟩ ⟨"MovingMarketModel", "emptySet", "()I"⟩ ∈ AW := aw_s 44 rfl rfl
theorem ws_45 : Cond.selects "MovingMarketModel" ⟨"MovingMarketModel", "everyPlace", "()I"⟩ ⟨"MovingMarketModel", "everyPlace", "()I"⟩ ∈ AW := aw_s 45 rfl rfl
theorem ws_46 : Cond.selects "MovingMarketModel" ⟨"MovingMarketModel", "sumOf", "(I)I"⟩ ⟨"MovingMarketModel", "sumOf", "(I)I"⟩ ∈ AW := aw_s 46 rfl rfl
theorem ws_47 : Cond.selects "MovingMarketModel" ⟨"MovingMarketModel", "putsBack", "()V"⟩ ⟨"MovingMarketModel", "putsBack", "()V"⟩ ∈ AW := aw_s 47 rfl rfl
theorem ws_48 : Cond.selects "MovingMarketModel" ⟨"MovingMarketModel", "orderWrong", "(I)I"⟩ ⟨"MovingMarketModel", "orderWrong", "(I)I"⟩ ∈ AW := aw_s 48 rfl rfl
theorem ws_49 : Cond.selects "MovingMarketModel" ⟨"MovingMarketModel", "bestOrder", "(II)I"⟩ ⟨"MovingMarketModel", "bestOrder", "(II)I"⟩ ∈ AW := aw_s 49 rfl rfl
theorem ws_50 : Cond.selects "MovingMarketModel" ⟨"MovingMarketModel", "firstOrder", "()V"⟩ ⟨"MovingMarketModel", "firstOrder", "()V"⟩ ∈ AW := aw_s 50 rfl rfl
theorem ws_51 : Cond.selects "MovingMarketModel" ⟨"MovingMarketModel", "lays", "()V"⟩ ⟨"MovingMarketModel", "lays", "()V"⟩ ∈ AW := aw_s 51 rfl rfl
theorem ws_52 : Cond.selects "MovingMarketModel" ⟨"MovingMarketModel", "nextOrder", "()Z"⟩ ⟨"MovingMarketModel", "nextOrder", "()Z"⟩ ∈ AW := aw_s 52 rfl rfl
theorem ws_53 : Cond.selects "MovingMarketModel" ⟨"MovingMarketModel", "coinOf", "(II)I"⟩ ⟨"MovingMarketModel", "coinOf", "(II)I"⟩ ∈ AW := aw_s 53 rfl rfl
theorem ws_54 : Cond.selects "MovingMarketModel" ⟨"MovingMarketModel", "besideSet", "(I)I"⟩ ⟨"MovingMarketModel", "besideSet", "(I)I"⟩ ∈ AW := aw_s 54 rfl rfl
theorem ws_55 : Cond.selects "MovingMarketModel" ⟨"MovingMarketModel", "isBeside", "(II)Z"⟩ ⟨"MovingMarketModel", "isBeside", "(II)Z"⟩ ∈ AW := aw_s 55 rfl rfl
theorem ws_56 : Cond.selects "MovingMarketModel" ⟨"MovingMarketModel", "isTwo", "(II)Z"⟩ ⟨"MovingMarketModel", "isTwo", "(II)Z"⟩ ∈ AW := aw_s 56 rfl rfl
theorem ws_57 : Cond.selects "MovingMarketModel" ⟨"MovingMarketModel", "worthOf", "(III)I"⟩ ⟨"MovingMarketModel", "worthOf", "(III)I"⟩ ∈ AW := aw_s 57 rfl rfl
theorem ws_58 : Cond.selects "MovingMarketModel" ⟨"MovingMarketModel", "draw", "()I"⟩ ⟨"MovingMarketModel", "draw", "()I"⟩ ∈ AW := aw_s 58 rfl rfl
theorem ws_59 : Cond.selects "MovingMarketModel" ⟨"MovingMarketModel", "token", "()V"⟩ ⟨"MovingMarketModel", "token", "()V"⟩ ∈ AW := aw_s 59 rfl rfl
theorem ws_60 : Cond.selects "MovingMarketModel" ⟨"MovingMarketModel", "byteAt", "(I)I"⟩ ⟨"MovingMarketModel", "byteAt", "(I)I"⟩ ∈ AW := aw_s 60 rfl rfl
theorem ws_61 : Cond.selects "MovingMarketModel" ⟨"MovingMarketModel", "item", "()V"⟩ ⟨"MovingMarketModel", "item", "()V"⟩ ∈ AW := aw_s 61 rfl rfl
theorem ws_62 : Cond.selects "MovingMarketModel" ⟨"MovingMarketModel", "kindHere", "()I"⟩ ⟨"MovingMarketModel", "kindHere", "()I"⟩ ∈ AW := aw_s 62 rfl rfl
theorem ws_63 : Cond.selects "MovingMarketModel" ⟨"MovingMarketModel", "word", "()J"⟩ ⟨"MovingMarketModel", "word", "()J"⟩ ∈ AW := aw_s 63 rfl rfl
theorem ws_64 : Cond.selects "MovingMarketModel" ⟨"MovingMarketModel", "stallItem", "(I)V"⟩ ⟨"MovingMarketModel", "stallItem", "(I)V"⟩ ∈ AW := aw_s 64 rfl rfl
theorem ws_65 : Cond.selects "MovingMarketModel" ⟨"MovingMarketModel", "needs", "(Z)V"⟩ ⟨"MovingMarketModel", "needs", "(Z)V"⟩ ∈ AW := aw_s 65 rfl rfl
theorem ws_66 : Cond.selects "MovingMarketModel" ⟨"MovingMarketModel", "freePlace", "()V"⟩ ⟨"MovingMarketModel", "freePlace", "()V"⟩ ∈ AW := aw_s 66 rfl rfl
theorem ws_67 : Cond.selects "MovingMarketModel" ⟨"MovingMarketModel", "perhaps", "(ZIII)I"⟩ ⟨"MovingMarketModel", "perhaps", "(ZIII)I"⟩ ∈ AW := aw_s 67 rfl rfl
theorem ws_68 : Cond.selects "MovingMarketModel" ⟨"MovingMarketModel", "number", "(II)V"⟩ ⟨"MovingMarketModel", "number", "(II)V"⟩ ∈ AW := aw_s 68 rfl rfl
theorem ws_69 : Cond.selects "MovingMarketModel" ⟨"MovingMarketModel", "visitsItem", "()V"⟩ ⟨"MovingMarketModel", "visitsItem", "()V"⟩ ∈ AW := aw_s 69 rfl rfl
theorem ws_70 : Cond.selects "MovingMarketModel" ⟨"MovingMarketModel", "wrong", "(I)I"⟩ ⟨"MovingMarketModel", "wrong", "(I)I"⟩ ∈ AW := aw_s 70 rfl rfl
theorem ws_71 : Cond.selects "MovingMarketModel" ⟨"MovingMarketModel", "isSo", "(II)Z"⟩ ⟨"MovingMarketModel", "isSo", "(II)Z"⟩ ∈ AW := aw_s 71 rfl rfl
theorem ws_72 : Cond.selects "MovingMarketModel" ⟨"MovingMarketModel", "visitsOfAll", "()I"⟩ ⟨"MovingMarketModel", "visitsOfAll", "()I"⟩ ∈ AW := aw_s 72 rfl rfl
theorem ws_73 : Cond.selects "MovingMarketModel" ⟨"MovingMarketModel", "held", "()I"⟩ ⟨"MovingMarketModel", "held", "()I"⟩ ∈ AW := aw_s 73 rfl rfl
theorem wd_1_0 : Cond.initialized "MovingMarketLaw" ∈ AW := aw_1 0 rfl rfl
theorem wd_1_1 : Cond.initialized "MovingMarket" ∈ AW := aw_1 1 rfl rfl
theorem wd_1_2 : Cond.initialized "MovingMarket$Square" ∈ AW := aw_1 2 rfl rfl
theorem wd_1_3 : Cond.initialized "java/util/Arrays" ∈ AW := aw_1 3 rfl rfl
theorem wd_1_4 : Cond.initialized "MovingMarket$Order" ∈ AW := aw_1 4 rfl rfl
theorem wd_1_5 : Cond.initialized "MovingMarket$Tape" ∈ AW := aw_1 5 rfl rfl
theorem wd_1_6 : Cond.initialized "MovingMarket$Sheet" ∈ AW := aw_1 6 rfl rfl
theorem wd_1_7 : Cond.initialized "MovingMarketModel" ∈ AW := aw_1 7 rfl rfl
theorem wd_1_8 : Cond.initialized "java/lang/Math" ∈ AW := aw_1 8 rfl rfl
theorem wd_1_9 : Cond.initialized "java/lang/System" ∈ AW := aw_1 9 rfl rfl
theorem wd_1_10 : Cond.initialized "java/lang/String" ∈ AW := aw_1 10 rfl rfl
theorem wd_1_11 : Cond.initialized "java/lang/StringLatin1" ∈ AW := aw_1 11 rfl rfl
theorem wd_1_12 : Cond.initialized "jdk/internal/util/Preconditions" ∈ AW := aw_1 12 rfl rfl
theorem wd_1_13 : Cond.initialized "java/lang/StringUTF16" ∈ AW := aw_1 13 rfl rfl
theorem wd_1_14 : Cond.classLink "MovingMarketLaw" (7 : Nat) "MovingMarket" ∈ AW := aw_1 14 rfl rfl
theorem wd_1_15 : Cond.instantiable "MovingMarket" (10 : Nat) ∈ AW := aw_1 15 rfl rfl
theorem wd_1_16 : Cond.methodLink "MovingMarketLaw" (9 : Nat) ⟨"MovingMarket", "<init>", "()V"⟩ ∈ AW := aw_1 16 rfl rfl
theorem wd_1_17 : Cond.instanceMethod ⟨"MovingMarket", "<init>", "()V"⟩ ∈ AW := aw_1 17 rfl rfl
theorem wd_1_18 : Cond.code ⟨"MovingMarket", "<init>", "()V"⟩ prog_1_method_1_code (2 : Nat) (none : Option FieldType) ∈ AW := aw_1 18 rfl rfl
theorem wd_1_19 : Cond.methodLink "MovingMarket" (1 : Nat) ⟨"java/lang/Object", "<init>", "()V"⟩ ∈ AW := aw_1 19 rfl rfl
theorem wd_1_20 : Cond.instanceMethod ⟨"java/lang/Object", "<init>", "()V"⟩ ∈ AW := aw_1 20 rfl rfl
theorem wd_1_21 : Cond.code ⟨"java/lang/Object", "<init>", "()V"⟩ object_method_1_code (1 : Nat) (none : Option FieldType) ∈ AW := aw_1 21 rfl rfl
theorem wd_1_22 : Cond.classLink "MovingMarket" (7 : Nat) "MovingMarket$Square" ∈ AW := aw_1 22 rfl rfl
theorem wd_1_23 : Cond.instantiable "MovingMarket$Square" (12 : Nat) ∈ AW := aw_1 23 rfl rfl
theorem wd_1_24 : Cond.methodLink "MovingMarket" (9 : Nat) ⟨"MovingMarket$Square", "<init>", "()V"⟩ ∈ AW := aw_1 24 rfl rfl
theorem wd_1_25 : Cond.instanceMethod ⟨"MovingMarket$Square", "<init>", "()V"⟩ ∈ AW := aw_1 25 rfl rfl
theorem wd_1_26 : Cond.code ⟨"MovingMarket$Square", "<init>", "()V"⟩ prog_4_method_1_code (1 : Nat) (none : Option FieldType) ∈ AW := aw_1 26 rfl rfl
theorem wd_1_27 : Cond.methodLink "MovingMarket$Square" (3 : Nat) ⟨"java/lang/Object", "<init>", "()V"⟩ ∈ AW := aw_1 27 rfl rfl
theorem wd_1_28 : Cond.methodLink "MovingMarket$Square" (40 : Nat) ⟨"java/util/Arrays", "fill", "([II)V"⟩ ∈ AW := aw_1 28 rfl rfl
theorem wd_1_29 : Cond.static ⟨"java/util/Arrays", "fill", "([II)V"⟩ ∈ AW := aw_1 29 rfl rfl
theorem wd_1_30 : Cond.code ⟨"java/util/Arrays", "fill", "([II)V"⟩ prog_13_method_103_code (4 : Nat) (none : Option FieldType) ∈ AW := aw_1 30 rfl rfl
theorem wd_1_31 : Cond.fieldLink "MovingMarket$Square" (9 : Nat) "MovingMarket$Square" "visitsAt" "[I" ∈ AW := aw_1 31 rfl rfl
theorem wd_1_32 : Cond.fieldLink "MovingMarket" (61 : Nat) "MovingMarket$Square" "visitsAt" "[I" ∈ AW := aw_1 32 rfl rfl
theorem wd_1_33 : Cond.fieldLink "MovingMarket$Tape" (106 : Nat) "MovingMarket$Square" "visitsAt" "[I" ∈ AW := aw_1 33 rfl rfl
theorem wd_1_34 : Cond.fieldLink "MovingMarket$Square" (15 : Nat) "MovingMarket$Square" "shadeAt" "[I" ∈ AW := aw_1 34 rfl rfl
theorem wd_1_35 : Cond.fieldLink "MovingMarket" (64 : Nat) "MovingMarket$Square" "shadeAt" "[I" ∈ AW := aw_1 35 rfl rfl
theorem wd_1_36 : Cond.fieldLink "MovingMarket$Tape" (109 : Nat) "MovingMarket$Square" "shadeAt" "[I" ∈ AW := aw_1 36 rfl rfl
theorem wd_1_37 : Cond.fieldLink "MovingMarket$Square" (18 : Nat) "MovingMarket$Square" "kindOf" "[I" ∈ AW := aw_1 37 rfl rfl
theorem wd_1_38 : Cond.fieldLink "MovingMarket" (87 : Nat) "MovingMarket$Square" "kindOf" "[I" ∈ AW := aw_1 38 rfl rfl
theorem wd_1_39 : Cond.fieldLink "MovingMarket$Square" (21 : Nat) "MovingMarket$Square" "whereIs" "[I" ∈ AW := aw_1 39 rfl rfl
theorem wd_1_40 : Cond.fieldLink "MovingMarket" (90 : Nat) "MovingMarket$Square" "whereIs" "[I" ∈ AW := aw_1 40 rfl rfl
theorem wd_1_41 : Cond.fieldLink "MovingMarket$Square" (24 : Nat) "MovingMarket$Square" "goodsOf" "[I" ∈ AW := aw_1 41 rfl rfl
theorem wd_1_42 : Cond.fieldLink "MovingMarket" (93 : Nat) "MovingMarket$Square" "goodsOf" "[I" ∈ AW := aw_1 42 rfl rfl
theorem wd_1_43 : Cond.fieldLink "MovingMarket$Tape" (99 : Nat) "MovingMarket$Square" "goodsOf" "[I" ∈ AW := aw_1 43 rfl rfl
theorem wd_1_44 : Cond.fieldLink "MovingMarket$Square" (27 : Nat) "MovingMarket$Square" "coinOf" "[I" ∈ AW := aw_1 44 rfl rfl
theorem wd_1_45 : Cond.fieldLink "MovingMarket" (96 : Nat) "MovingMarket$Square" "coinOf" "[I" ∈ AW := aw_1 45 rfl rfl
theorem wd_1_46 : Cond.fieldLink "MovingMarket$Square" (30 : Nat) "MovingMarket$Square" "soldOf" "[I" ∈ AW := aw_1 46 rfl rfl
theorem wd_1_47 : Cond.fieldLink "MovingMarket" (99 : Nat) "MovingMarket$Square" "soldOf" "[I" ∈ AW := aw_1 47 rfl rfl
theorem wd_1_48 : Cond.fieldLink "MovingMarket$Square" (33 : Nat) "MovingMarket$Square" "heldIn" "[I" ∈ AW := aw_1 48 rfl rfl
theorem wd_1_49 : Cond.fieldLink "MovingMarket" (218 : Nat) "MovingMarket$Square" "heldIn" "[I" ∈ AW := aw_1 49 rfl rfl
theorem wd_1_50 : Cond.fieldLink "MovingMarket$Square" (52 : Nat) "MovingMarket$Square" "springAt" "I" ∈ AW := aw_1 50 rfl rfl
theorem wd_1_51 : Cond.fieldLink "MovingMarket" (67 : Nat) "MovingMarket$Square" "springAt" "I" ∈ AW := aw_1 51 rfl rfl
theorem wd_1_52 : Cond.fieldLink "MovingMarket$Tape" (112 : Nat) "MovingMarket$Square" "springAt" "I" ∈ AW := aw_1 52 rfl rfl
theorem wd_1_53 : Cond.fieldLink "MovingMarket$Square" (55 : Nat) "MovingMarket$Square" "stalls" "I" ∈ AW := aw_1 53 rfl rfl
theorem wd_1_54 : Cond.fieldLink "MovingMarket" (77 : Nat) "MovingMarket$Square" "stalls" "I" ∈ AW := aw_1 54 rfl rfl
theorem wd_1_55 : Cond.fieldLink "MovingMarket$Tape" (78 : Nat) "MovingMarket$Square" "stalls" "I" ∈ AW := aw_1 55 rfl rfl
theorem wd_1_56 : Cond.fieldLink "MovingMarket$Square" (58 : Nat) "MovingMarket$Square" "hour" "I" ∈ AW := aw_1 56 rfl rfl
theorem wd_1_57 : Cond.fieldLink "MovingMarket" (261 : Nat) "MovingMarket$Square" "hour" "I" ∈ AW := aw_1 57 rfl rfl
theorem wd_1_58 : Cond.fieldLink "MovingMarket$Square" (36 : Nat) "MovingMarket$Square" "z" "I" ∈ AW := aw_1 58 rfl rfl
theorem wd_1_59 : Cond.fieldLink "MovingMarket" (201 : Nat) "MovingMarket$Square" "z" "I" ∈ AW := aw_1 59 rfl rfl
theorem wd_1_60 : Cond.laysFinal "MovingMarket$Square" "MovingMarket$Square" "visitsAt" "[I" ∈ AW := aw_1 60 rfl rfl
theorem wd_1_62 : Cond.laysFinal "MovingMarket$Square" "MovingMarket$Square" "shadeAt" "[I" ∈ AW := aw_1 62 rfl rfl
theorem wd_1_64 : Cond.laysFinal "MovingMarket$Square" "MovingMarket$Square" "kindOf" "[I" ∈ AW := aw_1 64 rfl rfl
theorem wd_1_66 : Cond.laysFinal "MovingMarket$Square" "MovingMarket$Square" "whereIs" "[I" ∈ AW := aw_1 66 rfl rfl
theorem wd_1_68 : Cond.laysFinal "MovingMarket$Square" "MovingMarket$Square" "goodsOf" "[I" ∈ AW := aw_1 68 rfl rfl
theorem wd_1_70 : Cond.laysFinal "MovingMarket$Square" "MovingMarket$Square" "coinOf" "[I" ∈ AW := aw_1 70 rfl rfl
theorem wd_1_72 : Cond.laysFinal "MovingMarket$Square" "MovingMarket$Square" "soldOf" "[I" ∈ AW := aw_1 72 rfl rfl
theorem wd_1_74 : Cond.laysFinal "MovingMarket$Square" "MovingMarket$Square" "heldIn" "[I" ∈ AW := aw_1 74 rfl rfl
theorem wd_1_76 : Cond.lays "MovingMarket$Square" "MovingMarket$Square" "springAt" "I" ∈ AW := aw_1 76 rfl rfl
theorem wd_1_78 : Cond.lays "MovingMarket$Square" "MovingMarket$Square" "stalls" "I" ∈ AW := aw_1 78 rfl rfl
theorem wd_1_80 : Cond.lays "MovingMarket$Square" "MovingMarket$Square" "hour" "I" ∈ AW := aw_1 80 rfl rfl
theorem wd_1_82 : Cond.lays "MovingMarket$Square" "MovingMarket$Square" "z" "I" ∈ AW := aw_1 82 rfl rfl
theorem wd_1_85 : Cond.arrayClass FieldType.int ∈ AW := aw_1 85 rfl rfl
theorem wd_1_86 : Cond.classLink "MovingMarket" (22 : Nat) "MovingMarket$Order" ∈ AW := aw_1 86 rfl rfl
theorem wd_1_87 : Cond.instantiable "MovingMarket$Order" (2 : Nat) ∈ AW := aw_1 87 rfl rfl
theorem wd_1_89 : Cond.instanceMethod ⟨"MovingMarket$Order", "<init>", "()V"⟩ ∈ AW := aw_1 89 rfl rfl
theorem wd_1_90 : Cond.code ⟨"MovingMarket$Order", "<init>", "()V"⟩ prog_2_method_1_code (1 : Nat) (none : Option FieldType) ∈ AW := aw_1 90 rfl rfl
theorem wd_1_91 : Cond.methodLink "MovingMarket$Order" (3 : Nat) ⟨"java/lang/Object", "<init>", "()V"⟩ ∈ AW := aw_1 91 rfl rfl
theorem wd_1_92 : Cond.fieldLink "MovingMarket$Order" (9 : Nat) "MovingMarket$Order" "taken" "[I" ∈ AW := aw_1 92 rfl rfl
theorem wd_1_93 : Cond.fieldLink "MovingMarket" (162 : Nat) "MovingMarket$Order" "taken" "[I" ∈ AW := aw_1 93 rfl rfl
theorem wd_1_94 : Cond.fieldLink "MovingMarket$Order" (15 : Nat) "MovingMarket$Order" "stalls" "I" ∈ AW := aw_1 94 rfl rfl
theorem wd_1_95 : Cond.laysFinal "MovingMarket$Order" "MovingMarket$Order" "taken" "[I" ∈ AW := aw_1 95 rfl rfl
theorem wd_1_97 : Cond.lays "MovingMarket$Order" "MovingMarket$Order" "stalls" "I" ∈ AW := aw_1 97 rfl rfl
theorem wd_1_100 : Cond.classLink "MovingMarket" (32 : Nat) "MovingMarket$Tape" ∈ AW := aw_1 100 rfl rfl
theorem wd_1_101 : Cond.instantiable "MovingMarket$Tape" (6 : Nat) ∈ AW := aw_1 101 rfl rfl
theorem wd_1_103 : Cond.instanceMethod ⟨"MovingMarket$Tape", "<init>", "()V"⟩ ∈ AW := aw_1 103 rfl rfl
theorem wd_1_104 : Cond.code ⟨"MovingMarket$Tape", "<init>", "()V"⟩ prog_5_method_1_code (1 : Nat) (none : Option FieldType) ∈ AW := aw_1 104 rfl rfl
theorem wd_1_105 : Cond.methodLink "MovingMarket$Tape" (3 : Nat) ⟨"java/lang/Object", "<init>", "()V"⟩ ∈ AW := aw_1 105 rfl rfl
theorem wd_1_106 : Cond.fieldLink "MovingMarket$Tape" (9 : Nat) "MovingMarket$Tape" "bytes" "[I" ∈ AW := aw_1 106 rfl rfl
theorem wd_1_107 : Cond.fieldLink "MovingMarket$Tape" (15 : Nat) "MovingMarket$Tape" "length" "I" ∈ AW := aw_1 107 rfl rfl
theorem wd_1_108 : Cond.fieldLink "MovingMarket" (204 : Nat) "MovingMarket$Tape" "length" "I" ∈ AW := aw_1 108 rfl rfl
theorem wd_1_109 : Cond.fieldLink "MovingMarket$Tape" (32 : Nat) "MovingMarket$Tape" "sort" "I" ∈ AW := aw_1 109 rfl rfl
theorem wd_1_110 : Cond.fieldLink "MovingMarket$Tape" (29 : Nat) "MovingMarket$Tape" "begin" "I" ∈ AW := aw_1 110 rfl rfl
theorem wd_1_111 : Cond.fieldLink "MovingMarket$Tape" (19 : Nat) "MovingMarket$Tape" "end" "I" ∈ AW := aw_1 111 rfl rfl
theorem wd_1_112 : Cond.fieldLink "MovingMarket$Tape" (47 : Nat) "MovingMarket$Tape" "value" "I" ∈ AW := aw_1 112 rfl rfl
theorem wd_1_113 : Cond.laysFinal "MovingMarket$Tape" "MovingMarket$Tape" "bytes" "[I" ∈ AW := aw_1 113 rfl rfl
theorem wd_1_115 : Cond.lays "MovingMarket$Tape" "MovingMarket$Tape" "length" "I" ∈ AW := aw_1 115 rfl rfl
theorem wd_1_117 : Cond.lays "MovingMarket$Tape" "MovingMarket$Tape" "sort" "I" ∈ AW := aw_1 117 rfl rfl
theorem wd_1_119 : Cond.lays "MovingMarket$Tape" "MovingMarket$Tape" "begin" "I" ∈ AW := aw_1 119 rfl rfl
theorem wd_1_121 : Cond.lays "MovingMarket$Tape" "MovingMarket$Tape" "end" "I" ∈ AW := aw_1 121 rfl rfl
theorem wd_1_123 : Cond.lays "MovingMarket$Tape" "MovingMarket$Tape" "value" "I" ∈ AW := aw_1 123 rfl rfl
theorem wd_1_126 : Cond.classLink "MovingMarket" (39 : Nat) "MovingMarket$Sheet" ∈ AW := aw_1 126 rfl rfl
theorem wd_1_128 : Cond.instantiable "MovingMarket$Sheet" (3 : Nat) ∈ AW := aw_1 128 rfl rfl
theorem wd_1_130 : Cond.instanceMethod ⟨"MovingMarket$Sheet", "<init>", "()V"⟩ ∈ AW := aw_1 130 rfl rfl
theorem wd_1_131 : Cond.code ⟨"MovingMarket$Sheet", "<init>", "()V"⟩ prog_3_method_1_code (1 : Nat) (none : Option FieldType) ∈ AW := aw_1 131 rfl rfl
theorem wd_1_132 : Cond.methodLink "MovingMarket$Sheet" (3 : Nat) ⟨"java/lang/Object", "<init>", "()V"⟩ ∈ AW := aw_1 132 rfl rfl
theorem wd_1_133 : Cond.fieldLink "MovingMarket$Sheet" (9 : Nat) "MovingMarket$Sheet" "numbers" "[I" ∈ AW := aw_1 133 rfl rfl
theorem wd_1_134 : Cond.fieldLink "MovingMarket" (241 : Nat) "MovingMarket$Sheet" "numbers" "[I" ∈ AW := aw_1 134 rfl rfl
theorem wd_1_135 : Cond.fieldLink "MovingMarket$Sheet" (15 : Nat) "MovingMarket$Sheet" "bits" "I" ∈ AW := aw_1 135 rfl rfl
theorem wd_1_136 : Cond.fieldLink "MovingMarket" (235 : Nat) "MovingMarket$Sheet" "bits" "I" ∈ AW := aw_1 136 rfl rfl
theorem wd_1_137 : Cond.fieldLink "MovingMarket$Sheet" (19 : Nat) "MovingMarket$Sheet" "length" "I" ∈ AW := aw_1 137 rfl rfl
theorem wd_1_138 : Cond.fieldLink "MovingMarket" (229 : Nat) "MovingMarket$Sheet" "length" "I" ∈ AW := aw_1 138 rfl rfl
theorem wd_1_139 : Cond.laysFinal "MovingMarket$Sheet" "MovingMarket$Sheet" "numbers" "[I" ∈ AW := aw_1 139 rfl rfl
theorem wd_1_141 : Cond.lays "MovingMarket$Sheet" "MovingMarket$Sheet" "bits" "I" ∈ AW := aw_1 141 rfl rfl
theorem wd_1_143 : Cond.lays "MovingMarket$Sheet" "MovingMarket$Sheet" "length" "I" ∈ AW := aw_1 143 rfl rfl
theorem wd_1_146 : Cond.fieldLink "MovingMarket" (10 : Nat) "MovingMarket" "now" "LMovingMarket$Square;" ∈ AW := aw_1 146 rfl rfl
theorem wd_1_147 : Cond.fieldLink "MovingMarket" (16 : Nat) "MovingMarket" "trial" "LMovingMarket$Square;" ∈ AW := aw_1 147 rfl rfl
theorem wd_1_148 : Cond.fieldLink "MovingMarket" (19 : Nat) "MovingMarket" "kept" "LMovingMarket$Square;" ∈ AW := aw_1 148 rfl rfl
theorem wd_1_149 : Cond.fieldLink "MovingMarket" (25 : Nat) "MovingMarket" "tried" "LMovingMarket$Order;" ∈ AW := aw_1 149 rfl rfl
theorem wd_1_150 : Cond.fieldLink "MovingMarket" (29 : Nat) "MovingMarket" "winner" "LMovingMarket$Order;" ∈ AW := aw_1 150 rfl rfl
theorem wd_1_151 : Cond.fieldLink "MovingMarket" (35 : Nat) "MovingMarket" "tape" "LMovingMarket$Tape;" ∈ AW := aw_1 151 rfl rfl
theorem wd_1_152 : Cond.fieldLink "MovingMarket" (41 : Nat) "MovingMarket" "sheets" "[LMovingMarket$Sheet;" ∈ AW := aw_1 152 rfl rfl
theorem wd_1_153 : Cond.fieldLink "MovingMarket" (45 : Nat) "MovingMarket" "plainCoin" "[I" ∈ AW := aw_1 153 rfl rfl
theorem wd_1_154 : Cond.fieldLink "MovingMarket" (49 : Nat) "MovingMarket" "told" "[I" ∈ AW := aw_1 154 rfl rfl
theorem wd_1_155 : Cond.fieldLink "MovingMarket" (257 : Nat) "MovingMarket" "isKept" "Z" ∈ AW := aw_1 155 rfl rfl
theorem wd_1_156 : Cond.laysFinal "MovingMarket" "MovingMarket" "now" "LMovingMarket$Square;" ∈ AW := aw_1 156 rfl rfl
theorem wd_1_158 : Cond.laysFinal "MovingMarket" "MovingMarket" "trial" "LMovingMarket$Square;" ∈ AW := aw_1 158 rfl rfl
theorem wd_1_160 : Cond.laysFinal "MovingMarket" "MovingMarket" "kept" "LMovingMarket$Square;" ∈ AW := aw_1 160 rfl rfl
theorem wd_1_162 : Cond.laysFinal "MovingMarket" "MovingMarket" "tried" "LMovingMarket$Order;" ∈ AW := aw_1 162 rfl rfl
theorem wd_1_164 : Cond.laysFinal "MovingMarket" "MovingMarket" "winner" "LMovingMarket$Order;" ∈ AW := aw_1 164 rfl rfl
theorem wd_1_166 : Cond.laysFinal "MovingMarket" "MovingMarket" "tape" "LMovingMarket$Tape;" ∈ AW := aw_1 166 rfl rfl
theorem wd_1_168 : Cond.laysFinal "MovingMarket" "MovingMarket" "sheets" "[LMovingMarket$Sheet;" ∈ AW := aw_1 168 rfl rfl
theorem wd_1_170 : Cond.laysFinal "MovingMarket" "MovingMarket" "plainCoin" "[I" ∈ AW := aw_1 170 rfl rfl
theorem wd_1_172 : Cond.laysFinal "MovingMarket" "MovingMarket" "told" "[I" ∈ AW := aw_1 172 rfl rfl
theorem wd_1_174 : Cond.lays "MovingMarket" "MovingMarket" "isKept" "Z" ∈ AW := aw_1 174 rfl rfl
theorem wd_1_177 : Cond.methodLink "MovingMarketLaw" (13 : Nat) ⟨"MovingMarket", "visits", "(II)I"⟩ ∈ AW := aw_1 177 rfl rfl
theorem wd_1_178 : Cond.instanceMethod ⟨"MovingMarket", "visits", "(II)I"⟩ ∈ AW := aw_1 178 rfl rfl
theorem wd_1_179 : Cond.selects "MovingMarket" ⟨"MovingMarket", "visits", "(II)I"⟩ ⟨"MovingMarket", "visits", "(II)I"⟩ ∈ AW := aw_1 179 rfl rfl
theorem wd_1_180 : Cond.code ⟨"MovingMarket", "visits", "(II)I"⟩ prog_1_method_2_code (4 : Nat) (some FieldType.int) ∈ AW := aw_1 180 rfl rfl
theorem wd_1_181 : Cond.methodLink "MovingMarket" (53 : Nat) ⟨"MovingMarket", "isPlace", "(I)Z"⟩ ∈ AW := aw_1 181 rfl rfl
theorem wd_1_182 : Cond.static ⟨"MovingMarket", "isPlace", "(I)Z"⟩ ∈ AW := aw_1 182 rfl rfl
theorem wd_1_183 : Cond.code ⟨"MovingMarket", "isPlace", "(I)Z"⟩ prog_1_method_51_code (1 : Nat) (some FieldType.boolean) ∈ AW := aw_1 183 rfl rfl
theorem wd_1_184 : Cond.methodLink "MovingMarket" (57 : Nat) ⟨"MovingMarket", "finding", "(I)I"⟩ ∈ AW := aw_1 184 rfl rfl
theorem wd_1_186 : Cond.instanceMethod ⟨"MovingMarket", "finding", "(I)I"⟩ ∈ AW := aw_1 186 rfl rfl
theorem wd_1_187 : Cond.code ⟨"MovingMarket", "finding", "(I)I"⟩ prog_1_method_50_code (2 : Nat) (some FieldType.int) ∈ AW := aw_1 187 rfl rfl
theorem wd_1_188 : Cond.constant "MovingMarket" (273 : Nat) (-1000001 : Int32) ∈ AW := aw_1 188 rfl rfl
theorem wd_1_189 : Cond.methodLink "MovingMarketLaw" (18 : Nat) ⟨"MovingMarket", "shade", "(IZ)I"⟩ ∈ AW := aw_1 189 rfl rfl
theorem wd_1_190 : Cond.instanceMethod ⟨"MovingMarket", "shade", "(IZ)I"⟩ ∈ AW := aw_1 190 rfl rfl
theorem wd_1_191 : Cond.selects "MovingMarket" ⟨"MovingMarket", "shade", "(IZ)I"⟩ ⟨"MovingMarket", "shade", "(IZ)I"⟩ ∈ AW := aw_1 191 rfl rfl
theorem wd_1_192 : Cond.code ⟨"MovingMarket", "shade", "(IZ)I"⟩ prog_1_method_3_code (4 : Nat) (some FieldType.int) ∈ AW := aw_1 192 rfl rfl
theorem wd_1_193 : Cond.methodLink "MovingMarketLaw" (23 : Nat) ⟨"MovingMarket", "spring", "(I)I"⟩ ∈ AW := aw_1 193 rfl rfl
theorem wd_1_194 : Cond.instanceMethod ⟨"MovingMarket", "spring", "(I)I"⟩ ∈ AW := aw_1 194 rfl rfl
theorem wd_1_195 : Cond.selects "MovingMarket" ⟨"MovingMarket", "spring", "(I)I"⟩ ⟨"MovingMarket", "spring", "(I)I"⟩ ∈ AW := aw_1 195 rfl rfl
theorem wd_1_196 : Cond.code ⟨"MovingMarket", "spring", "(I)I"⟩ prog_1_method_4_code (3 : Nat) (some FieldType.int) ∈ AW := aw_1 196 rfl rfl
theorem wd_1_197 : Cond.methodLink "MovingMarketLaw" (28 : Nat) ⟨"MovingMarket", "stall", "(II)I"⟩ ∈ AW := aw_1 197 rfl rfl
theorem wd_1_198 : Cond.instanceMethod ⟨"MovingMarket", "stall", "(II)I"⟩ ∈ AW := aw_1 198 rfl rfl
theorem wd_1_199 : Cond.selects "MovingMarket" ⟨"MovingMarket", "stall", "(II)I"⟩ ⟨"MovingMarket", "stall", "(II)I"⟩ ∈ AW := aw_1 199 rfl rfl
theorem wd_1_200 : Cond.code ⟨"MovingMarket", "stall", "(II)I"⟩ prog_1_method_5_code (3 : Nat) (some FieldType.int) ∈ AW := aw_1 200 rfl rfl
theorem wd_1_201 : Cond.methodLink "MovingMarket" (71 : Nat) ⟨"MovingMarket", "isKind", "(I)Z"⟩ ∈ AW := aw_1 201 rfl rfl
theorem wd_1_202 : Cond.static ⟨"MovingMarket", "isKind", "(I)Z"⟩ ∈ AW := aw_1 202 rfl rfl
theorem wd_1_203 : Cond.code ⟨"MovingMarket", "isKind", "(I)Z"⟩ prog_1_method_52_code (1 : Nat) (some FieldType.boolean) ∈ AW := aw_1 203 rfl rfl
theorem wd_1_204 : Cond.methodLink "MovingMarket" (74 : Nat) ⟨"MovingMarket$Square", "stallAt", "(I)I"⟩ ∈ AW := aw_1 204 rfl rfl
theorem wd_1_205 : Cond.instanceMethod ⟨"MovingMarket$Square", "stallAt", "(I)I"⟩ ∈ AW := aw_1 205 rfl rfl
theorem wd_1_206 : Cond.selects "MovingMarket$Square" ⟨"MovingMarket$Square", "stallAt", "(I)I"⟩ ⟨"MovingMarket$Square", "stallAt", "(I)I"⟩ ∈ AW := aw_1 206 rfl rfl
theorem wd_1_207 : Cond.code ⟨"MovingMarket$Square", "stallAt", "(I)I"⟩ prog_4_method_4_code (3 : Nat) (some FieldType.int) ∈ AW := aw_1 207 rfl rfl
theorem wd_1_208 : Cond.methodLink "MovingMarket" (80 : Nat) ⟨"MovingMarket$Square", "addStall", "(II)I"⟩ ∈ AW := aw_1 208 rfl rfl
theorem wd_1_209 : Cond.instanceMethod ⟨"MovingMarket$Square", "addStall", "(II)I"⟩ ∈ AW := aw_1 209 rfl rfl
theorem wd_1_210 : Cond.selects "MovingMarket$Square" ⟨"MovingMarket$Square", "addStall", "(II)I"⟩ ⟨"MovingMarket$Square", "addStall", "(II)I"⟩ ∈ AW := aw_1 210 rfl rfl
theorem wd_1_211 : Cond.code ⟨"MovingMarket$Square", "addStall", "(II)I"⟩ prog_4_method_3_code (4 : Nat) (some FieldType.int) ∈ AW := aw_1 211 rfl rfl
theorem wd_1_212 : Cond.methodLink "MovingMarketLaw" (32 : Nat) ⟨"MovingMarket", "of", "(II)I"⟩ ∈ AW := aw_1 212 rfl rfl
theorem wd_1_213 : Cond.instanceMethod ⟨"MovingMarket", "of", "(II)I"⟩ ∈ AW := aw_1 213 rfl rfl
theorem wd_1_214 : Cond.selects "MovingMarket" ⟨"MovingMarket", "of", "(II)I"⟩ ⟨"MovingMarket", "of", "(II)I"⟩ ∈ AW := aw_1 214 rfl rfl
theorem wd_1_215 : Cond.code ⟨"MovingMarket", "of", "(II)I"⟩ prog_1_method_6_code (3 : Nat) (some FieldType.int) ∈ AW := aw_1 215 rfl rfl
theorem wd_1_216 : Cond.methodLink "MovingMarket" (84 : Nat) ⟨"MovingMarket", "isStall", "(I)Z"⟩ ∈ AW := aw_1 216 rfl rfl
theorem wd_1_218 : Cond.instanceMethod ⟨"MovingMarket", "isStall", "(I)Z"⟩ ∈ AW := aw_1 218 rfl rfl
theorem wd_1_219 : Cond.code ⟨"MovingMarket", "isStall", "(I)Z"⟩ prog_1_method_55_code (2 : Nat) (some FieldType.boolean) ∈ AW := aw_1 219 rfl rfl
theorem wd_1_220 : Cond.methodLink "MovingMarket" (102 : Nat) ⟨"MovingMarket$Square", "priceOf", "(I)I"⟩ ∈ AW := aw_1 220 rfl rfl
theorem wd_1_221 : Cond.instanceMethod ⟨"MovingMarket$Square", "priceOf", "(I)I"⟩ ∈ AW := aw_1 221 rfl rfl
theorem wd_1_222 : Cond.selects "MovingMarket$Square" ⟨"MovingMarket$Square", "priceOf", "(I)I"⟩ ⟨"MovingMarket$Square", "priceOf", "(I)I"⟩ ∈ AW := aw_1 222 rfl rfl
theorem wd_1_223 : Cond.code ⟨"MovingMarket$Square", "priceOf", "(I)I"⟩ prog_4_method_6_code (2 : Nat) (some FieldType.int) ∈ AW := aw_1 223 rfl rfl
theorem wd_1_226 : Cond.methodLink "MovingMarket" (105 : Nat) ⟨"MovingMarket$Square", "wouldGo", "(I)Z"⟩ ∈ AW := aw_1 226 rfl rfl
theorem wd_1_227 : Cond.instanceMethod ⟨"MovingMarket$Square", "wouldGo", "(I)Z"⟩ ∈ AW := aw_1 227 rfl rfl
theorem wd_1_228 : Cond.selects "MovingMarket$Square" ⟨"MovingMarket$Square", "wouldGo", "(I)Z"⟩ ⟨"MovingMarket$Square", "wouldGo", "(I)Z"⟩ ∈ AW := aw_1 228 rfl rfl
theorem wd_1_229 : Cond.code ⟨"MovingMarket$Square", "wouldGo", "(I)Z"⟩ prog_4_method_7_code (2 : Nat) (some FieldType.boolean) ∈ AW := aw_1 229 rfl rfl
theorem wd_1_230 : Cond.methodLink "MovingMarketLaw" (36 : Nat) ⟨"MovingMarket", "change", "(III)I"⟩ ∈ AW := aw_1 230 rfl rfl
theorem wd_1_231 : Cond.instanceMethod ⟨"MovingMarket", "change", "(III)I"⟩ ∈ AW := aw_1 231 rfl rfl
theorem wd_1_232 : Cond.selects "MovingMarket" ⟨"MovingMarket", "change", "(III)I"⟩ ⟨"MovingMarket", "change", "(III)I"⟩ ∈ AW := aw_1 232 rfl rfl
theorem wd_1_233 : Cond.code ⟨"MovingMarket", "change", "(III)I"⟩ prog_1_method_7_code (5 : Nat) (some FieldType.int) ∈ AW := aw_1 233 rfl rfl
theorem wd_1_234 : Cond.methodLink "MovingMarketLaw" (41 : Nat) ⟨"MovingMarket", "swap", "(II)I"⟩ ∈ AW := aw_1 234 rfl rfl
theorem wd_1_235 : Cond.instanceMethod ⟨"MovingMarket", "swap", "(II)I"⟩ ∈ AW := aw_1 235 rfl rfl
theorem wd_1_236 : Cond.selects "MovingMarket" ⟨"MovingMarket", "swap", "(II)I"⟩ ⟨"MovingMarket", "swap", "(II)I"⟩ ∈ AW := aw_1 236 rfl rfl
theorem wd_1_237 : Cond.code ⟨"MovingMarket", "swap", "(II)I"⟩ prog_1_method_8_code (3 : Nat) (some FieldType.int) ∈ AW := aw_1 237 rfl rfl
theorem wd_1_238 : Cond.methodLink "MovingMarket" (108 : Nat) ⟨"MovingMarket$Square", "exchange", "(II)V"⟩ ∈ AW := aw_1 238 rfl rfl
theorem wd_1_239 : Cond.instanceMethod ⟨"MovingMarket$Square", "exchange", "(II)V"⟩ ∈ AW := aw_1 239 rfl rfl
theorem wd_2_0 : Cond.selects "MovingMarket$Square" ⟨"MovingMarket$Square", "exchange", "(II)V"⟩ ⟨"MovingMarket$Square", "exchange", "(II)V"⟩ ∈ AW := aw_2 0 rfl rfl
theorem wd_2_1 : Cond.code ⟨"MovingMarket$Square", "exchange", "(II)V"⟩ prog_4_method_10_code (4 : Nat) (none : Option FieldType) ∈ AW := aw_2 1 rfl rfl
theorem wd_2_2 : Cond.methodLink "MovingMarketLaw" (45 : Nat) ⟨"MovingMarket", "offers", "(II)I"⟩ ∈ AW := aw_2 2 rfl rfl
theorem wd_2_3 : Cond.instanceMethod ⟨"MovingMarket", "offers", "(II)I"⟩ ∈ AW := aw_2 3 rfl rfl
theorem wd_2_4 : Cond.selects "MovingMarket" ⟨"MovingMarket", "offers", "(II)I"⟩ ⟨"MovingMarket", "offers", "(II)I"⟩ ∈ AW := aw_2 4 rfl rfl
theorem wd_2_5 : Cond.code ⟨"MovingMarket", "offers", "(II)I"⟩ prog_1_method_9_code (3 : Nat) (some FieldType.int) ∈ AW := aw_2 5 rfl rfl
theorem wd_2_6 : Cond.methodLink "MovingMarket" (112 : Nat) ⟨"MovingMarket$Square", "offerAt", "(II)I"⟩ ∈ AW := aw_2 6 rfl rfl
theorem wd_2_7 : Cond.instanceMethod ⟨"MovingMarket$Square", "offerAt", "(II)I"⟩ ∈ AW := aw_2 7 rfl rfl
theorem wd_2_8 : Cond.selects "MovingMarket$Square" ⟨"MovingMarket$Square", "offerAt", "(II)I"⟩ ⟨"MovingMarket$Square", "offerAt", "(II)I"⟩ ∈ AW := aw_2 8 rfl rfl
theorem wd_2_9 : Cond.code ⟨"MovingMarket$Square", "offerAt", "(II)I"⟩ prog_4_method_8_code (3 : Nat) (some FieldType.int) ∈ AW := aw_2 9 rfl rfl
theorem wd_2_10 : Cond.methodLink "MovingMarket$Square" (67 : Nat) ⟨"MovingMarket$Square", "twofoldVisits", "(I)I"⟩ ∈ AW := aw_2 10 rfl rfl
theorem wd_2_12 : Cond.instanceMethod ⟨"MovingMarket$Square", "twofoldVisits", "(I)I"⟩ ∈ AW := aw_2 12 rfl rfl
theorem wd_2_13 : Cond.code ⟨"MovingMarket$Square", "twofoldVisits", "(I)I"⟩ prog_4_method_9_code (2 : Nat) (some FieldType.int) ∈ AW := aw_2 13 rfl rfl
theorem wd_2_14 : Cond.methodLink "MovingMarketLaw" (49 : Nat) ⟨"MovingMarket", "placeOf", "(II)I"⟩ ∈ AW := aw_2 14 rfl rfl
theorem wd_2_15 : Cond.instanceMethod ⟨"MovingMarket", "placeOf", "(II)I"⟩ ∈ AW := aw_2 15 rfl rfl
theorem wd_2_16 : Cond.selects "MovingMarket" ⟨"MovingMarket", "placeOf", "(II)I"⟩ ⟨"MovingMarket", "placeOf", "(II)I"⟩ ∈ AW := aw_2 16 rfl rfl
theorem wd_2_17 : Cond.code ⟨"MovingMarket", "placeOf", "(II)I"⟩ prog_1_method_10_code (3 : Nat) (some FieldType.int) ∈ AW := aw_2 17 rfl rfl
theorem wd_2_18 : Cond.methodLink "MovingMarketLaw" (53 : Nat) ⟨"MovingMarket", "hours", "(I)I"⟩ ∈ AW := aw_2 18 rfl rfl
theorem wd_2_19 : Cond.instanceMethod ⟨"MovingMarket", "hours", "(I)I"⟩ ∈ AW := aw_2 19 rfl rfl
theorem wd_2_20 : Cond.selects "MovingMarket" ⟨"MovingMarket", "hours", "(I)I"⟩ ⟨"MovingMarket", "hours", "(I)I"⟩ ∈ AW := aw_2 20 rfl rfl
theorem wd_2_21 : Cond.code ⟨"MovingMarket", "hours", "(I)I"⟩ prog_1_method_11_code (3 : Nat) (some FieldType.int) ∈ AW := aw_2 21 rfl rfl
theorem wd_2_22 : Cond.methodLink "MovingMarket" (115 : Nat) ⟨"MovingMarket", "aheadFinding", "(ZIII)I"⟩ ∈ AW := aw_2 22 rfl rfl
theorem wd_2_24 : Cond.instanceMethod ⟨"MovingMarket", "aheadFinding", "(ZIII)I"⟩ ∈ AW := aw_2 24 rfl rfl
theorem wd_2_25 : Cond.code ⟨"MovingMarket", "aheadFinding", "(ZIII)I"⟩ prog_1_method_57_code (5 : Nat) (some FieldType.int) ∈ AW := aw_2 25 rfl rfl
theorem wd_2_26 : Cond.methodLink "MovingMarket" (119 : Nat) ⟨"MovingMarket$Square", "passHours", "(I)I"⟩ ∈ AW := aw_2 26 rfl rfl
theorem wd_2_27 : Cond.instanceMethod ⟨"MovingMarket$Square", "passHours", "(I)I"⟩ ∈ AW := aw_2 27 rfl rfl
theorem wd_2_28 : Cond.selects "MovingMarket$Square" ⟨"MovingMarket$Square", "passHours", "(I)I"⟩ ⟨"MovingMarket$Square", "passHours", "(I)I"⟩ ∈ AW := aw_2 28 rfl rfl
theorem wd_2_29 : Cond.code ⟨"MovingMarket$Square", "passHours", "(I)I"⟩ prog_4_method_12_code (4 : Nat) (some FieldType.int) ∈ AW := aw_2 29 rfl rfl
theorem wd_2_30 : Cond.methodLink "MovingMarket$Square" (74 : Nat) ⟨"MovingMarket$Square", "passHour", "()I"⟩ ∈ AW := aw_2 30 rfl rfl
theorem wd_2_31 : Cond.instanceMethod ⟨"MovingMarket$Square", "passHour", "()I"⟩ ∈ AW := aw_2 31 rfl rfl
theorem wd_2_32 : Cond.selects "MovingMarket$Square" ⟨"MovingMarket$Square", "passHour", "()I"⟩ ⟨"MovingMarket$Square", "passHour", "()I"⟩ ∈ AW := aw_2 32 rfl rfl
theorem wd_2_33 : Cond.code ⟨"MovingMarket$Square", "passHour", "()I"⟩ prog_4_method_13_code (2 : Nat) (some FieldType.int) ∈ AW := aw_2 33 rfl rfl
theorem wd_2_34 : Cond.methodLink "MovingMarket$Square" (78 : Nat) ⟨"MovingMarket$Square", "sellAll", "()I"⟩ ∈ AW := aw_2 34 rfl rfl
theorem wd_2_35 : Cond.instanceMethod ⟨"MovingMarket$Square", "sellAll", "()I"⟩ ∈ AW := aw_2 35 rfl rfl
theorem wd_2_36 : Cond.selects "MovingMarket$Square" ⟨"MovingMarket$Square", "sellAll", "()I"⟩ ⟨"MovingMarket$Square", "sellAll", "()I"⟩ ∈ AW := aw_2 36 rfl rfl
theorem wd_2_37 : Cond.code ⟨"MovingMarket$Square", "sellAll", "()I"⟩ prog_4_method_14_code (4 : Nat) (some FieldType.int) ∈ AW := aw_2 37 rfl rfl
theorem wd_2_38 : Cond.methodLink "MovingMarket$Square" (84 : Nat) ⟨"MovingMarket$Square", "offerAt", "(II)I"⟩ ∈ AW := aw_2 38 rfl rfl
theorem wd_2_39 : Cond.methodLink "MovingMarket$Square" (88 : Nat) ⟨"java/lang/Math", "min", "(II)I"⟩ ∈ AW := aw_2 39 rfl rfl
theorem wd_2_40 : Cond.static ⟨"java/lang/Math", "min", "(II)I"⟩ ∈ AW := aw_2 40 rfl rfl
theorem wd_2_41 : Cond.code ⟨"java/lang/Math", "min", "(II)I"⟩ prog_8_method_69_code (2 : Nat) (some FieldType.int) ∈ AW := aw_2 41 rfl rfl
theorem wd_2_42 : Cond.methodLink "MovingMarket$Square" (93 : Nat) ⟨"MovingMarket$Square", "priceOf", "(I)I"⟩ ∈ AW := aw_2 42 rfl rfl
theorem wd_2_43 : Cond.methodLink "MovingMarket$Square" (81 : Nat) ⟨"MovingMarket$Square", "strike", "()V"⟩ ∈ AW := aw_2 43 rfl rfl
theorem wd_2_45 : Cond.instanceMethod ⟨"MovingMarket$Square", "strike", "()V"⟩ ∈ AW := aw_2 45 rfl rfl
theorem wd_2_46 : Cond.code ⟨"MovingMarket$Square", "strike", "()V"⟩ prog_4_method_15_code (4 : Nat) (none : Option FieldType) ∈ AW := aw_2 46 rfl rfl
theorem wd_2_47 : Cond.methodLink "MovingMarket$Square" (96 : Nat) ⟨"MovingMarket$Square", "stayers", "()I"⟩ ∈ AW := aw_2 47 rfl rfl
theorem wd_2_48 : Cond.instanceMethod ⟨"MovingMarket$Square", "stayers", "()I"⟩ ∈ AW := aw_2 48 rfl rfl
theorem wd_2_49 : Cond.selects "MovingMarket$Square" ⟨"MovingMarket$Square", "stayers", "()I"⟩ ⟨"MovingMarket$Square", "stayers", "()I"⟩ ∈ AW := aw_2 49 rfl rfl
theorem wd_2_50 : Cond.code ⟨"MovingMarket$Square", "stayers", "()I"⟩ prog_4_method_16_code (3 : Nat) (some FieldType.int) ∈ AW := aw_2 50 rfl rfl
theorem wd_2_51 : Cond.methodLink "MovingMarket$Square" (105 : Nat) ⟨"MovingMarket$Square", "wouldGo", "(I)Z"⟩ ∈ AW := aw_2 51 rfl rfl
theorem wd_2_52 : Cond.methodLink "MovingMarket$Square" (99 : Nat) ⟨"MovingMarket$Square", "placesOf", "(I)I"⟩ ∈ AW := aw_2 52 rfl rfl
theorem wd_2_53 : Cond.instanceMethod ⟨"MovingMarket$Square", "placesOf", "(I)I"⟩ ∈ AW := aw_2 53 rfl rfl
theorem wd_2_54 : Cond.selects "MovingMarket$Square" ⟨"MovingMarket$Square", "placesOf", "(I)I"⟩ ⟨"MovingMarket$Square", "placesOf", "(I)I"⟩ ∈ AW := aw_2 54 rfl rfl
theorem wd_2_55 : Cond.code ⟨"MovingMarket$Square", "placesOf", "(I)I"⟩ prog_4_method_17_code (4 : Nat) (some FieldType.int) ∈ AW := aw_2 55 rfl rfl
theorem wd_2_56 : Cond.methodLink "MovingMarket$Square" (102 : Nat) ⟨"MovingMarket$Square", "stepsFrom", "(II)I"⟩ ∈ AW := aw_2 56 rfl rfl
theorem wd_2_57 : Cond.instanceMethod ⟨"MovingMarket$Square", "stepsFrom", "(II)I"⟩ ∈ AW := aw_2 57 rfl rfl
theorem wd_2_58 : Cond.selects "MovingMarket$Square" ⟨"MovingMarket$Square", "stepsFrom", "(II)I"⟩ ⟨"MovingMarket$Square", "stepsFrom", "(II)I"⟩ ∈ AW := aw_2 58 rfl rfl
theorem wd_2_59 : Cond.code ⟨"MovingMarket$Square", "stepsFrom", "(II)I"⟩ prog_4_method_18_code (4 : Nat) (some FieldType.int) ∈ AW := aw_2 59 rfl rfl
theorem wd_2_60 : Cond.methodLink "MovingMarketLaw" (57 : Nat) ⟨"MovingMarket", "stay", "()I"⟩ ∈ AW := aw_2 60 rfl rfl
theorem wd_2_61 : Cond.instanceMethod ⟨"MovingMarket", "stay", "()I"⟩ ∈ AW := aw_2 61 rfl rfl
theorem wd_2_62 : Cond.selects "MovingMarket" ⟨"MovingMarket", "stay", "()I"⟩ ⟨"MovingMarket", "stay", "()I"⟩ ∈ AW := aw_2 62 rfl rfl
theorem wd_2_63 : Cond.code ⟨"MovingMarket", "stay", "()I"⟩ prog_1_method_12_code (1 : Nat) (some FieldType.int) ∈ AW := aw_2 63 rfl rfl
theorem wd_2_64 : Cond.methodLink "MovingMarket" (122 : Nat) ⟨"MovingMarket$Square", "become", "(LMovingMarket$Square;)V"⟩ ∈ AW := aw_2 64 rfl rfl
theorem wd_2_65 : Cond.instanceMethod ⟨"MovingMarket$Square", "become", "(LMovingMarket$Square;)V"⟩ ∈ AW := aw_2 65 rfl rfl
theorem wd_2_66 : Cond.selects "MovingMarket$Square" ⟨"MovingMarket$Square", "become", "(LMovingMarket$Square;)V"⟩ ⟨"MovingMarket$Square", "become", "(LMovingMarket$Square;)V"⟩ ∈ AW := aw_2 66 rfl rfl
theorem wd_2_67 : Cond.code ⟨"MovingMarket$Square", "become", "(LMovingMarket$Square;)V"⟩ prog_4_method_2_code (2 : Nat) (none : Option FieldType) ∈ AW := aw_2 67 rfl rfl
theorem wd_2_68 : Cond.methodLink "MovingMarket$Square" (46 : Nat) ⟨"java/lang/System", "arraycopy", "(Ljava/lang/Object;ILjava/lang/Object;II)V"⟩ ∈ AW := aw_2 68 rfl rfl
theorem wd_2_69 : Cond.static ⟨"java/lang/System", "arraycopy", "(Ljava/lang/Object;ILjava/lang/Object;II)V"⟩ ∈ AW := aw_2 69 rfl rfl
theorem wd_2_70 : Cond.native ⟨"java/lang/System", "arraycopy", "(Ljava/lang/Object;ILjava/lang/Object;II)V"⟩ ∈ AW := aw_2 70 rfl rfl
theorem wd_2_71 : Cond.methodLink "MovingMarket" (126 : Nat) ⟨"MovingMarket$Square", "sellAll", "()I"⟩ ∈ AW := aw_2 71 rfl rfl
theorem wd_2_72 : Cond.methodLink "MovingMarket" (130 : Nat) ⟨"MovingMarket$Square", "stayers", "()I"⟩ ∈ AW := aw_2 72 rfl rfl
theorem wd_2_73 : Cond.methodLink "MovingMarketLaw" (62 : Nat) ⟨"MovingMarket", "ahead", "(II)I"⟩ ∈ AW := aw_2 73 rfl rfl
theorem wd_2_74 : Cond.instanceMethod ⟨"MovingMarket", "ahead", "(II)I"⟩ ∈ AW := aw_2 74 rfl rfl
theorem wd_2_75 : Cond.selects "MovingMarket" ⟨"MovingMarket", "ahead", "(II)I"⟩ ⟨"MovingMarket", "ahead", "(II)I"⟩ ∈ AW := aw_2 75 rfl rfl
theorem wd_2_76 : Cond.code ⟨"MovingMarket", "ahead", "(II)I"⟩ prog_1_method_13_code (5 : Nat) (some FieldType.int) ∈ AW := aw_2 76 rfl rfl
theorem wd_2_77 : Cond.methodLink "MovingMarket" (133 : Nat) ⟨"MovingMarket$Square", "soldOut", "()I"⟩ ∈ AW := aw_2 77 rfl rfl
theorem wd_2_78 : Cond.instanceMethod ⟨"MovingMarket$Square", "soldOut", "()I"⟩ ∈ AW := aw_2 78 rfl rfl
theorem wd_2_79 : Cond.selects "MovingMarket$Square" ⟨"MovingMarket$Square", "soldOut", "()I"⟩ ⟨"MovingMarket$Square", "soldOut", "()I"⟩ ∈ AW := aw_2 79 rfl rfl
theorem wd_2_80 : Cond.code ⟨"MovingMarket$Square", "soldOut", "()I"⟩ prog_4_method_22_code (3 : Nat) (some FieldType.int) ∈ AW := aw_2 80 rfl rfl
theorem wd_2_81 : Cond.methodLink "MovingMarket" (136 : Nat) ⟨"MovingMarket$Square", "freePlaces", "()I"⟩ ∈ AW := aw_2 81 rfl rfl
theorem wd_2_82 : Cond.instanceMethod ⟨"MovingMarket$Square", "freePlaces", "()I"⟩ ∈ AW := aw_2 82 rfl rfl
theorem wd_2_83 : Cond.selects "MovingMarket$Square" ⟨"MovingMarket$Square", "freePlaces", "()I"⟩ ⟨"MovingMarket$Square", "freePlaces", "()I"⟩ ∈ AW := aw_2 83 rfl rfl
theorem wd_2_84 : Cond.code ⟨"MovingMarket$Square", "freePlaces", "()I"⟩ prog_4_method_23_code (1 : Nat) (some FieldType.int) ∈ AW := aw_2 84 rfl rfl
theorem wd_2_85 : Cond.methodLink "MovingMarket" (139 : Nat) ⟨"MovingMarket$Square", "allCoin", "()I"⟩ ∈ AW := aw_2 85 rfl rfl
theorem wd_2_86 : Cond.instanceMethod ⟨"MovingMarket$Square", "allCoin", "()I"⟩ ∈ AW := aw_2 86 rfl rfl
theorem wd_2_87 : Cond.selects "MovingMarket$Square" ⟨"MovingMarket$Square", "allCoin", "()I"⟩ ⟨"MovingMarket$Square", "allCoin", "()I"⟩ ∈ AW := aw_2 87 rfl rfl
theorem wd_2_88 : Cond.code ⟨"MovingMarket$Square", "allCoin", "()I"⟩ prog_4_method_24_code (3 : Nat) (some FieldType.int) ∈ AW := aw_2 88 rfl rfl
theorem wd_2_89 : Cond.methodLink "MovingMarketLaw" (66 : Nat) ⟨"MovingMarket", "when", "(II)I"⟩ ∈ AW := aw_2 89 rfl rfl
theorem wd_2_90 : Cond.instanceMethod ⟨"MovingMarket", "when", "(II)I"⟩ ∈ AW := aw_2 90 rfl rfl
theorem wd_2_91 : Cond.selects "MovingMarket" ⟨"MovingMarket", "when", "(II)I"⟩ ⟨"MovingMarket", "when", "(II)I"⟩ ∈ AW := aw_2 91 rfl rfl
theorem wd_2_92 : Cond.code ⟨"MovingMarket", "when", "(II)I"⟩ prog_1_method_14_code (5 : Nat) (some FieldType.int) ∈ AW := aw_2 92 rfl rfl
theorem wd_2_93 : Cond.methodLink "MovingMarket" (142 : Nat) ⟨"MovingMarket$Square", "passHour", "()I"⟩ ∈ AW := aw_2 93 rfl rfl
theorem wd_2_94 : Cond.methodLink "MovingMarketLaw" (70 : Nat) ⟨"MovingMarket", "empty", "(I)I"⟩ ∈ AW := aw_2 94 rfl rfl
theorem wd_2_95 : Cond.instanceMethod ⟨"MovingMarket", "empty", "(I)I"⟩ ∈ AW := aw_2 95 rfl rfl
theorem wd_2_96 : Cond.selects "MovingMarket" ⟨"MovingMarket", "empty", "(I)I"⟩ ⟨"MovingMarket", "empty", "(I)I"⟩ ∈ AW := aw_2 96 rfl rfl
theorem wd_2_97 : Cond.code ⟨"MovingMarket", "empty", "(I)I"⟩ prog_1_method_15_code (4 : Nat) (some FieldType.int) ∈ AW := aw_2 97 rfl rfl
theorem wd_2_98 : Cond.methodLink "MovingMarketLaw" (74 : Nat) ⟨"MovingMarket", "again", "()I"⟩ ∈ AW := aw_2 98 rfl rfl
theorem wd_2_99 : Cond.instanceMethod ⟨"MovingMarket", "again", "()I"⟩ ∈ AW := aw_2 99 rfl rfl
theorem wd_2_100 : Cond.selects "MovingMarket" ⟨"MovingMarket", "again", "()I"⟩ ⟨"MovingMarket", "again", "()I"⟩ ∈ AW := aw_2 100 rfl rfl
theorem wd_2_101 : Cond.code ⟨"MovingMarket", "again", "()I"⟩ prog_1_method_16_code (3 : Nat) (some FieldType.int) ∈ AW := aw_2 101 rfl rfl
theorem wd_2_102 : Cond.methodLink "MovingMarket" (145 : Nat) ⟨"MovingMarket$Square", "standsLike", "(LMovingMarket$Square;)Z"⟩ ∈ AW := aw_2 102 rfl rfl
theorem wd_2_103 : Cond.instanceMethod ⟨"MovingMarket$Square", "standsLike", "(LMovingMarket$Square;)Z"⟩ ∈ AW := aw_2 103 rfl rfl
theorem wd_2_104 : Cond.selects "MovingMarket$Square" ⟨"MovingMarket$Square", "standsLike", "(LMovingMarket$Square;)Z"⟩ ⟨"MovingMarket$Square", "standsLike", "(LMovingMarket$Square;)Z"⟩ ∈ AW := aw_2 104 rfl rfl
theorem wd_2_105 : Cond.code ⟨"MovingMarket$Square", "standsLike", "(LMovingMarket$Square;)Z"⟩ prog_4_method_19_code (3 : Nat) (some FieldType.boolean) ∈ AW := aw_2 105 rfl rfl
theorem wd_2_106 : Cond.methodLink "MovingMarketLaw" (78 : Nat) ⟨"MovingMarket", "there", "(II)I"⟩ ∈ AW := aw_2 106 rfl rfl
theorem wd_2_107 : Cond.instanceMethod ⟨"MovingMarket", "there", "(II)I"⟩ ∈ AW := aw_2 107 rfl rfl
theorem wd_2_108 : Cond.selects "MovingMarket" ⟨"MovingMarket", "there", "(II)I"⟩ ⟨"MovingMarket", "there", "(II)I"⟩ ∈ AW := aw_2 108 rfl rfl
theorem wd_2_109 : Cond.code ⟨"MovingMarket", "there", "(II)I"⟩ prog_1_method_17_code (5 : Nat) (some FieldType.int) ∈ AW := aw_2 109 rfl rfl
theorem wd_2_110 : Cond.methodLink "MovingMarketLaw" (82 : Nat) ⟨"MovingMarket", "passes", "(I)I"⟩ ∈ AW := aw_2 110 rfl rfl
theorem wd_2_111 : Cond.instanceMethod ⟨"MovingMarket", "passes", "(I)I"⟩ ∈ AW := aw_2 111 rfl rfl
theorem wd_2_112 : Cond.selects "MovingMarket" ⟨"MovingMarket", "passes", "(I)I"⟩ ⟨"MovingMarket", "passes", "(I)I"⟩ ∈ AW := aw_2 112 rfl rfl
theorem wd_2_113 : Cond.code ⟨"MovingMarket", "passes", "(I)I"⟩ prog_1_method_18_code (4 : Nat) (some FieldType.int) ∈ AW := aw_2 113 rfl rfl
theorem wd_2_114 : Cond.methodLink "MovingMarket" (149 : Nat) ⟨"MovingMarket$Square", "placesOf", "(I)I"⟩ ∈ AW := aw_2 114 rfl rfl
theorem wd_2_115 : Cond.methodLink "MovingMarket" (152 : Nat) ⟨"MovingMarket$Square", "stepsFrom", "(II)I"⟩ ∈ AW := aw_2 115 rfl rfl
theorem wd_2_116 : Cond.methodLink "MovingMarketLaw" (86 : Nat) ⟨"MovingMarket", "most", "(I)I"⟩ ∈ AW := aw_2 116 rfl rfl
theorem wd_2_117 : Cond.instanceMethod ⟨"MovingMarket", "most", "(I)I"⟩ ∈ AW := aw_2 117 rfl rfl
theorem wd_2_118 : Cond.selects "MovingMarket" ⟨"MovingMarket", "most", "(I)I"⟩ ⟨"MovingMarket", "most", "(I)I"⟩ ∈ AW := aw_2 118 rfl rfl
theorem wd_2_119 : Cond.code ⟨"MovingMarket", "most", "(I)I"⟩ prog_1_method_19_code (3 : Nat) (some FieldType.int) ∈ AW := aw_2 119 rfl rfl
theorem wd_2_120 : Cond.methodLink "MovingMarket" (155 : Nat) ⟨"MovingMarket", "orderFinding", "(ZII)I"⟩ ∈ AW := aw_2 120 rfl rfl
theorem wd_2_122 : Cond.instanceMethod ⟨"MovingMarket", "orderFinding", "(ZII)I"⟩ ∈ AW := aw_2 122 rfl rfl
theorem wd_2_123 : Cond.code ⟨"MovingMarket", "orderFinding", "(ZII)I"⟩ prog_1_method_58_code (5 : Nat) (some FieldType.int) ∈ AW := aw_2 123 rfl rfl
theorem wd_2_124 : Cond.methodLink "MovingMarket" (159 : Nat) ⟨"MovingMarket", "searchMost", "(I)I"⟩ ∈ AW := aw_2 124 rfl rfl
theorem wd_2_126 : Cond.instanceMethod ⟨"MovingMarket", "searchMost", "(I)I"⟩ ∈ AW := aw_2 126 rfl rfl
theorem wd_2_127 : Cond.code ⟨"MovingMarket", "searchMost", "(I)I"⟩ prog_1_method_61_code (6 : Nat) (some FieldType.int) ∈ AW := aw_2 127 rfl rfl
theorem wd_2_128 : Cond.methodLink "MovingMarket" (165 : Nat) ⟨"MovingMarket$Order", "begin", "(I)I"⟩ ∈ AW := aw_2 128 rfl rfl
theorem wd_2_129 : Cond.instanceMethod ⟨"MovingMarket$Order", "begin", "(I)I"⟩ ∈ AW := aw_2 129 rfl rfl
theorem wd_2_130 : Cond.selects "MovingMarket$Order" ⟨"MovingMarket$Order", "begin", "(I)I"⟩ ⟨"MovingMarket$Order", "begin", "(I)I"⟩ ∈ AW := aw_2 130 rfl rfl
theorem wd_2_131 : Cond.code ⟨"MovingMarket$Order", "begin", "(I)I"⟩ prog_2_method_2_code (4 : Nat) (some FieldType.int) ∈ AW := aw_2 131 rfl rfl
theorem wd_2_132 : Cond.methodLink "MovingMarket" (168 : Nat) ⟨"MovingMarket", "tryOrder", "()V"⟩ ∈ AW := aw_2 132 rfl rfl
theorem wd_2_134 : Cond.instanceMethod ⟨"MovingMarket", "tryOrder", "()V"⟩ ∈ AW := aw_2 134 rfl rfl
theorem wd_2_135 : Cond.code ⟨"MovingMarket", "tryOrder", "()V"⟩ prog_1_method_60_code (2 : Nat) (none : Option FieldType) ∈ AW := aw_2 135 rfl rfl
theorem wd_2_136 : Cond.methodLink "MovingMarket" (274 : Nat) ⟨"MovingMarket$Order", "become", "(LMovingMarket$Order;)V"⟩ ∈ AW := aw_2 136 rfl rfl
theorem wd_2_137 : Cond.instanceMethod ⟨"MovingMarket$Order", "become", "(LMovingMarket$Order;)V"⟩ ∈ AW := aw_2 137 rfl rfl
theorem wd_2_138 : Cond.selects "MovingMarket$Order" ⟨"MovingMarket$Order", "become", "(LMovingMarket$Order;)V"⟩ ⟨"MovingMarket$Order", "become", "(LMovingMarket$Order;)V"⟩ ∈ AW := aw_2 138 rfl rfl
theorem wd_2_139 : Cond.code ⟨"MovingMarket$Order", "become", "(LMovingMarket$Order;)V"⟩ prog_2_method_3_code (2 : Nat) (none : Option FieldType) ∈ AW := aw_2 139 rfl rfl
theorem wd_2_140 : Cond.methodLink "MovingMarket$Order" (19 : Nat) ⟨"java/lang/System", "arraycopy", "(Ljava/lang/Object;ILjava/lang/Object;II)V"⟩ ∈ AW := aw_2 140 rfl rfl
theorem wd_2_141 : Cond.methodLink "MovingMarket" (171 : Nat) ⟨"MovingMarket$Order", "advance", "()V"⟩ ∈ AW := aw_2 141 rfl rfl
theorem wd_2_142 : Cond.instanceMethod ⟨"MovingMarket$Order", "advance", "()V"⟩ ∈ AW := aw_2 142 rfl rfl
theorem wd_2_143 : Cond.selects "MovingMarket$Order" ⟨"MovingMarket$Order", "advance", "()V"⟩ ⟨"MovingMarket$Order", "advance", "()V"⟩ ∈ AW := aw_2 143 rfl rfl
theorem wd_2_144 : Cond.code ⟨"MovingMarket$Order", "advance", "()V"⟩ prog_2_method_4_code (5 : Nat) (none : Option FieldType) ∈ AW := aw_2 144 rfl rfl
theorem wd_2_145 : Cond.methodLink "MovingMarket$Order" (25 : Nat) ⟨"MovingMarket$Order", "exchangeTaken", "(II)V"⟩ ∈ AW := aw_2 145 rfl rfl
theorem wd_2_147 : Cond.instanceMethod ⟨"MovingMarket$Order", "exchangeTaken", "(II)V"⟩ ∈ AW := aw_2 147 rfl rfl
theorem wd_2_148 : Cond.code ⟨"MovingMarket$Order", "exchangeTaken", "(II)V"⟩ prog_2_method_5_code (4 : Nat) (none : Option FieldType) ∈ AW := aw_2 148 rfl rfl
theorem wd_2_149 : Cond.methodLink "MovingMarketLaw" (90 : Nat) ⟨"MovingMarket", "order", "(II)I"⟩ ∈ AW := aw_2 149 rfl rfl
theorem wd_2_150 : Cond.instanceMethod ⟨"MovingMarket", "order", "(II)I"⟩ ∈ AW := aw_2 150 rfl rfl
theorem wd_2_151 : Cond.selects "MovingMarket" ⟨"MovingMarket", "order", "(II)I"⟩ ⟨"MovingMarket", "order", "(II)I"⟩ ∈ AW := aw_2 151 rfl rfl
theorem wd_2_152 : Cond.code ⟨"MovingMarket", "order", "(II)I"⟩ prog_1_method_20_code (4 : Nat) (some FieldType.int) ∈ AW := aw_2 152 rfl rfl
theorem wd_2_153 : Cond.methodLink "MovingMarketLaw" (94 : Nat) ⟨"MovingMarket", "dawn", "(III)I"⟩ ∈ AW := aw_2 153 rfl rfl
theorem wd_2_154 : Cond.instanceMethod ⟨"MovingMarket", "dawn", "(III)I"⟩ ∈ AW := aw_2 154 rfl rfl
theorem wd_2_155 : Cond.selects "MovingMarket" ⟨"MovingMarket", "dawn", "(III)I"⟩ ⟨"MovingMarket", "dawn", "(III)I"⟩ ∈ AW := aw_2 155 rfl rfl
theorem wd_2_156 : Cond.code ⟨"MovingMarket", "dawn", "(III)I"⟩ prog_1_method_21_code (7 : Nat) (some FieldType.int) ∈ AW := aw_2 156 rfl rfl
theorem wd_2_157 : Cond.methodLink "MovingMarketLaw" (98 : Nat) ⟨"MovingMarket", "throwAway", "(II)I"⟩ ∈ AW := aw_2 157 rfl rfl
theorem wd_2_158 : Cond.instanceMethod ⟨"MovingMarket", "throwAway", "(II)I"⟩ ∈ AW := aw_2 158 rfl rfl
theorem wd_2_159 : Cond.selects "MovingMarket" ⟨"MovingMarket", "throwAway", "(II)I"⟩ ⟨"MovingMarket", "throwAway", "(II)I"⟩ ∈ AW := aw_2 159 rfl rfl
theorem wd_2_160 : Cond.code ⟨"MovingMarket", "throwAway", "(II)I"⟩ prog_1_method_22_code (7 : Nat) (some FieldType.int) ∈ AW := aw_2 160 rfl rfl
theorem wd_2_161 : Cond.methodLink "MovingMarketLaw" (102 : Nat) ⟨"MovingMarket", "wishes", "(II)I"⟩ ∈ AW := aw_2 161 rfl rfl
theorem wd_2_162 : Cond.instanceMethod ⟨"MovingMarket", "wishes", "(II)I"⟩ ∈ AW := aw_2 162 rfl rfl
theorem wd_2_163 : Cond.selects "MovingMarket" ⟨"MovingMarket", "wishes", "(II)I"⟩ ⟨"MovingMarket", "wishes", "(II)I"⟩ ∈ AW := aw_2 163 rfl rfl
theorem wd_2_164 : Cond.code ⟨"MovingMarket", "wishes", "(II)I"⟩ prog_1_method_23_code (7 : Nat) (some FieldType.int) ∈ AW := aw_2 164 rfl rfl
theorem wd_2_165 : Cond.methodLink "MovingMarket" (174 : Nat) ⟨"MovingMarket", "swapAhead", "(III)V"⟩ ∈ AW := aw_2 165 rfl rfl
theorem wd_2_167 : Cond.instanceMethod ⟨"MovingMarket", "swapAhead", "(III)V"⟩ ∈ AW := aw_2 167 rfl rfl
theorem wd_2_168 : Cond.code ⟨"MovingMarket", "swapAhead", "(III)V"⟩ prog_1_method_62_code (4 : Nat) (none : Option FieldType) ∈ AW := aw_2 168 rfl rfl
theorem wd_2_169 : Cond.methodLink "MovingMarketLaw" (106 : Nat) ⟨"MovingMarket", "deal", "(I)I"⟩ ∈ AW := aw_2 169 rfl rfl
theorem wd_2_170 : Cond.instanceMethod ⟨"MovingMarket", "deal", "(I)I"⟩ ∈ AW := aw_2 170 rfl rfl
theorem wd_2_171 : Cond.selects "MovingMarket" ⟨"MovingMarket", "deal", "(I)I"⟩ ⟨"MovingMarket", "deal", "(I)I"⟩ ∈ AW := aw_2 171 rfl rfl
theorem wd_2_172 : Cond.code ⟨"MovingMarket", "deal", "(I)I"⟩ prog_1_method_24_code (5 : Nat) (some FieldType.int) ∈ AW := aw_2 172 rfl rfl
theorem wd_2_173 : Cond.methodLink "MovingMarket" (178 : Nat) ⟨"java/lang/System", "arraycopy", "(Ljava/lang/Object;ILjava/lang/Object;II)V"⟩ ∈ AW := aw_2 173 rfl rfl
theorem wd_2_174 : Cond.methodLink "MovingMarketLaw" (110 : Nat) ⟨"MovingMarket", "beside", "(I)I"⟩ ∈ AW := aw_2 174 rfl rfl
theorem wd_2_175 : Cond.instanceMethod ⟨"MovingMarket", "beside", "(I)I"⟩ ∈ AW := aw_2 175 rfl rfl
theorem wd_2_176 : Cond.selects "MovingMarket" ⟨"MovingMarket", "beside", "(I)I"⟩ ⟨"MovingMarket", "beside", "(I)I"⟩ ∈ AW := aw_2 176 rfl rfl
theorem wd_2_177 : Cond.code ⟨"MovingMarket", "beside", "(I)I"⟩ prog_1_method_25_code (2 : Nat) (some FieldType.int) ∈ AW := aw_2 177 rfl rfl
theorem wd_2_178 : Cond.methodLink "MovingMarket" (184 : Nat) ⟨"MovingMarket$Square", "besideSet", "(I)I"⟩ ∈ AW := aw_2 178 rfl rfl
theorem wd_2_179 : Cond.instanceMethod ⟨"MovingMarket$Square", "besideSet", "(I)I"⟩ ∈ AW := aw_2 179 rfl rfl
theorem wd_2_180 : Cond.selects "MovingMarket$Square" ⟨"MovingMarket$Square", "besideSet", "(I)I"⟩ ⟨"MovingMarket$Square", "besideSet", "(I)I"⟩ ∈ AW := aw_2 180 rfl rfl
theorem wd_2_181 : Cond.code ⟨"MovingMarket$Square", "besideSet", "(I)I"⟩ prog_4_method_21_code (4 : Nat) (some FieldType.int) ∈ AW := aw_2 181 rfl rfl
theorem wd_2_182 : Cond.methodLink "MovingMarket$Square" (112 : Nat) ⟨"MovingMarket$Square", "areBeside", "(II)Z"⟩ ∈ AW := aw_2 182 rfl rfl
theorem wd_2_183 : Cond.instanceMethod ⟨"MovingMarket$Square", "areBeside", "(II)Z"⟩ ∈ AW := aw_2 183 rfl rfl
theorem wd_2_184 : Cond.selects "MovingMarket$Square" ⟨"MovingMarket$Square", "areBeside", "(II)Z"⟩ ⟨"MovingMarket$Square", "areBeside", "(II)Z"⟩ ∈ AW := aw_2 184 rfl rfl
theorem wd_2_185 : Cond.code ⟨"MovingMarket$Square", "areBeside", "(II)Z"⟩ prog_4_method_20_code (4 : Nat) (some FieldType.boolean) ∈ AW := aw_2 185 rfl rfl
theorem wd_2_186 : Cond.methodLink "MovingMarket$Square" (109 : Nat) ⟨"java/lang/Math", "floorMod", "(II)I"⟩ ∈ AW := aw_2 186 rfl rfl
theorem wd_2_187 : Cond.static ⟨"java/lang/Math", "floorMod", "(II)I"⟩ ∈ AW := aw_2 187 rfl rfl
theorem wd_2_188 : Cond.code ⟨"java/lang/Math", "floorMod", "(II)I"⟩ prog_8_method_50_code (3 : Nat) (some FieldType.int) ∈ AW := aw_2 188 rfl rfl
theorem wd_2_189 : Cond.methodLink "MovingMarketLaw" (114 : Nat) ⟨"MovingMarket", "ever", "(II)I"⟩ ∈ AW := aw_2 189 rfl rfl
theorem wd_2_190 : Cond.instanceMethod ⟨"MovingMarket", "ever", "(II)I"⟩ ∈ AW := aw_2 190 rfl rfl
theorem wd_2_191 : Cond.selects "MovingMarket" ⟨"MovingMarket", "ever", "(II)I"⟩ ⟨"MovingMarket", "ever", "(II)I"⟩ ∈ AW := aw_2 191 rfl rfl
theorem wd_2_192 : Cond.code ⟨"MovingMarket", "ever", "(II)I"⟩ prog_1_method_26_code (6 : Nat) (some FieldType.int) ∈ AW := aw_2 192 rfl rfl
theorem wd_2_193 : Cond.methodLink "MovingMarketLaw" (118 : Nat) ⟨"MovingMarket", "meet", "(II)I"⟩ ∈ AW := aw_2 193 rfl rfl
theorem wd_2_194 : Cond.instanceMethod ⟨"MovingMarket", "meet", "(II)I"⟩ ∈ AW := aw_2 194 rfl rfl
theorem wd_2_195 : Cond.selects "MovingMarket" ⟨"MovingMarket", "meet", "(II)I"⟩ ⟨"MovingMarket", "meet", "(II)I"⟩ ∈ AW := aw_2 195 rfl rfl
theorem wd_2_196 : Cond.code ⟨"MovingMarket", "meet", "(II)I"⟩ prog_1_method_27_code (5 : Nat) (some FieldType.int) ∈ AW := aw_2 196 rfl rfl
theorem wd_2_197 : Cond.methodLink "MovingMarket" (187 : Nat) ⟨"MovingMarket", "isPair", "(II)Z"⟩ ∈ AW := aw_2 197 rfl rfl
theorem wd_2_199 : Cond.instanceMethod ⟨"MovingMarket", "isPair", "(II)Z"⟩ ∈ AW := aw_2 199 rfl rfl
theorem wd_2_200 : Cond.code ⟨"MovingMarket", "isPair", "(II)Z"⟩ prog_1_method_56_code (3 : Nat) (some FieldType.boolean) ∈ AW := aw_2 200 rfl rfl
theorem wd_2_201 : Cond.methodLink "MovingMarket" (191 : Nat) ⟨"MovingMarket", "firstBeside", "(III)I"⟩ ∈ AW := aw_2 201 rfl rfl
theorem wd_2_203 : Cond.instanceMethod ⟨"MovingMarket", "firstBeside", "(III)I"⟩ ∈ AW := aw_2 203 rfl rfl
theorem wd_2_204 : Cond.code ⟨"MovingMarket", "firstBeside", "(III)I"⟩ prog_1_method_64_code (5 : Nat) (some FieldType.int) ∈ AW := aw_2 204 rfl rfl
theorem wd_2_205 : Cond.methodLink "MovingMarket" (280 : Nat) ⟨"MovingMarket$Square", "areBeside", "(II)Z"⟩ ∈ AW := aw_2 205 rfl rfl
theorem wd_2_206 : Cond.methodLink "MovingMarketLaw" (122 : Nat) ⟨"MovingMarket", "never", "(III)I"⟩ ∈ AW := aw_2 206 rfl rfl
theorem wd_2_207 : Cond.instanceMethod ⟨"MovingMarket", "never", "(III)I"⟩ ∈ AW := aw_2 207 rfl rfl
theorem wd_2_208 : Cond.selects "MovingMarket" ⟨"MovingMarket", "never", "(III)I"⟩ ⟨"MovingMarket", "never", "(III)I"⟩ ∈ AW := aw_2 208 rfl rfl
theorem wd_2_209 : Cond.code ⟨"MovingMarket", "never", "(III)I"⟩ prog_1_method_28_code (8 : Nat) (some FieldType.int) ∈ AW := aw_2 209 rfl rfl
theorem wd_2_210 : Cond.methodLink "MovingMarketLaw" (126 : Nat) ⟨"MovingMarket", "worth", "(III)I"⟩ ∈ AW := aw_2 210 rfl rfl
theorem wd_2_211 : Cond.instanceMethod ⟨"MovingMarket", "worth", "(III)I"⟩ ∈ AW := aw_2 211 rfl rfl
theorem wd_2_212 : Cond.selects "MovingMarket" ⟨"MovingMarket", "worth", "(III)I"⟩ ⟨"MovingMarket", "worth", "(III)I"⟩ ∈ AW := aw_2 212 rfl rfl
theorem wd_2_213 : Cond.code ⟨"MovingMarket", "worth", "(III)I"⟩ prog_1_method_29_code (6 : Nat) (some FieldType.int) ∈ AW := aw_2 213 rfl rfl
theorem wd_2_214 : Cond.methodLink "MovingMarket" (195 : Nat) ⟨"MovingMarket", "coinFrom", "(III)I"⟩ ∈ AW := aw_2 214 rfl rfl
theorem wd_2_216 : Cond.instanceMethod ⟨"MovingMarket", "coinFrom", "(III)I"⟩ ∈ AW := aw_2 216 rfl rfl
theorem wd_2_217 : Cond.code ⟨"MovingMarket", "coinFrom", "(III)I"⟩ prog_1_method_63_code (4 : Nat) (some FieldType.int) ∈ AW := aw_2 217 rfl rfl
theorem wd_2_218 : Cond.methodLink "MovingMarket" (277 : Nat) ⟨"MovingMarket$Square", "bring", "(II)V"⟩ ∈ AW := aw_2 218 rfl rfl
theorem wd_2_219 : Cond.instanceMethod ⟨"MovingMarket$Square", "bring", "(II)V"⟩ ∈ AW := aw_2 219 rfl rfl
theorem wd_2_220 : Cond.selects "MovingMarket$Square" ⟨"MovingMarket$Square", "bring", "(II)V"⟩ ⟨"MovingMarket$Square", "bring", "(II)V"⟩ ∈ AW := aw_2 220 rfl rfl
theorem wd_2_221 : Cond.code ⟨"MovingMarket$Square", "bring", "(II)V"⟩ prog_4_method_11_code (4 : Nat) (none : Option FieldType) ∈ AW := aw_2 221 rfl rfl
theorem wd_2_222 : Cond.methodLink "MovingMarket$Square" (71 : Nat) ⟨"MovingMarket$Square", "stallAt", "(I)I"⟩ ∈ AW := aw_2 222 rfl rfl
theorem wd_2_223 : Cond.methodLink "MovingMarketLaw" (130 : Nat) ⟨"MovingMarket", "best", "(II)I"⟩ ∈ AW := aw_2 223 rfl rfl
theorem wd_2_224 : Cond.instanceMethod ⟨"MovingMarket", "best", "(II)I"⟩ ∈ AW := aw_2 224 rfl rfl
theorem wd_2_225 : Cond.selects "MovingMarket" ⟨"MovingMarket", "best", "(II)I"⟩ ⟨"MovingMarket", "best", "(II)I"⟩ ∈ AW := aw_2 225 rfl rfl
theorem wd_2_226 : Cond.code ⟨"MovingMarket", "best", "(II)I"⟩ prog_1_method_30_code (8 : Nat) (some FieldType.int) ∈ AW := aw_2 226 rfl rfl
theorem wd_2_227 : Cond.methodLink "MovingMarketLaw" (134 : Nat) ⟨"MovingMarket", "thief", "(II)I"⟩ ∈ AW := aw_2 227 rfl rfl
theorem wd_2_228 : Cond.instanceMethod ⟨"MovingMarket", "thief", "(II)I"⟩ ∈ AW := aw_2 228 rfl rfl
theorem wd_2_229 : Cond.selects "MovingMarket" ⟨"MovingMarket", "thief", "(II)I"⟩ ⟨"MovingMarket", "thief", "(II)I"⟩ ∈ AW := aw_2 229 rfl rfl
theorem wd_2_230 : Cond.code ⟨"MovingMarket", "thief", "(II)I"⟩ prog_1_method_31_code (5 : Nat) (some FieldType.int) ∈ AW := aw_2 230 rfl rfl
theorem wd_2_231 : Cond.methodLink "MovingMarketLaw" (138 : Nat) ⟨"MovingMarket", "lots", "(I)I"⟩ ∈ AW := aw_2 231 rfl rfl
theorem wd_2_232 : Cond.instanceMethod ⟨"MovingMarket", "lots", "(I)I"⟩ ∈ AW := aw_2 232 rfl rfl
theorem wd_2_233 : Cond.selects "MovingMarket" ⟨"MovingMarket", "lots", "(I)I"⟩ ⟨"MovingMarket", "lots", "(I)I"⟩ ∈ AW := aw_2 233 rfl rfl
theorem wd_2_234 : Cond.code ⟨"MovingMarket", "lots", "(I)I"⟩ prog_1_method_32_code (5 : Nat) (some FieldType.int) ∈ AW := aw_2 234 rfl rfl
theorem wd_2_235 : Cond.methodLink "MovingMarket" (198 : Nat) ⟨"MovingMarket$Square", "draw", "()I"⟩ ∈ AW := aw_2 235 rfl rfl
theorem wd_2_236 : Cond.instanceMethod ⟨"MovingMarket$Square", "draw", "()I"⟩ ∈ AW := aw_2 236 rfl rfl
theorem wd_2_237 : Cond.selects "MovingMarket$Square" ⟨"MovingMarket$Square", "draw", "()I"⟩ ⟨"MovingMarket$Square", "draw", "()I"⟩ ∈ AW := aw_2 237 rfl rfl
theorem wd_2_238 : Cond.code ⟨"MovingMarket$Square", "draw", "()I"⟩ prog_4_method_28_code (1 : Nat) (some FieldType.int) ∈ AW := aw_2 238 rfl rfl
theorem wd_2_239 : Cond.constant "MovingMarket$Square" (116 : Nat) (1103515245 : Int32) ∈ AW := aw_2 239 rfl rfl
theorem wd_3_0 : Cond.methodLink "MovingMarketLaw" (142 : Nat) ⟨"MovingMarket", "seed", "(I)I"⟩ ∈ AW := aw_3 0 rfl rfl
theorem wd_3_1 : Cond.instanceMethod ⟨"MovingMarket", "seed", "(I)I"⟩ ∈ AW := aw_3 1 rfl rfl
theorem wd_3_2 : Cond.selects "MovingMarket" ⟨"MovingMarket", "seed", "(I)I"⟩ ⟨"MovingMarket", "seed", "(I)I"⟩ ∈ AW := aw_3 2 rfl rfl
theorem wd_3_3 : Cond.code ⟨"MovingMarket", "seed", "(I)I"⟩ prog_1_method_33_code (3 : Nat) (some FieldType.int) ∈ AW := aw_3 3 rfl rfl
theorem wd_3_4 : Cond.methodLink "MovingMarketLaw" (146 : Nat) ⟨"MovingMarket", "feed", "(II)I"⟩ ∈ AW := aw_3 4 rfl rfl
theorem wd_3_5 : Cond.instanceMethod ⟨"MovingMarket", "feed", "(II)I"⟩ ∈ AW := aw_3 5 rfl rfl
theorem wd_3_6 : Cond.selects "MovingMarket" ⟨"MovingMarket", "feed", "(II)I"⟩ ⟨"MovingMarket", "feed", "(II)I"⟩ ∈ AW := aw_3 6 rfl rfl
theorem wd_3_7 : Cond.code ⟨"MovingMarket", "feed", "(II)I"⟩ prog_1_method_34_code (4 : Nat) (some FieldType.int) ∈ AW := aw_3 7 rfl rfl
theorem wd_3_8 : Cond.methodLink "MovingMarket" (207 : Nat) ⟨"MovingMarket$Tape", "put", "(I)V"⟩ ∈ AW := aw_3 8 rfl rfl
theorem wd_3_9 : Cond.instanceMethod ⟨"MovingMarket$Tape", "put", "(I)V"⟩ ∈ AW := aw_3 9 rfl rfl
theorem wd_3_10 : Cond.selects "MovingMarket$Tape" ⟨"MovingMarket$Tape", "put", "(I)V"⟩ ⟨"MovingMarket$Tape", "put", "(I)V"⟩ ∈ AW := aw_3 10 rfl rfl
theorem wd_3_11 : Cond.code ⟨"MovingMarket$Tape", "put", "(I)V"⟩ prog_5_method_2_code (2 : Nat) (none : Option FieldType) ∈ AW := aw_3 11 rfl rfl
theorem wd_3_12 : Cond.methodLink "MovingMarketLaw" (150 : Nat) ⟨"MovingMarket", "wipe", "()I"⟩ ∈ AW := aw_3 12 rfl rfl
theorem wd_3_13 : Cond.instanceMethod ⟨"MovingMarket", "wipe", "()I"⟩ ∈ AW := aw_3 13 rfl rfl
theorem wd_3_14 : Cond.selects "MovingMarket" ⟨"MovingMarket", "wipe", "()I"⟩ ⟨"MovingMarket", "wipe", "()I"⟩ ∈ AW := aw_3 14 rfl rfl
theorem wd_3_15 : Cond.code ⟨"MovingMarket", "wipe", "()I"⟩ prog_1_method_35_code (2 : Nat) (some FieldType.int) ∈ AW := aw_3 15 rfl rfl
theorem wd_3_16 : Cond.methodLink "MovingMarketLaw" (154 : Nat) ⟨"MovingMarket", "text", "()I"⟩ ∈ AW := aw_3 16 rfl rfl
theorem wd_3_17 : Cond.instanceMethod ⟨"MovingMarket", "text", "()I"⟩ ∈ AW := aw_3 17 rfl rfl
theorem wd_3_18 : Cond.selects "MovingMarket" ⟨"MovingMarket", "text", "()I"⟩ ⟨"MovingMarket", "text", "()I"⟩ ∈ AW := aw_3 18 rfl rfl
theorem wd_3_19 : Cond.code ⟨"MovingMarket", "text", "()I"⟩ prog_1_method_36_code (2 : Nat) (some FieldType.int) ∈ AW := aw_3 19 rfl rfl
theorem wd_3_20 : Cond.methodLink "MovingMarket" (211 : Nat) ⟨"MovingMarket$Tape", "readText", "(LMovingMarket$Square;)I"⟩ ∈ AW := aw_3 20 rfl rfl
theorem wd_3_21 : Cond.instanceMethod ⟨"MovingMarket$Tape", "readText", "(LMovingMarket$Square;)I"⟩ ∈ AW := aw_3 21 rfl rfl
theorem wd_3_22 : Cond.selects "MovingMarket$Tape" ⟨"MovingMarket$Tape", "readText", "(LMovingMarket$Square;)I"⟩ ⟨"MovingMarket$Tape", "readText", "(LMovingMarket$Square;)I"⟩ ∈ AW := aw_3 22 rfl rfl
theorem wd_3_23 : Cond.code ⟨"MovingMarket$Tape", "readText", "(LMovingMarket$Square;)I"⟩ prog_5_method_3_code (3 : Nat) (some FieldType.int) ∈ AW := aw_3 23 rfl rfl
theorem wd_3_24 : Cond.methodLink "MovingMarket$Tape" (22 : Nat) ⟨"MovingMarket$Tape", "readOn", "()V"⟩ ∈ AW := aw_3 24 rfl rfl
theorem wd_3_26 : Cond.instanceMethod ⟨"MovingMarket$Tape", "readOn", "()V"⟩ ∈ AW := aw_3 26 rfl rfl
theorem wd_3_27 : Cond.code ⟨"MovingMarket$Tape", "readOn", "()V"⟩ prog_5_method_4_code (1 : Nat) (none : Option FieldType) ∈ AW := aw_3 27 rfl rfl
theorem wd_3_28 : Cond.methodLink "MovingMarket$Tape" (35 : Nat) ⟨"MovingMarket$Tape", "isBetween", "(ICC)Z"⟩ ∈ AW := aw_3 28 rfl rfl
theorem wd_3_30 : Cond.instanceMethod ⟨"MovingMarket$Tape", "isBetween", "(ICC)Z"⟩ ∈ AW := aw_3 30 rfl rfl
theorem wd_3_31 : Cond.code ⟨"MovingMarket$Tape", "isBetween", "(ICC)Z"⟩ prog_5_method_6_code (4 : Nat) (some FieldType.boolean) ∈ AW := aw_3 31 rfl rfl
theorem wd_3_32 : Cond.methodLink "MovingMarket$Tape" (39 : Nat) ⟨"MovingMarket$Tape", "readRun", "(CC)V"⟩ ∈ AW := aw_3 32 rfl rfl
theorem wd_3_34 : Cond.instanceMethod ⟨"MovingMarket$Tape", "readRun", "(CC)V"⟩ ∈ AW := aw_3 34 rfl rfl
theorem wd_3_35 : Cond.code ⟨"MovingMarket$Tape", "readRun", "(CC)V"⟩ prog_5_method_5_code (3 : Nat) (none : Option FieldType) ∈ AW := aw_3 35 rfl rfl
theorem wd_3_36 : Cond.methodLink "MovingMarket$Tape" (43 : Nat) ⟨"MovingMarket$Tape", "valueOfRun", "()I"⟩ ∈ AW := aw_3 36 rfl rfl
theorem wd_3_38 : Cond.instanceMethod ⟨"MovingMarket$Tape", "valueOfRun", "()I"⟩ ∈ AW := aw_3 38 rfl rfl
theorem wd_3_39 : Cond.code ⟨"MovingMarket$Tape", "valueOfRun", "()I"⟩ prog_5_method_7_code (3 : Nat) (some FieldType.int) ∈ AW := aw_3 39 rfl rfl
theorem wd_3_40 : Cond.methodLink "MovingMarket$Tape" (25 : Nat) ⟨"MovingMarket$Tape", "readItem", "(LMovingMarket$Square;)Z"⟩ ∈ AW := aw_3 40 rfl rfl
theorem wd_3_42 : Cond.instanceMethod ⟨"MovingMarket$Tape", "readItem", "(LMovingMarket$Square;)Z"⟩ ∈ AW := aw_3 42 rfl rfl
theorem wd_3_43 : Cond.code ⟨"MovingMarket$Tape", "readItem", "(LMovingMarket$Square;)Z"⟩ prog_5_method_8_code (3 : Nat) (some FieldType.boolean) ∈ AW := aw_3 43 rfl rfl
theorem wd_3_44 : Cond.methodLink "MovingMarket$Tape" (50 : Nat) ⟨"MovingMarket$Tape", "kindOfWord", "()I"⟩ ∈ AW := aw_3 44 rfl rfl
theorem wd_3_46 : Cond.instanceMethod ⟨"MovingMarket$Tape", "kindOfWord", "()I"⟩ ∈ AW := aw_3 46 rfl rfl
theorem wd_3_47 : Cond.code ⟨"MovingMarket$Tape", "kindOfWord", "()I"⟩ prog_5_method_14_code (2 : Nat) (some FieldType.int) ∈ AW := aw_3 47 rfl rfl
theorem wd_3_48 : Cond.methodLink "MovingMarket$Tape" (115 : Nat) ⟨"MovingMarket$Tape", "wordOfKind", "(I)Ljava/lang/String;"⟩ ∈ AW := aw_3 48 rfl rfl
theorem wd_3_49 : Cond.static ⟨"MovingMarket$Tape", "wordOfKind", "(I)Ljava/lang/String;"⟩ ∈ AW := aw_3 49 rfl rfl
theorem wd_3_50 : Cond.code ⟨"MovingMarket$Tape", "wordOfKind", "(I)Ljava/lang/String;"⟩ prog_5_method_16_code (1 : Nat) (some (FieldType.object "java/lang/String")) ∈ AW := aw_3 50 rfl rfl
theorem wd_3_58 : Cond.methodLink "MovingMarket$Tape" (59 : Nat) ⟨"MovingMarket$Tape", "isWord", "(Ljava/lang/String;)Z"⟩ ∈ AW := aw_3 58 rfl rfl
theorem wd_3_60 : Cond.instanceMethod ⟨"MovingMarket$Tape", "isWord", "(Ljava/lang/String;)Z"⟩ ∈ AW := aw_3 60 rfl rfl
theorem wd_3_61 : Cond.code ⟨"MovingMarket$Tape", "isWord", "(Ljava/lang/String;)Z"⟩ prog_5_method_15_code (3 : Nat) (some FieldType.boolean) ∈ AW := aw_3 61 rfl rfl
theorem wd_3_62 : Cond.methodLink "MovingMarket$Tape" (119 : Nat) ⟨"java/lang/String", "length", "()I"⟩ ∈ AW := aw_3 62 rfl rfl
theorem wd_3_63 : Cond.instanceMethod ⟨"java/lang/String", "length", "()I"⟩ ∈ AW := aw_3 63 rfl rfl
theorem wd_3_64 : Cond.selects "java/lang/String" ⟨"java/lang/String", "length", "()I"⟩ ⟨"java/lang/String", "length", "()I"⟩ ∈ AW := aw_3 64 rfl rfl
theorem wd_3_65 : Cond.code ⟨"java/lang/String", "length", "()I"⟩ prog_9_method_54_code (1 : Nat) (some FieldType.int) ∈ AW := aw_3 65 rfl rfl
theorem wd_3_66 : Cond.methodLink "java/lang/String" (335 : Nat) ⟨"java/lang/String", "coder", "()B"⟩ ∈ AW := aw_3 66 rfl rfl
theorem wd_3_67 : Cond.instanceMethod ⟨"java/lang/String", "coder", "()B"⟩ ∈ AW := aw_3 67 rfl rfl
theorem wd_3_68 : Cond.selects "java/lang/String" ⟨"java/lang/String", "coder", "()B"⟩ ⟨"java/lang/String", "coder", "()B"⟩ ∈ AW := aw_3 68 rfl rfl
theorem wd_3_69 : Cond.code ⟨"java/lang/String", "coder", "()B"⟩ prog_9_method_152_code (1 : Nat) (some FieldType.byte) ∈ AW := aw_3 69 rfl rfl
theorem wd_3_70 : Cond.fieldLink "java/lang/String" (38 : Nat) "java/lang/String" "COMPACT_STRINGS" "Z" ∈ AW := aw_3 70 rfl rfl
theorem wd_3_72 : Cond.methodLink "MovingMarket$Tape" (123 : Nat) ⟨"java/lang/String", "charAt", "(I)C"⟩ ∈ AW := aw_3 72 rfl rfl
theorem wd_3_73 : Cond.instanceMethod ⟨"java/lang/String", "charAt", "(I)C"⟩ ∈ AW := aw_3 73 rfl rfl
theorem wd_3_74 : Cond.selects "java/lang/String" ⟨"java/lang/String", "charAt", "(I)C"⟩ ⟨"java/lang/String", "charAt", "(I)C"⟩ ∈ AW := aw_3 74 rfl rfl
theorem wd_3_75 : Cond.code ⟨"java/lang/String", "charAt", "(I)C"⟩ prog_9_method_56_code (2 : Nat) (some FieldType.char) ∈ AW := aw_3 75 rfl rfl
theorem wd_3_76 : Cond.methodLink "java/lang/String" (492 : Nat) ⟨"java/lang/String", "isLatin1", "()Z"⟩ ∈ AW := aw_3 76 rfl rfl
theorem wd_3_77 : Cond.instanceMethod ⟨"java/lang/String", "isLatin1", "()Z"⟩ ∈ AW := aw_3 77 rfl rfl
theorem wd_3_78 : Cond.selects "java/lang/String" ⟨"java/lang/String", "isLatin1", "()Z"⟩ ⟨"java/lang/String", "isLatin1", "()Z"⟩ ∈ AW := aw_3 78 rfl rfl
theorem wd_3_79 : Cond.code ⟨"java/lang/String", "isLatin1", "()Z"⟩ prog_9_method_154_code (1 : Nat) (some FieldType.boolean) ∈ AW := aw_3 79 rfl rfl
theorem wd_3_80 : Cond.methodLink "java/lang/String" (495 : Nat) ⟨"java/lang/StringLatin1", "charAt", "([BI)C"⟩ ∈ AW := aw_3 80 rfl rfl
theorem wd_3_81 : Cond.static ⟨"java/lang/StringLatin1", "charAt", "([BI)C"⟩ ∈ AW := aw_3 81 rfl rfl
theorem wd_3_82 : Cond.code ⟨"java/lang/StringLatin1", "charAt", "([BI)C"⟩ prog_10_method_2_code (2 : Nat) (some FieldType.char) ∈ AW := aw_3 82 rfl rfl
theorem wd_3_83 : Cond.methodLink "java/lang/StringLatin1" (9 : Nat) ⟨"java/lang/String", "checkIndex", "(II)V"⟩ ∈ AW := aw_3 83 rfl rfl
theorem wd_3_84 : Cond.static ⟨"java/lang/String", "checkIndex", "(II)V"⟩ ∈ AW := aw_3 84 rfl rfl
theorem wd_3_85 : Cond.code ⟨"java/lang/String", "checkIndex", "(II)V"⟩ prog_9_method_155_code (2 : Nat) (none : Option FieldType) ∈ AW := aw_3 85 rfl rfl
theorem wd_3_86 : Cond.fieldLink "java/lang/String" (1053 : Nat) "jdk/internal/util/Preconditions" "SIOOBE_FORMATTER" "Ljava/util/function/BiFunction;" ∈ AW := aw_3 86 rfl rfl
theorem wd_3_88 : Cond.methodLink "java/lang/String" (1059 : Nat) ⟨"jdk/internal/util/Preconditions", "checkIndex", "(IILjava/util/function/BiFunction;)I"⟩ ∈ AW := aw_3 88 rfl rfl
theorem wd_3_89 : Cond.static ⟨"jdk/internal/util/Preconditions", "checkIndex", "(IILjava/util/function/BiFunction;)I"⟩ ∈ AW := aw_3 89 rfl rfl
theorem wd_3_90 : Cond.code ⟨"jdk/internal/util/Preconditions", "checkIndex", "(IILjava/util/function/BiFunction;)I"⟩ prog_14_method_11_code (3 : Nat) (some FieldType.int) ∈ AW := aw_3 90 rfl rfl
theorem wd_3_91 : Cond.methodLink "java/lang/String" (498 : Nat) ⟨"java/lang/StringUTF16", "charAt", "([BI)C"⟩ ∈ AW := aw_3 91 rfl rfl
theorem wd_3_92 : Cond.static ⟨"java/lang/StringUTF16", "charAt", "([BI)C"⟩ ∈ AW := aw_3 92 rfl rfl
theorem wd_3_93 : Cond.code ⟨"java/lang/StringUTF16", "charAt", "([BI)C"⟩ prog_11_method_83_code (2 : Nat) (some FieldType.char) ∈ AW := aw_3 93 rfl rfl
theorem wd_3_94 : Cond.methodLink "java/lang/StringUTF16" (67 : Nat) ⟨"java/lang/StringUTF16", "checkIndex", "(I[B)V"⟩ ∈ AW := aw_3 94 rfl rfl
theorem wd_3_95 : Cond.static ⟨"java/lang/StringUTF16", "checkIndex", "(I[B)V"⟩ ∈ AW := aw_3 95 rfl rfl
theorem wd_3_96 : Cond.code ⟨"java/lang/StringUTF16", "checkIndex", "(I[B)V"⟩ prog_11_method_91_code (2 : Nat) (none : Option FieldType) ∈ AW := aw_3 96 rfl rfl
theorem wd_3_97 : Cond.methodLink "java/lang/StringUTF16" (48 : Nat) ⟨"java/lang/StringUTF16", "length", "([B)I"⟩ ∈ AW := aw_3 97 rfl rfl
theorem wd_3_98 : Cond.static ⟨"java/lang/StringUTF16", "length", "([B)I"⟩ ∈ AW := aw_3 98 rfl rfl
theorem wd_3_99 : Cond.code ⟨"java/lang/StringUTF16", "length", "([B)I"⟩ prog_11_method_6_code (1 : Nat) (some FieldType.int) ∈ AW := aw_3 99 rfl rfl
theorem wd_3_100 : Cond.methodLink "java/lang/StringUTF16" (414 : Nat) ⟨"java/lang/String", "checkIndex", "(II)V"⟩ ∈ AW := aw_3 100 rfl rfl
theorem wd_3_101 : Cond.methodLink "java/lang/StringUTF16" (71 : Nat) ⟨"java/lang/StringUTF16", "getChar", "([BI)C"⟩ ∈ AW := aw_3 101 rfl rfl
theorem wd_3_102 : Cond.static ⟨"java/lang/StringUTF16", "getChar", "([BI)C"⟩ ∈ AW := aw_3 102 rfl rfl
theorem wd_3_103 : Cond.code ⟨"java/lang/StringUTF16", "getChar", "([BI)C"⟩ prog_11_method_5_code (2 : Nat) (some FieldType.char) ∈ AW := aw_3 103 rfl rfl
theorem wd_3_104 : Cond.fieldLink "java/lang/StringUTF16" (44 : Nat) "java/lang/StringUTF16" "$assertionsDisabled" "Z" ∈ AW := aw_3 104 rfl rfl
theorem wd_3_106 : Cond.fieldLink "java/lang/StringUTF16" (59 : Nat) "java/lang/StringUTF16" "HI_BYTE_SHIFT" "I" ∈ AW := aw_3 106 rfl rfl
theorem wd_3_108 : Cond.fieldLink "java/lang/StringUTF16" (63 : Nat) "java/lang/StringUTF16" "LO_BYTE_SHIFT" "I" ∈ AW := aw_3 108 rfl rfl
theorem wd_3_110 : Cond.methodLink "MovingMarket$Tape" (53 : Nat) ⟨"MovingMarket$Tape", "readStall", "(LMovingMarket$Square;I)Z"⟩ ∈ AW := aw_3 110 rfl rfl
theorem wd_3_112 : Cond.instanceMethod ⟨"MovingMarket$Tape", "readStall", "(LMovingMarket$Square;I)Z"⟩ ∈ AW := aw_3 112 rfl rfl
theorem wd_3_113 : Cond.code ⟨"MovingMarket$Tape", "readStall", "(LMovingMarket$Square;I)Z"⟩ prog_5_method_9_code (4 : Nat) (some FieldType.boolean) ∈ AW := aw_3 113 rfl rfl
theorem wd_3_115 : Cond.methodLink "MovingMarket$Tape" (85 : Nat) ⟨"MovingMarket$Tape", "isNumber", "(II)Z"⟩ ∈ AW := aw_3 115 rfl rfl
theorem wd_3_117 : Cond.instanceMethod ⟨"MovingMarket$Tape", "isNumber", "(II)Z"⟩ ∈ AW := aw_3 117 rfl rfl
theorem wd_3_118 : Cond.code ⟨"MovingMarket$Tape", "isNumber", "(II)Z"⟩ prog_5_method_13_code (3 : Nat) (some FieldType.boolean) ∈ AW := aw_3 118 rfl rfl
theorem wd_3_119 : Cond.methodLink "MovingMarket$Tape" (89 : Nat) ⟨"MovingMarket$Square", "stallAt", "(I)I"⟩ ∈ AW := aw_3 119 rfl rfl
theorem wd_3_120 : Cond.methodLink "MovingMarket$Tape" (93 : Nat) ⟨"MovingMarket$Square", "addStall", "(II)I"⟩ ∈ AW := aw_3 120 rfl rfl
theorem wd_3_123 : Cond.methodLink "MovingMarket$Tape" (63 : Nat) ⟨"MovingMarket$Tape", "readVisits", "(LMovingMarket$Square;)Z"⟩ ∈ AW := aw_3 123 rfl rfl
theorem wd_3_125 : Cond.instanceMethod ⟨"MovingMarket$Tape", "readVisits", "(LMovingMarket$Square;)Z"⟩ ∈ AW := aw_3 125 rfl rfl
theorem wd_3_126 : Cond.code ⟨"MovingMarket$Tape", "readVisits", "(LMovingMarket$Square;)Z"⟩ prog_5_method_10_code (5 : Nat) (some FieldType.boolean) ∈ AW := aw_3 126 rfl rfl
theorem wd_3_130 : Cond.methodLink "MovingMarket$Tape" (68 : Nat) ⟨"MovingMarket$Tape", "readShade", "(LMovingMarket$Square;I)Z"⟩ ∈ AW := aw_3 130 rfl rfl
theorem wd_3_132 : Cond.instanceMethod ⟨"MovingMarket$Tape", "readShade", "(LMovingMarket$Square;I)Z"⟩ ∈ AW := aw_3 132 rfl rfl
theorem wd_3_133 : Cond.code ⟨"MovingMarket$Tape", "readShade", "(LMovingMarket$Square;I)Z"⟩ prog_5_method_11_code (3 : Nat) (some FieldType.boolean) ∈ AW := aw_3 133 rfl rfl
theorem wd_3_136 : Cond.methodLink "MovingMarket$Tape" (75 : Nat) ⟨"MovingMarket$Tape", "readSpring", "(LMovingMarket$Square;)Z"⟩ ∈ AW := aw_3 136 rfl rfl
theorem wd_3_138 : Cond.instanceMethod ⟨"MovingMarket$Tape", "readSpring", "(LMovingMarket$Square;)Z"⟩ ∈ AW := aw_3 138 rfl rfl
theorem wd_3_139 : Cond.code ⟨"MovingMarket$Tape", "readSpring", "(LMovingMarket$Square;)Z"⟩ prog_5_method_12_code (2 : Nat) (some FieldType.boolean) ∈ AW := aw_3 139 rfl rfl
theorem wd_3_140 : Cond.arrayClass FieldType.byte ∈ AW := aw_3 140 rfl rfl
theorem wd_3_141 : Cond.methodLink "MovingMarketLaw" (158 : Nat) ⟨"MovingMarket", "hold", "(II)I"⟩ ∈ AW := aw_3 141 rfl rfl
theorem wd_3_142 : Cond.instanceMethod ⟨"MovingMarket", "hold", "(II)I"⟩ ∈ AW := aw_3 142 rfl rfl
theorem wd_3_143 : Cond.selects "MovingMarket" ⟨"MovingMarket", "hold", "(II)I"⟩ ⟨"MovingMarket", "hold", "(II)I"⟩ ∈ AW := aw_3 143 rfl rfl
theorem wd_3_144 : Cond.code ⟨"MovingMarket", "hold", "(II)I"⟩ prog_1_method_37_code (3 : Nat) (some FieldType.int) ∈ AW := aw_3 144 rfl rfl
theorem wd_3_145 : Cond.methodLink "MovingMarket" (215 : Nat) ⟨"MovingMarket", "isSpot", "(I)Z"⟩ ∈ AW := aw_3 145 rfl rfl
theorem wd_3_146 : Cond.static ⟨"MovingMarket", "isSpot", "(I)Z"⟩ ∈ AW := aw_3 146 rfl rfl
theorem wd_3_147 : Cond.code ⟨"MovingMarket", "isSpot", "(I)Z"⟩ prog_1_method_53_code (1 : Nat) (some FieldType.boolean) ∈ AW := aw_3 147 rfl rfl
theorem wd_3_148 : Cond.methodLink "MovingMarketLaw" (162 : Nat) ⟨"MovingMarket", "as", "(II)I"⟩ ∈ AW := aw_3 148 rfl rfl
theorem wd_3_149 : Cond.instanceMethod ⟨"MovingMarket", "as", "(II)I"⟩ ∈ AW := aw_3 149 rfl rfl
theorem wd_3_150 : Cond.selects "MovingMarket" ⟨"MovingMarket", "as", "(II)I"⟩ ⟨"MovingMarket", "as", "(II)I"⟩ ∈ AW := aw_3 150 rfl rfl
theorem wd_3_151 : Cond.code ⟨"MovingMarket", "as", "(II)I"⟩ prog_1_method_38_code (4 : Nat) (some FieldType.int) ∈ AW := aw_3 151 rfl rfl
theorem wd_3_152 : Cond.methodLink "MovingMarket" (221 : Nat) ⟨"MovingMarket$Square", "isOfKind", "(II)Z"⟩ ∈ AW := aw_3 152 rfl rfl
theorem wd_3_153 : Cond.instanceMethod ⟨"MovingMarket$Square", "isOfKind", "(II)Z"⟩ ∈ AW := aw_3 153 rfl rfl
theorem wd_3_154 : Cond.selects "MovingMarket$Square" ⟨"MovingMarket$Square", "isOfKind", "(II)Z"⟩ ⟨"MovingMarket$Square", "isOfKind", "(II)Z"⟩ ∈ AW := aw_3 154 rfl rfl
theorem wd_3_155 : Cond.code ⟨"MovingMarket$Square", "isOfKind", "(II)Z"⟩ prog_4_method_5_code (5 : Nat) (some FieldType.boolean) ∈ AW := aw_3 155 rfl rfl
theorem wd_3_158 : Cond.methodLink "MovingMarketLaw" (166 : Nat) ⟨"MovingMarket", "sheet", "(III)I"⟩ ∈ AW := aw_3 158 rfl rfl
theorem wd_3_159 : Cond.instanceMethod ⟨"MovingMarket", "sheet", "(III)I"⟩ ∈ AW := aw_3 159 rfl rfl
theorem wd_3_160 : Cond.selects "MovingMarket" ⟨"MovingMarket", "sheet", "(III)I"⟩ ⟨"MovingMarket", "sheet", "(III)I"⟩ ∈ AW := aw_3 160 rfl rfl
theorem wd_3_161 : Cond.code ⟨"MovingMarket", "sheet", "(III)I"⟩ prog_1_method_39_code (4 : Nat) (some FieldType.int) ∈ AW := aw_3 161 rfl rfl
theorem wd_3_162 : Cond.methodLink "MovingMarket" (224 : Nat) ⟨"MovingMarket", "isSheet", "(I)Z"⟩ ∈ AW := aw_3 162 rfl rfl
theorem wd_3_163 : Cond.static ⟨"MovingMarket", "isSheet", "(I)Z"⟩ ∈ AW := aw_3 163 rfl rfl
theorem wd_3_164 : Cond.code ⟨"MovingMarket", "isSheet", "(I)Z"⟩ prog_1_method_54_code (1 : Nat) (some FieldType.boolean) ∈ AW := aw_3 164 rfl rfl
theorem wd_3_165 : Cond.methodLink "MovingMarket" (227 : Nat) ⟨"MovingMarket$Sheet", "begin", "(II)V"⟩ ∈ AW := aw_3 165 rfl rfl
theorem wd_3_166 : Cond.instanceMethod ⟨"MovingMarket$Sheet", "begin", "(II)V"⟩ ∈ AW := aw_3 166 rfl rfl
theorem wd_3_167 : Cond.selects "MovingMarket$Sheet" ⟨"MovingMarket$Sheet", "begin", "(II)V"⟩ ⟨"MovingMarket$Sheet", "begin", "(II)V"⟩ ∈ AW := aw_3 167 rfl rfl
theorem wd_3_168 : Cond.code ⟨"MovingMarket$Sheet", "begin", "(II)V"⟩ prog_3_method_2_code (3 : Nat) (none : Option FieldType) ∈ AW := aw_3 168 rfl rfl
theorem wd_3_169 : Cond.methodLink "MovingMarket$Sheet" (22 : Nat) ⟨"java/util/Arrays", "fill", "([II)V"⟩ ∈ AW := aw_3 169 rfl rfl
theorem wd_3_170 : Cond.methodLink "MovingMarketLaw" (170 : Nat) ⟨"MovingMarket", "write", "(III)I"⟩ ∈ AW := aw_3 170 rfl rfl
theorem wd_3_171 : Cond.instanceMethod ⟨"MovingMarket", "write", "(III)I"⟩ ∈ AW := aw_3 171 rfl rfl
theorem wd_3_172 : Cond.selects "MovingMarket" ⟨"MovingMarket", "write", "(III)I"⟩ ⟨"MovingMarket", "write", "(III)I"⟩ ∈ AW := aw_3 172 rfl rfl
theorem wd_3_173 : Cond.code ⟨"MovingMarket", "write", "(III)I"⟩ prog_1_method_40_code (5 : Nat) (some FieldType.int) ∈ AW := aw_3 173 rfl rfl
theorem wd_3_174 : Cond.methodLink "MovingMarket" (230 : Nat) ⟨"MovingMarket", "sheetFinding", "(I)I"⟩ ∈ AW := aw_3 174 rfl rfl
theorem wd_3_176 : Cond.instanceMethod ⟨"MovingMarket", "sheetFinding", "(I)I"⟩ ∈ AW := aw_3 176 rfl rfl
theorem wd_3_177 : Cond.code ⟨"MovingMarket", "sheetFinding", "(I)I"⟩ prog_1_method_59_code (2 : Nat) (some FieldType.int) ∈ AW := aw_3 177 rfl rfl
theorem wd_3_178 : Cond.methodLink "MovingMarket" (233 : Nat) ⟨"MovingMarket$Sheet", "put", "(II)V"⟩ ∈ AW := aw_3 178 rfl rfl
theorem wd_3_179 : Cond.instanceMethod ⟨"MovingMarket$Sheet", "put", "(II)V"⟩ ∈ AW := aw_3 179 rfl rfl
theorem wd_3_180 : Cond.selects "MovingMarket$Sheet" ⟨"MovingMarket$Sheet", "put", "(II)V"⟩ ⟨"MovingMarket$Sheet", "put", "(II)V"⟩ ∈ AW := aw_3 180 rfl rfl
theorem wd_3_181 : Cond.code ⟨"MovingMarket$Sheet", "put", "(II)V"⟩ prog_3_method_3_code (3 : Nat) (none : Option FieldType) ∈ AW := aw_3 181 rfl rfl
theorem wd_3_182 : Cond.methodLink "MovingMarketLaw" (174 : Nat) ⟨"MovingMarket", "copy", "(IIIII)I"⟩ ∈ AW := aw_3 182 rfl rfl
theorem wd_3_183 : Cond.instanceMethod ⟨"MovingMarket", "copy", "(IIIII)I"⟩ ∈ AW := aw_3 183 rfl rfl
theorem wd_3_184 : Cond.selects "MovingMarket" ⟨"MovingMarket", "copy", "(IIIII)I"⟩ ⟨"MovingMarket", "copy", "(IIIII)I"⟩ ∈ AW := aw_3 184 rfl rfl
theorem wd_3_185 : Cond.code ⟨"MovingMarket", "copy", "(IIIII)I"⟩ prog_1_method_41_code (8 : Nat) (some FieldType.int) ∈ AW := aw_3 185 rfl rfl
theorem wd_3_186 : Cond.methodLink "MovingMarket" (238 : Nat) ⟨"MovingMarket$Sheet", "hasPart", "(II)Z"⟩ ∈ AW := aw_3 186 rfl rfl
theorem wd_3_187 : Cond.instanceMethod ⟨"MovingMarket$Sheet", "hasPart", "(II)Z"⟩ ∈ AW := aw_3 187 rfl rfl
theorem wd_3_188 : Cond.selects "MovingMarket$Sheet" ⟨"MovingMarket$Sheet", "hasPart", "(II)Z"⟩ ⟨"MovingMarket$Sheet", "hasPart", "(II)Z"⟩ ∈ AW := aw_3 188 rfl rfl
theorem wd_3_189 : Cond.code ⟨"MovingMarket$Sheet", "hasPart", "(II)Z"⟩ prog_3_method_4_code (3 : Nat) (some FieldType.boolean) ∈ AW := aw_3 189 rfl rfl
theorem wd_3_190 : Cond.methodLink "MovingMarketLaw" (179 : Nat) ⟨"MovingMarket", "load", "(I)I"⟩ ∈ AW := aw_3 190 rfl rfl
theorem wd_3_191 : Cond.instanceMethod ⟨"MovingMarket", "load", "(I)I"⟩ ∈ AW := aw_3 191 rfl rfl
theorem wd_3_192 : Cond.selects "MovingMarket" ⟨"MovingMarket", "load", "(I)I"⟩ ⟨"MovingMarket", "load", "(I)I"⟩ ∈ AW := aw_3 192 rfl rfl
theorem wd_3_193 : Cond.code ⟨"MovingMarket", "load", "(I)I"⟩ prog_1_method_42_code (5 : Nat) (some FieldType.int) ∈ AW := aw_3 193 rfl rfl
theorem wd_3_194 : Cond.methodLink "MovingMarket" (244 : Nat) ⟨"java/lang/Math", "min", "(II)I"⟩ ∈ AW := aw_3 194 rfl rfl
theorem wd_3_195 : Cond.methodLink "MovingMarketLaw" (183 : Nat) ⟨"MovingMarket", "fit", "(I)I"⟩ ∈ AW := aw_3 195 rfl rfl
theorem wd_3_196 : Cond.instanceMethod ⟨"MovingMarket", "fit", "(I)I"⟩ ∈ AW := aw_3 196 rfl rfl
theorem wd_3_197 : Cond.selects "MovingMarket" ⟨"MovingMarket", "fit", "(I)I"⟩ ⟨"MovingMarket", "fit", "(I)I"⟩ ∈ AW := aw_3 197 rfl rfl
theorem wd_3_198 : Cond.code ⟨"MovingMarket", "fit", "(I)I"⟩ prog_1_method_43_code (7 : Nat) (some FieldType.int) ∈ AW := aw_3 198 rfl rfl
theorem wd_3_199 : Cond.methodLink "MovingMarket" (249 : Nat) ⟨"MovingMarket", "lastWordHour", "(LMovingMarket$Sheet;)I"⟩ ∈ AW := aw_3 199 rfl rfl
theorem wd_3_201 : Cond.instanceMethod ⟨"MovingMarket", "lastWordHour", "(LMovingMarket$Sheet;)I"⟩ ∈ AW := aw_3 201 rfl rfl
theorem wd_3_202 : Cond.code ⟨"MovingMarket", "lastWordHour", "(LMovingMarket$Sheet;)I"⟩ prog_1_method_65_code (5 : Nat) (some FieldType.int) ∈ AW := aw_3 202 rfl rfl
theorem wd_3_203 : Cond.methodLink "MovingMarket" (283 : Nat) ⟨"java/lang/Math", "max", "(II)I"⟩ ∈ AW := aw_3 203 rfl rfl
theorem wd_3_204 : Cond.static ⟨"java/lang/Math", "max", "(II)I"⟩ ∈ AW := aw_3 204 rfl rfl
theorem wd_3_205 : Cond.code ⟨"java/lang/Math", "max", "(II)I"⟩ prog_8_method_65_code (2 : Nat) (some FieldType.int) ∈ AW := aw_3 205 rfl rfl
theorem wd_3_206 : Cond.methodLink "MovingMarket" (253 : Nat) ⟨"MovingMarket", "wordsAreSo", "(LMovingMarket$Sheet;I)Z"⟩ ∈ AW := aw_3 206 rfl rfl
theorem wd_3_208 : Cond.instanceMethod ⟨"MovingMarket", "wordsAreSo", "(LMovingMarket$Sheet;I)Z"⟩ ∈ AW := aw_3 208 rfl rfl
theorem wd_3_209 : Cond.code ⟨"MovingMarket", "wordsAreSo", "(LMovingMarket$Sheet;I)Z"⟩ prog_1_method_66_code (6 : Nat) (some FieldType.boolean) ∈ AW := aw_3 209 rfl rfl
theorem wd_3_210 : Cond.methodLink "MovingMarketLaw" (187 : Nat) ⟨"MovingMarket", "judge", "(II)I"⟩ ∈ AW := aw_3 210 rfl rfl
theorem wd_3_211 : Cond.instanceMethod ⟨"MovingMarket", "judge", "(II)I"⟩ ∈ AW := aw_3 211 rfl rfl
theorem wd_3_212 : Cond.selects "MovingMarket" ⟨"MovingMarket", "judge", "(II)I"⟩ ⟨"MovingMarket", "judge", "(II)I"⟩ ∈ AW := aw_3 212 rfl rfl
theorem wd_3_213 : Cond.code ⟨"MovingMarket", "judge", "(II)I"⟩ prog_1_method_44_code (6 : Nat) (some FieldType.int) ∈ AW := aw_3 213 rfl rfl
theorem wd_3_214 : Cond.methodLink "MovingMarketLaw" (191 : Nat) ⟨"MovingMarket", "image", "()I"⟩ ∈ AW := aw_3 214 rfl rfl
theorem wd_3_215 : Cond.instanceMethod ⟨"MovingMarket", "image", "()I"⟩ ∈ AW := aw_3 215 rfl rfl
theorem wd_3_216 : Cond.selects "MovingMarket" ⟨"MovingMarket", "image", "()I"⟩ ⟨"MovingMarket", "image", "()I"⟩ ∈ AW := aw_3 216 rfl rfl
theorem wd_3_217 : Cond.code ⟨"MovingMarket", "image", "()I"⟩ prog_1_method_45_code (1 : Nat) (some FieldType.int) ∈ AW := aw_3 217 rfl rfl
theorem wd_3_218 : Cond.methodLink "MovingMarketLaw" (195 : Nat) ⟨"MovingMarket", "undo", "()I"⟩ ∈ AW := aw_3 218 rfl rfl
theorem wd_3_219 : Cond.instanceMethod ⟨"MovingMarket", "undo", "()I"⟩ ∈ AW := aw_3 219 rfl rfl
theorem wd_3_220 : Cond.selects "MovingMarket" ⟨"MovingMarket", "undo", "()I"⟩ ⟨"MovingMarket", "undo", "()I"⟩ ∈ AW := aw_3 220 rfl rfl
theorem wd_3_221 : Cond.code ⟨"MovingMarket", "undo", "()I"⟩ prog_1_method_46_code (1 : Nat) (some FieldType.int) ∈ AW := aw_3 221 rfl rfl
theorem wd_3_222 : Cond.methodLink "MovingMarketLaw" (199 : Nat) ⟨"MovingMarket", "tear", "()I"⟩ ∈ AW := aw_3 222 rfl rfl
theorem wd_3_223 : Cond.instanceMethod ⟨"MovingMarket", "tear", "()I"⟩ ∈ AW := aw_3 223 rfl rfl
theorem wd_3_224 : Cond.selects "MovingMarket" ⟨"MovingMarket", "tear", "()I"⟩ ⟨"MovingMarket", "tear", "()I"⟩ ∈ AW := aw_3 224 rfl rfl
theorem wd_3_225 : Cond.code ⟨"MovingMarket", "tear", "()I"⟩ prog_1_method_47_code (2 : Nat) (some FieldType.int) ∈ AW := aw_3 225 rfl rfl
theorem wd_3_226 : Cond.methodLink "MovingMarketLaw" (203 : Nat) ⟨"MovingMarket", "count", "(I)I"⟩ ∈ AW := aw_3 226 rfl rfl
theorem wd_3_227 : Cond.instanceMethod ⟨"MovingMarket", "count", "(I)I"⟩ ∈ AW := aw_3 227 rfl rfl
theorem wd_3_228 : Cond.selects "MovingMarket" ⟨"MovingMarket", "count", "(I)I"⟩ ⟨"MovingMarket", "count", "(I)I"⟩ ∈ AW := aw_3 228 rfl rfl
theorem wd_3_229 : Cond.code ⟨"MovingMarket", "count", "(I)I"⟩ prog_1_method_48_code (2 : Nat) (some FieldType.int) ∈ AW := aw_3 229 rfl rfl
theorem wd_3_230 : Cond.methodLink "MovingMarket" (264 : Nat) ⟨"MovingMarket$Square", "allGoods", "()I"⟩ ∈ AW := aw_3 230 rfl rfl
theorem wd_3_231 : Cond.instanceMethod ⟨"MovingMarket$Square", "allGoods", "()I"⟩ ∈ AW := aw_3 231 rfl rfl
theorem wd_3_232 : Cond.selects "MovingMarket$Square" ⟨"MovingMarket$Square", "allGoods", "()I"⟩ ⟨"MovingMarket$Square", "allGoods", "()I"⟩ ∈ AW := aw_3 232 rfl rfl
theorem wd_3_233 : Cond.code ⟨"MovingMarket$Square", "allGoods", "()I"⟩ prog_4_method_25_code (3 : Nat) (some FieldType.int) ∈ AW := aw_3 233 rfl rfl
theorem wd_3_234 : Cond.methodLink "MovingMarket" (267 : Nat) ⟨"MovingMarket$Square", "allVisits", "()I"⟩ ∈ AW := aw_3 234 rfl rfl
theorem wd_3_235 : Cond.instanceMethod ⟨"MovingMarket$Square", "allVisits", "()I"⟩ ∈ AW := aw_3 235 rfl rfl
theorem wd_3_236 : Cond.selects "MovingMarket$Square" ⟨"MovingMarket$Square", "allVisits", "()I"⟩ ⟨"MovingMarket$Square", "allVisits", "()I"⟩ ∈ AW := aw_3 236 rfl rfl
theorem wd_3_237 : Cond.code ⟨"MovingMarket$Square", "allVisits", "()I"⟩ prog_4_method_26_code (3 : Nat) (some FieldType.int) ∈ AW := aw_3 237 rfl rfl
theorem wd_3_238 : Cond.methodLink "MovingMarket" (270 : Nat) ⟨"MovingMarket$Square", "spotsInUse", "()I"⟩ ∈ AW := aw_3 238 rfl rfl
theorem wd_3_239 : Cond.instanceMethod ⟨"MovingMarket$Square", "spotsInUse", "()I"⟩ ∈ AW := aw_3 239 rfl rfl
theorem wd_4_0 : Cond.selects "MovingMarket$Square" ⟨"MovingMarket$Square", "spotsInUse", "()I"⟩ ⟨"MovingMarket$Square", "spotsInUse", "()I"⟩ ∈ AW := aw_4 0 rfl rfl
theorem wd_4_1 : Cond.code ⟨"MovingMarket$Square", "spotsInUse", "()I"⟩ prog_4_method_27_code (3 : Nat) (some FieldType.int) ∈ AW := aw_4 1 rfl rfl
theorem wd_4_2 : Cond.methodLink "MovingMarketLaw" (207 : Nat) ⟨"MovingMarket", "status", "(I)I"⟩ ∈ AW := aw_4 2 rfl rfl
theorem wd_4_3 : Cond.instanceMethod ⟨"MovingMarket", "status", "(I)I"⟩ ∈ AW := aw_4 3 rfl rfl
theorem wd_4_4 : Cond.selects "MovingMarket" ⟨"MovingMarket", "status", "(I)I"⟩ ⟨"MovingMarket", "status", "(I)I"⟩ ∈ AW := aw_4 4 rfl rfl
theorem wd_4_5 : Cond.code ⟨"MovingMarket", "status", "(I)I"⟩ prog_1_method_49_code (4 : Nat) (some FieldType.int) ∈ AW := aw_4 5 rfl rfl
theorem wd_4_6 : Cond.classLink "MovingMarketLaw" (10 : Nat) "MovingMarketModel" ∈ AW := aw_4 6 rfl rfl
theorem wd_4_7 : Cond.instantiable "MovingMarketModel" (17 : Nat) ∈ AW := aw_4 7 rfl rfl
theorem wd_4_8 : Cond.methodLink "MovingMarketLaw" (12 : Nat) ⟨"MovingMarketModel", "<init>", "()V"⟩ ∈ AW := aw_4 8 rfl rfl
theorem wd_4_9 : Cond.instanceMethod ⟨"MovingMarketModel", "<init>", "()V"⟩ ∈ AW := aw_4 9 rfl rfl
theorem wd_4_10 : Cond.code ⟨"MovingMarketModel", "<init>", "()V"⟩ prog_7_method_1_code (2 : Nat) (none : Option FieldType) ∈ AW := aw_4 10 rfl rfl
theorem wd_4_11 : Cond.methodLink "MovingMarketModel" (1 : Nat) ⟨"java/lang/Object", "<init>", "()V"⟩ ∈ AW := aw_4 11 rfl rfl
theorem wd_4_12 : Cond.fieldLink "MovingMarketModel" (7 : Nat) "MovingMarketModel" "s" "[I" ∈ AW := aw_4 12 rfl rfl
theorem wd_4_13 : Cond.fieldLink "MovingMarketModel" (13 : Nat) "MovingMarketModel" "keptS" "[I" ∈ AW := aw_4 13 rfl rfl
theorem wd_4_14 : Cond.fieldLink "MovingMarketModel" (16 : Nat) "MovingMarketModel" "other" "[I" ∈ AW := aw_4 14 rfl rfl
theorem wd_4_15 : Cond.fieldLink "MovingMarketModel" (19 : Nat) "MovingMarketModel" "statuses" "[I" ∈ AW := aw_4 15 rfl rfl
theorem wd_4_16 : Cond.fieldLink "MovingMarketModel" (310 : Nat) "MovingMarketModel" "isKept" "Z" ∈ AW := aw_4 16 rfl rfl
theorem wd_4_17 : Cond.fieldLink "MovingMarketModel" (22 : Nat) "MovingMarketModel" "takes" "[I" ∈ AW := aw_4 17 rfl rfl
theorem wd_4_18 : Cond.fieldLink "MovingMarketModel" (153 : Nat) "MovingMarketModel" "bestTake" "I" ∈ AW := aw_4 18 rfl rfl
theorem wd_4_19 : Cond.fieldLink "MovingMarketModel" (25 : Nat) "MovingMarketModel" "tape" "[I" ∈ AW := aw_4 19 rfl rfl
theorem wd_4_20 : Cond.fieldLink "MovingMarketModel" (194 : Nat) "MovingMarketModel" "taped" "I" ∈ AW := aw_4 20 rfl rfl
theorem wd_4_21 : Cond.fieldLink "MovingMarketModel" (206 : Nat) "MovingMarketModel" "from" "I" ∈ AW := aw_4 21 rfl rfl
theorem wd_4_22 : Cond.fieldLink "MovingMarketModel" (203 : Nat) "MovingMarketModel" "to" "I" ∈ AW := aw_4 22 rfl rfl
theorem wd_4_23 : Cond.fieldLink "MovingMarketModel" (229 : Nat) "MovingMarketModel" "value" "I" ∈ AW := aw_4 23 rfl rfl
theorem wd_4_24 : Cond.fieldLink "MovingMarketModel" (218 : Nat) "MovingMarketModel" "isWrong" "Z" ∈ AW := aw_4 24 rfl rfl
theorem wd_4_25 : Cond.fieldLink "MovingMarketModel" (28 : Nat) "MovingMarketModel" "bitsOf" "[I" ∈ AW := aw_4 25 rfl rfl
theorem wd_4_26 : Cond.fieldLink "MovingMarketModel" (31 : Nat) "MovingMarketModel" "sizeOf" "[I" ∈ AW := aw_4 26 rfl rfl
theorem wd_4_27 : Cond.fieldLink "MovingMarketModel" (34 : Nat) "MovingMarketModel" "number" "[I" ∈ AW := aw_4 27 rfl rfl
theorem wd_4_28 : Cond.fieldLink "MovingMarketModel" (37 : Nat) "MovingMarketModel" "moved" "[I" ∈ AW := aw_4 28 rfl rfl
theorem wd_4_29 : Cond.laysFinal "MovingMarketModel" "MovingMarketModel" "s" "[I" ∈ AW := aw_4 29 rfl rfl
theorem wd_4_31 : Cond.laysFinal "MovingMarketModel" "MovingMarketModel" "keptS" "[I" ∈ AW := aw_4 31 rfl rfl
theorem wd_4_33 : Cond.laysFinal "MovingMarketModel" "MovingMarketModel" "other" "[I" ∈ AW := aw_4 33 rfl rfl
theorem wd_4_35 : Cond.laysFinal "MovingMarketModel" "MovingMarketModel" "statuses" "[I" ∈ AW := aw_4 35 rfl rfl
theorem wd_4_37 : Cond.lays "MovingMarketModel" "MovingMarketModel" "isKept" "Z" ∈ AW := aw_4 37 rfl rfl
theorem wd_4_39 : Cond.laysFinal "MovingMarketModel" "MovingMarketModel" "takes" "[I" ∈ AW := aw_4 39 rfl rfl
theorem wd_4_41 : Cond.lays "MovingMarketModel" "MovingMarketModel" "bestTake" "I" ∈ AW := aw_4 41 rfl rfl
theorem wd_4_43 : Cond.laysFinal "MovingMarketModel" "MovingMarketModel" "tape" "[I" ∈ AW := aw_4 43 rfl rfl
theorem wd_4_45 : Cond.lays "MovingMarketModel" "MovingMarketModel" "taped" "I" ∈ AW := aw_4 45 rfl rfl
theorem wd_4_47 : Cond.lays "MovingMarketModel" "MovingMarketModel" "from" "I" ∈ AW := aw_4 47 rfl rfl
theorem wd_4_49 : Cond.lays "MovingMarketModel" "MovingMarketModel" "to" "I" ∈ AW := aw_4 49 rfl rfl
theorem wd_4_51 : Cond.lays "MovingMarketModel" "MovingMarketModel" "value" "I" ∈ AW := aw_4 51 rfl rfl
theorem wd_4_53 : Cond.lays "MovingMarketModel" "MovingMarketModel" "isWrong" "Z" ∈ AW := aw_4 53 rfl rfl
theorem wd_4_55 : Cond.laysFinal "MovingMarketModel" "MovingMarketModel" "bitsOf" "[I" ∈ AW := aw_4 55 rfl rfl
theorem wd_4_57 : Cond.laysFinal "MovingMarketModel" "MovingMarketModel" "sizeOf" "[I" ∈ AW := aw_4 57 rfl rfl
theorem wd_4_59 : Cond.laysFinal "MovingMarketModel" "MovingMarketModel" "number" "[I" ∈ AW := aw_4 59 rfl rfl
theorem wd_4_61 : Cond.laysFinal "MovingMarketModel" "MovingMarketModel" "moved" "[I" ∈ AW := aw_4 61 rfl rfl
theorem wd_4_64 : Cond.methodLink "MovingMarketLaw" (17 : Nat) ⟨"MovingMarketModel", "visits", "(II)I"⟩ ∈ AW := aw_4 64 rfl rfl
theorem wd_4_65 : Cond.instanceMethod ⟨"MovingMarketModel", "visits", "(II)I"⟩ ∈ AW := aw_4 65 rfl rfl
theorem wd_4_66 : Cond.selects "MovingMarketModel" ⟨"MovingMarketModel", "visits", "(II)I"⟩ ⟨"MovingMarketModel", "visits", "(II)I"⟩ ∈ AW := aw_4 66 rfl rfl
theorem wd_4_67 : Cond.code ⟨"MovingMarketModel", "visits", "(II)I"⟩ prog_7_method_12_code (4 : Nat) (some FieldType.int) ∈ AW := aw_4 67 rfl rfl
theorem wd_4_68 : Cond.methodLink "MovingMarketModel" (52 : Nat) ⟨"MovingMarketModel", "isPlace", "(I)Z"⟩ ∈ AW := aw_4 68 rfl rfl
theorem wd_4_69 : Cond.static ⟨"MovingMarketModel", "isPlace", "(I)Z"⟩ ∈ AW := aw_4 69 rfl rfl
theorem wd_4_70 : Cond.code ⟨"MovingMarketModel", "isPlace", "(I)Z"⟩ prog_7_method_4_code (1 : Nat) (some FieldType.boolean) ∈ AW := aw_4 70 rfl rfl
theorem wd_4_71 : Cond.constantLong "MovingMarketModel" (41 : Nat) (11 : Int64) ∈ AW := aw_4 71 rfl rfl
theorem wd_4_72 : Cond.methodLink "MovingMarketModel" (43 : Nat) ⟨"MovingMarketModel", "in", "(JJJ)Z"⟩ ∈ AW := aw_4 72 rfl rfl
theorem wd_4_73 : Cond.static ⟨"MovingMarketModel", "in", "(JJJ)Z"⟩ ∈ AW := aw_4 73 rfl rfl
theorem wd_4_74 : Cond.code ⟨"MovingMarketModel", "in", "(JJJ)Z"⟩ prog_7_method_2_code (6 : Nat) (some FieldType.boolean) ∈ AW := aw_4 74 rfl rfl
theorem wd_4_75 : Cond.constantLong "MovingMarketModel" (56 : Nat) (20 : Int64) ∈ AW := aw_4 75 rfl rfl
theorem wd_4_76 : Cond.constant "MovingMarketModel" (40 : Nat) (-1000001 : Int32) ∈ AW := aw_4 76 rfl rfl
theorem wd_4_77 : Cond.methodLink "MovingMarketModel" (58 : Nat) ⟨"MovingMarketModel", "finds", "(I)I"⟩ ∈ AW := aw_4 77 rfl rfl
theorem wd_4_79 : Cond.instanceMethod ⟨"MovingMarketModel", "finds", "(I)I"⟩ ∈ AW := aw_4 79 rfl rfl
theorem wd_4_80 : Cond.code ⟨"MovingMarketModel", "finds", "(I)I"⟩ prog_7_method_3_code (2 : Nat) (some FieldType.int) ∈ AW := aw_4 80 rfl rfl
theorem wd_4_81 : Cond.methodLink "MovingMarketLaw" (22 : Nat) ⟨"MovingMarketModel", "shade", "(IZ)I"⟩ ∈ AW := aw_4 81 rfl rfl
theorem wd_4_82 : Cond.instanceMethod ⟨"MovingMarketModel", "shade", "(IZ)I"⟩ ∈ AW := aw_4 82 rfl rfl
theorem wd_4_83 : Cond.selects "MovingMarketModel" ⟨"MovingMarketModel", "shade", "(IZ)I"⟩ ⟨"MovingMarketModel", "shade", "(IZ)I"⟩ ∈ AW := aw_4 83 rfl rfl
theorem wd_4_84 : Cond.code ⟨"MovingMarketModel", "shade", "(IZ)I"⟩ prog_7_method_13_code (4 : Nat) (some FieldType.int) ∈ AW := aw_4 84 rfl rfl
theorem wd_4_85 : Cond.methodLink "MovingMarketLaw" (27 : Nat) ⟨"MovingMarketModel", "spring", "(I)I"⟩ ∈ AW := aw_4 85 rfl rfl
theorem wd_4_86 : Cond.instanceMethod ⟨"MovingMarketModel", "spring", "(I)I"⟩ ∈ AW := aw_4 86 rfl rfl
theorem wd_4_87 : Cond.selects "MovingMarketModel" ⟨"MovingMarketModel", "spring", "(I)I"⟩ ⟨"MovingMarketModel", "spring", "(I)I"⟩ ∈ AW := aw_4 87 rfl rfl
theorem wd_4_88 : Cond.code ⟨"MovingMarketModel", "spring", "(I)I"⟩ prog_7_method_14_code (3 : Nat) (some FieldType.int) ∈ AW := aw_4 88 rfl rfl
theorem wd_4_89 : Cond.methodLink "MovingMarketLaw" (31 : Nat) ⟨"MovingMarketModel", "stall", "(II)I"⟩ ∈ AW := aw_4 89 rfl rfl
theorem wd_4_90 : Cond.instanceMethod ⟨"MovingMarketModel", "stall", "(II)I"⟩ ∈ AW := aw_4 90 rfl rfl
theorem wd_4_91 : Cond.selects "MovingMarketModel" ⟨"MovingMarketModel", "stall", "(II)I"⟩ ⟨"MovingMarketModel", "stall", "(II)I"⟩ ∈ AW := aw_4 91 rfl rfl
theorem wd_4_92 : Cond.code ⟨"MovingMarketModel", "stall", "(II)I"⟩ prog_7_method_17_code (3 : Nat) (some FieldType.int) ∈ AW := aw_4 92 rfl rfl
theorem wd_4_93 : Cond.constantLong "MovingMarketModel" (65 : Nat) (6 : Int64) ∈ AW := aw_4 93 rfl rfl
theorem wd_4_94 : Cond.methodLink "MovingMarketModel" (67 : Nat) ⟨"MovingMarketModel", "stallAt", "(I)I"⟩ ∈ AW := aw_4 94 rfl rfl
theorem wd_4_96 : Cond.instanceMethod ⟨"MovingMarketModel", "stallAt", "(I)I"⟩ ∈ AW := aw_4 96 rfl rfl
theorem wd_4_97 : Cond.code ⟨"MovingMarketModel", "stallAt", "(I)I"⟩ prog_7_method_15_code (4 : Nat) (some FieldType.int) ∈ AW := aw_4 97 rfl rfl
theorem wd_4_98 : Cond.methodLink "MovingMarketModel" (62 : Nat) ⟨"MovingMarketModel", "its", "(II)I"⟩ ∈ AW := aw_4 98 rfl rfl
theorem wd_4_100 : Cond.instanceMethod ⟨"MovingMarketModel", "its", "(II)I"⟩ ∈ AW := aw_4 100 rfl rfl
theorem wd_4_101 : Cond.code ⟨"MovingMarketModel", "its", "(II)I"⟩ prog_7_method_11_code (3 : Nat) (some FieldType.int) ∈ AW := aw_4 101 rfl rfl
theorem wd_4_102 : Cond.methodLink "MovingMarketModel" (48 : Nat) ⟨"MovingMarketModel", "at", "(II)I"⟩ ∈ AW := aw_4 102 rfl rfl
theorem wd_4_103 : Cond.static ⟨"MovingMarketModel", "at", "(II)I"⟩ ∈ AW := aw_4 103 rfl rfl
theorem wd_4_104 : Cond.code ⟨"MovingMarketModel", "at", "(II)I"⟩ prog_7_method_10_code (2 : Nat) (some FieldType.int) ∈ AW := aw_4 104 rfl rfl
theorem wd_4_105 : Cond.constant "MovingMarketModel" (70 : Nat) (-1000005 : Int32) ∈ AW := aw_4 105 rfl rfl
theorem wd_4_106 : Cond.constant "MovingMarketModel" (71 : Nat) (-1000002 : Int32) ∈ AW := aw_4 106 rfl rfl
theorem wd_4_107 : Cond.methodLink "MovingMarketModel" (72 : Nat) ⟨"MovingMarketModel", "newStall", "(III)I"⟩ ∈ AW := aw_4 107 rfl rfl
theorem wd_4_109 : Cond.instanceMethod ⟨"MovingMarketModel", "newStall", "(III)I"⟩ ∈ AW := aw_4 109 rfl rfl
theorem wd_4_110 : Cond.code ⟨"MovingMarketModel", "newStall", "(III)I"⟩ prog_7_method_16_code (5 : Nat) (some FieldType.int) ∈ AW := aw_4 110 rfl rfl
theorem wd_4_111 : Cond.methodLink "MovingMarketLaw" (35 : Nat) ⟨"MovingMarketModel", "of", "(II)I"⟩ ∈ AW := aw_4 111 rfl rfl
theorem wd_4_112 : Cond.instanceMethod ⟨"MovingMarketModel", "of", "(II)I"⟩ ∈ AW := aw_4 112 rfl rfl
theorem wd_4_113 : Cond.selects "MovingMarketModel" ⟨"MovingMarketModel", "of", "(II)I"⟩ ⟨"MovingMarketModel", "of", "(II)I"⟩ ∈ AW := aw_4 113 rfl rfl
theorem wd_4_114 : Cond.code ⟨"MovingMarketModel", "of", "(II)I"⟩ prog_7_method_20_code (3 : Nat) (some FieldType.int) ∈ AW := aw_4 114 rfl rfl
theorem wd_4_115 : Cond.methodLink "MovingMarketModel" (76 : Nat) ⟨"MovingMarketModel", "isStall", "(I)Z"⟩ ∈ AW := aw_4 115 rfl rfl
theorem wd_4_117 : Cond.instanceMethod ⟨"MovingMarketModel", "isStall", "(I)Z"⟩ ∈ AW := aw_4 117 rfl rfl
theorem wd_4_118 : Cond.code ⟨"MovingMarketModel", "isStall", "(I)Z"⟩ prog_7_method_5_code (2 : Nat) (some FieldType.boolean) ∈ AW := aw_4 118 rfl rfl
theorem wd_4_119 : Cond.methodLink "MovingMarketModel" (79 : Nat) ⟨"MovingMarketModel", "price", "(I)I"⟩ ∈ AW := aw_4 119 rfl rfl
theorem wd_4_121 : Cond.instanceMethod ⟨"MovingMarketModel", "price", "(I)I"⟩ ∈ AW := aw_4 121 rfl rfl
theorem wd_4_122 : Cond.code ⟨"MovingMarketModel", "price", "(I)I"⟩ prog_7_method_18_code (3 : Nat) (some FieldType.int) ∈ AW := aw_4 122 rfl rfl
theorem wd_4_123 : Cond.methodLink "MovingMarketModel" (82 : Nat) ⟨"MovingMarketModel", "isGoing", "(I)Z"⟩ ∈ AW := aw_4 123 rfl rfl
theorem wd_4_125 : Cond.instanceMethod ⟨"MovingMarketModel", "isGoing", "(I)Z"⟩ ∈ AW := aw_4 125 rfl rfl
theorem wd_4_126 : Cond.code ⟨"MovingMarketModel", "isGoing", "(I)Z"⟩ prog_7_method_19_code (4 : Nat) (some FieldType.boolean) ∈ AW := aw_4 126 rfl rfl
theorem wd_4_127 : Cond.methodLink "MovingMarketLaw" (40 : Nat) ⟨"MovingMarketModel", "change", "(III)I"⟩ ∈ AW := aw_4 127 rfl rfl
theorem wd_4_128 : Cond.instanceMethod ⟨"MovingMarketModel", "change", "(III)I"⟩ ∈ AW := aw_4 128 rfl rfl
theorem wd_4_129 : Cond.selects "MovingMarketModel" ⟨"MovingMarketModel", "change", "(III)I"⟩ ⟨"MovingMarketModel", "change", "(III)I"⟩ ∈ AW := aw_4 129 rfl rfl
theorem wd_4_130 : Cond.code ⟨"MovingMarketModel", "change", "(III)I"⟩ prog_7_method_21_code (5 : Nat) (some FieldType.int) ∈ AW := aw_4 130 rfl rfl
theorem wd_4_131 : Cond.constantLong "MovingMarketModel" (85 : Nat) (99 : Int64) ∈ AW := aw_4 131 rfl rfl
theorem wd_4_132 : Cond.methodLink "MovingMarketLaw" (44 : Nat) ⟨"MovingMarketModel", "swap", "(II)I"⟩ ∈ AW := aw_4 132 rfl rfl
theorem wd_4_133 : Cond.instanceMethod ⟨"MovingMarketModel", "swap", "(II)I"⟩ ∈ AW := aw_4 133 rfl rfl
theorem wd_4_134 : Cond.selects "MovingMarketModel" ⟨"MovingMarketModel", "swap", "(II)I"⟩ ⟨"MovingMarketModel", "swap", "(II)I"⟩ ∈ AW := aw_4 134 rfl rfl
theorem wd_4_135 : Cond.code ⟨"MovingMarketModel", "swap", "(II)I"⟩ prog_7_method_23_code (3 : Nat) (some FieldType.int) ∈ AW := aw_4 135 rfl rfl
theorem wd_4_136 : Cond.methodLink "MovingMarketModel" (87 : Nat) ⟨"MovingMarketModel", "swaps", "(II)V"⟩ ∈ AW := aw_4 136 rfl rfl
theorem wd_4_138 : Cond.instanceMethod ⟨"MovingMarketModel", "swaps", "(II)V"⟩ ∈ AW := aw_4 138 rfl rfl
theorem wd_4_139 : Cond.code ⟨"MovingMarketModel", "swaps", "(II)V"⟩ prog_7_method_22_code (4 : Nat) (none : Option FieldType) ∈ AW := aw_4 139 rfl rfl
theorem wd_4_140 : Cond.methodLink "MovingMarketLaw" (48 : Nat) ⟨"MovingMarketModel", "offers", "(II)I"⟩ ∈ AW := aw_4 140 rfl rfl
theorem wd_4_141 : Cond.instanceMethod ⟨"MovingMarketModel", "offers", "(II)I"⟩ ∈ AW := aw_4 141 rfl rfl
theorem wd_4_142 : Cond.selects "MovingMarketModel" ⟨"MovingMarketModel", "offers", "(II)I"⟩ ⟨"MovingMarketModel", "offers", "(II)I"⟩ ∈ AW := aw_4 142 rfl rfl
theorem wd_4_143 : Cond.code ⟨"MovingMarketModel", "offers", "(II)I"⟩ prog_7_method_25_code (3 : Nat) (some FieldType.int) ∈ AW := aw_4 143 rfl rfl
theorem wd_4_144 : Cond.methodLink "MovingMarketModel" (91 : Nat) ⟨"MovingMarketModel", "offer", "(II)I"⟩ ∈ AW := aw_4 144 rfl rfl
theorem wd_4_146 : Cond.instanceMethod ⟨"MovingMarketModel", "offer", "(II)I"⟩ ∈ AW := aw_4 146 rfl rfl
theorem wd_4_147 : Cond.code ⟨"MovingMarketModel", "offer", "(II)I"⟩ prog_7_method_24_code (5 : Nat) (some FieldType.int) ∈ AW := aw_4 147 rfl rfl
theorem wd_4_148 : Cond.methodLink "MovingMarketLaw" (52 : Nat) ⟨"MovingMarketModel", "placeOf", "(II)I"⟩ ∈ AW := aw_4 148 rfl rfl
theorem wd_4_149 : Cond.instanceMethod ⟨"MovingMarketModel", "placeOf", "(II)I"⟩ ∈ AW := aw_4 149 rfl rfl
theorem wd_4_150 : Cond.selects "MovingMarketModel" ⟨"MovingMarketModel", "placeOf", "(II)I"⟩ ⟨"MovingMarketModel", "placeOf", "(II)I"⟩ ∈ AW := aw_4 150 rfl rfl
theorem wd_4_151 : Cond.code ⟨"MovingMarketModel", "placeOf", "(II)I"⟩ prog_7_method_26_code (3 : Nat) (some FieldType.int) ∈ AW := aw_4 151 rfl rfl
theorem wd_4_152 : Cond.constantLong "MovingMarketModel" (94 : Nat) (2 : Int64) ∈ AW := aw_4 152 rfl rfl
theorem wd_4_153 : Cond.methodLink "MovingMarketLaw" (56 : Nat) ⟨"MovingMarketModel", "hours", "(I)I"⟩ ∈ AW := aw_4 153 rfl rfl
theorem wd_4_154 : Cond.instanceMethod ⟨"MovingMarketModel", "hours", "(I)I"⟩ ∈ AW := aw_4 154 rfl rfl
theorem wd_4_155 : Cond.selects "MovingMarketModel" ⟨"MovingMarketModel", "hours", "(I)I"⟩ ⟨"MovingMarketModel", "hours", "(I)I"⟩ ∈ AW := aw_4 155 rfl rfl
theorem wd_4_156 : Cond.code ⟨"MovingMarketModel", "hours", "(I)I"⟩ prog_7_method_34_code (2 : Nat) (some FieldType.int) ∈ AW := aw_4 156 rfl rfl
theorem wd_4_157 : Cond.constantLong "MovingMarketModel" (117 : Nat) (48 : Int64) ∈ AW := aw_4 157 rfl rfl
theorem wd_4_158 : Cond.methodLink "MovingMarketModel" (119 : Nat) ⟨"MovingMarketModel", "isTooLate", "(I)Z"⟩ ∈ AW := aw_4 158 rfl rfl
theorem wd_4_160 : Cond.instanceMethod ⟨"MovingMarketModel", "isTooLate", "(I)Z"⟩ ∈ AW := aw_4 160 rfl rfl
theorem wd_4_161 : Cond.code ⟨"MovingMarketModel", "isTooLate", "(I)Z"⟩ prog_7_method_33_code (2 : Nat) (some FieldType.boolean) ∈ AW := aw_4 161 rfl rfl
theorem wd_4_162 : Cond.methodLink "MovingMarketModel" (122 : Nat) ⟨"MovingMarketModel", "hoursGo", "(I)I"⟩ ∈ AW := aw_4 162 rfl rfl
theorem wd_4_164 : Cond.instanceMethod ⟨"MovingMarketModel", "hoursGo", "(I)I"⟩ ∈ AW := aw_4 164 rfl rfl
theorem wd_4_165 : Cond.code ⟨"MovingMarketModel", "hoursGo", "(I)I"⟩ prog_7_method_32_code (4 : Nat) (some FieldType.int) ∈ AW := aw_4 165 rfl rfl
theorem wd_4_166 : Cond.methodLink "MovingMarketModel" (113 : Nat) ⟨"MovingMarketModel", "hour", "()I"⟩ ∈ AW := aw_4 166 rfl rfl
theorem wd_4_168 : Cond.instanceMethod ⟨"MovingMarketModel", "hour", "()I"⟩ ∈ AW := aw_4 168 rfl rfl
theorem wd_4_169 : Cond.code ⟨"MovingMarketModel", "hour", "()I"⟩ prog_7_method_31_code (6 : Nat) (some FieldType.int) ∈ AW := aw_4 169 rfl rfl
theorem wd_4_170 : Cond.methodLink "MovingMarketModel" (96 : Nat) ⟨"MovingMarketModel", "sells", "(I)I"⟩ ∈ AW := aw_4 170 rfl rfl
theorem wd_4_172 : Cond.instanceMethod ⟨"MovingMarketModel", "sells", "(I)I"⟩ ∈ AW := aw_4 172 rfl rfl
theorem wd_4_173 : Cond.code ⟨"MovingMarketModel", "sells", "(I)I"⟩ prog_7_method_27_code (3 : Nat) (some FieldType.int) ∈ AW := aw_4 173 rfl rfl
theorem wd_4_174 : Cond.methodLink "MovingMarketModel" (103 : Nat) ⟨"MovingMarketModel", "staying", "(Z)I"⟩ ∈ AW := aw_4 174 rfl rfl
theorem wd_4_176 : Cond.instanceMethod ⟨"MovingMarketModel", "staying", "(Z)I"⟩ ∈ AW := aw_4 176 rfl rfl
theorem wd_4_177 : Cond.code ⟨"MovingMarketModel", "staying", "(Z)I"⟩ prog_7_method_28_code (5 : Nat) (some FieldType.int) ∈ AW := aw_4 177 rfl rfl
theorem wd_4_178 : Cond.methodLink "MovingMarketModel" (107 : Nat) ⟨"MovingMarketModel", "placesOf", "(I)I"⟩ ∈ AW := aw_4 178 rfl rfl
theorem wd_4_180 : Cond.instanceMethod ⟨"MovingMarketModel", "placesOf", "(I)I"⟩ ∈ AW := aw_4 180 rfl rfl
theorem wd_4_181 : Cond.code ⟨"MovingMarketModel", "placesOf", "(I)I"⟩ prog_7_method_29_code (4 : Nat) (some FieldType.int) ∈ AW := aw_4 181 rfl rfl
theorem wd_4_182 : Cond.methodLink "MovingMarketModel" (99 : Nat) ⟨"MovingMarketModel", "has", "(II)Z"⟩ ∈ AW := aw_4 182 rfl rfl
theorem wd_4_183 : Cond.static ⟨"MovingMarketModel", "has", "(II)Z"⟩ ∈ AW := aw_4 183 rfl rfl
theorem wd_4_184 : Cond.code ⟨"MovingMarketModel", "has", "(II)Z"⟩ prog_7_method_6_code (2 : Nat) (some FieldType.boolean) ∈ AW := aw_4 184 rfl rfl
theorem wd_4_185 : Cond.methodLink "MovingMarketModel" (110 : Nat) ⟨"MovingMarketModel", "farFrom", "(II)I"⟩ ∈ AW := aw_4 185 rfl rfl
theorem wd_4_186 : Cond.static ⟨"MovingMarketModel", "farFrom", "(II)I"⟩ ∈ AW := aw_4 186 rfl rfl
theorem wd_4_187 : Cond.code ⟨"MovingMarketModel", "farFrom", "(II)I"⟩ prog_7_method_30_code (3 : Nat) (some FieldType.int) ∈ AW := aw_4 187 rfl rfl
theorem wd_4_188 : Cond.methodLink "MovingMarketLaw" (61 : Nat) ⟨"MovingMarketModel", "stay", "()I"⟩ ∈ AW := aw_4 188 rfl rfl
theorem wd_4_189 : Cond.instanceMethod ⟨"MovingMarketModel", "stay", "()I"⟩ ∈ AW := aw_4 189 rfl rfl
theorem wd_4_190 : Cond.selects "MovingMarketModel" ⟨"MovingMarketModel", "stay", "()I"⟩ ⟨"MovingMarketModel", "stay", "()I"⟩ ∈ AW := aw_4 190 rfl rfl
theorem wd_4_191 : Cond.code ⟨"MovingMarketModel", "stay", "()I"⟩ prog_7_method_35_code (1 : Nat) (some FieldType.int) ∈ AW := aw_4 191 rfl rfl
theorem wd_4_192 : Cond.methodLink "MovingMarketLaw" (65 : Nat) ⟨"MovingMarketModel", "ahead", "(II)I"⟩ ∈ AW := aw_4 192 rfl rfl
theorem wd_4_193 : Cond.instanceMethod ⟨"MovingMarketModel", "ahead", "(II)I"⟩ ∈ AW := aw_4 193 rfl rfl
theorem wd_4_194 : Cond.selects "MovingMarketModel" ⟨"MovingMarketModel", "ahead", "(II)I"⟩ ⟨"MovingMarketModel", "ahead", "(II)I"⟩ ∈ AW := aw_4 194 rfl rfl
theorem wd_4_195 : Cond.code ⟨"MovingMarketModel", "ahead", "(II)I"⟩ prog_7_method_40_code (5 : Nat) (some FieldType.int) ∈ AW := aw_4 195 rfl rfl
theorem wd_4_196 : Cond.methodLink "MovingMarketModel" (127 : Nat) ⟨"MovingMarketModel", "isSpan", "(I)Z"⟩ ∈ AW := aw_4 196 rfl rfl
theorem wd_4_197 : Cond.static ⟨"MovingMarketModel", "isSpan", "(I)Z"⟩ ∈ AW := aw_4 197 rfl rfl
theorem wd_4_198 : Cond.code ⟨"MovingMarketModel", "isSpan", "(I)Z"⟩ prog_7_method_39_code (1 : Nat) (some FieldType.boolean) ∈ AW := aw_4 198 rfl rfl
theorem wd_4_199 : Cond.constantLong "MovingMarketModel" (125 : Nat) (96 : Int64) ∈ AW := aw_4 199 rfl rfl
theorem wd_4_200 : Cond.methodLink "MovingMarketModel" (130 : Nat) ⟨"MovingMarketModel", "saves", "()V"⟩ ∈ AW := aw_4 200 rfl rfl
theorem wd_4_202 : Cond.instanceMethod ⟨"MovingMarketModel", "saves", "()V"⟩ ∈ AW := aw_4 202 rfl rfl
theorem wd_4_203 : Cond.code ⟨"MovingMarketModel", "saves", "()V"⟩ prog_7_method_8_code (2 : Nat) (none : Option FieldType) ∈ AW := aw_4 203 rfl rfl
theorem wd_4_204 : Cond.methodLink "MovingMarketModel" (133 : Nat) ⟨"MovingMarketModel", "emptySet", "()I"⟩ ∈ AW := aw_4 204 rfl rfl
theorem wd_4_206 : Cond.instanceMethod ⟨"MovingMarketModel", "emptySet", "()I"⟩ ∈ AW := aw_4 206 rfl rfl
theorem wd_4_207 : Cond.code ⟨"MovingMarketModel", "emptySet", "()I"⟩ prog_7_method_36_code (3 : Nat) (some FieldType.int) ∈ AW := aw_4 207 rfl rfl
theorem wd_4_208 : Cond.methodLink "MovingMarketModel" (136 : Nat) ⟨"MovingMarketModel", "everyPlace", "()I"⟩ ∈ AW := aw_4 208 rfl rfl
theorem wd_4_210 : Cond.instanceMethod ⟨"MovingMarketModel", "everyPlace", "()I"⟩ ∈ AW := aw_4 210 rfl rfl
theorem wd_4_211 : Cond.code ⟨"MovingMarketModel", "everyPlace", "()I"⟩ prog_7_method_38_code (1 : Nat) (some FieldType.int) ∈ AW := aw_4 211 rfl rfl
theorem wd_4_212 : Cond.methodLink "MovingMarketModel" (139 : Nat) ⟨"MovingMarketModel", "sumOf", "(I)I"⟩ ∈ AW := aw_4 212 rfl rfl
theorem wd_4_214 : Cond.instanceMethod ⟨"MovingMarketModel", "sumOf", "(I)I"⟩ ∈ AW := aw_4 214 rfl rfl
theorem wd_4_215 : Cond.code ⟨"MovingMarketModel", "sumOf", "(I)I"⟩ prog_7_method_37_code (4 : Nat) (some FieldType.int) ∈ AW := aw_4 215 rfl rfl
theorem wd_4_216 : Cond.methodLink "MovingMarketModel" (142 : Nat) ⟨"MovingMarketModel", "putsBack", "()V"⟩ ∈ AW := aw_4 216 rfl rfl
theorem wd_4_218 : Cond.instanceMethod ⟨"MovingMarketModel", "putsBack", "()V"⟩ ∈ AW := aw_4 218 rfl rfl
theorem wd_4_219 : Cond.code ⟨"MovingMarketModel", "putsBack", "()V"⟩ prog_7_method_9_code (2 : Nat) (none : Option FieldType) ∈ AW := aw_4 219 rfl rfl
theorem wd_4_220 : Cond.methodLink "MovingMarketLaw" (69 : Nat) ⟨"MovingMarketModel", "when", "(II)I"⟩ ∈ AW := aw_4 220 rfl rfl
theorem wd_4_221 : Cond.instanceMethod ⟨"MovingMarketModel", "when", "(II)I"⟩ ∈ AW := aw_4 221 rfl rfl
theorem wd_4_222 : Cond.selects "MovingMarketModel" ⟨"MovingMarketModel", "when", "(II)I"⟩ ⟨"MovingMarketModel", "when", "(II)I"⟩ ∈ AW := aw_4 222 rfl rfl
theorem wd_4_223 : Cond.code ⟨"MovingMarketModel", "when", "(II)I"⟩ prog_7_method_41_code (5 : Nat) (some FieldType.int) ∈ AW := aw_4 223 rfl rfl
theorem wd_4_224 : Cond.constant "MovingMarketModel" (145 : Nat) (-1000004 : Int32) ∈ AW := aw_4 224 rfl rfl
theorem wd_4_225 : Cond.methodLink "MovingMarketLaw" (73 : Nat) ⟨"MovingMarketModel", "empty", "(I)I"⟩ ∈ AW := aw_4 225 rfl rfl
theorem wd_4_226 : Cond.instanceMethod ⟨"MovingMarketModel", "empty", "(I)I"⟩ ∈ AW := aw_4 226 rfl rfl
theorem wd_4_227 : Cond.selects "MovingMarketModel" ⟨"MovingMarketModel", "empty", "(I)I"⟩ ⟨"MovingMarketModel", "empty", "(I)I"⟩ ∈ AW := aw_4 227 rfl rfl
theorem wd_4_228 : Cond.code ⟨"MovingMarketModel", "empty", "(I)I"⟩ prog_7_method_42_code (4 : Nat) (some FieldType.int) ∈ AW := aw_4 228 rfl rfl
theorem wd_4_229 : Cond.methodLink "MovingMarketLaw" (77 : Nat) ⟨"MovingMarketModel", "again", "()I"⟩ ∈ AW := aw_4 229 rfl rfl
theorem wd_4_230 : Cond.instanceMethod ⟨"MovingMarketModel", "again", "()I"⟩ ∈ AW := aw_4 230 rfl rfl
theorem wd_4_231 : Cond.selects "MovingMarketModel" ⟨"MovingMarketModel", "again", "()I"⟩ ⟨"MovingMarketModel", "again", "()I"⟩ ∈ AW := aw_4 231 rfl rfl
theorem wd_4_232 : Cond.code ⟨"MovingMarketModel", "again", "()I"⟩ prog_7_method_43_code (5 : Nat) (some FieldType.int) ∈ AW := aw_4 232 rfl rfl
theorem wd_4_233 : Cond.methodLink "MovingMarketLaw" (81 : Nat) ⟨"MovingMarketModel", "there", "(II)I"⟩ ∈ AW := aw_4 233 rfl rfl
theorem wd_4_234 : Cond.instanceMethod ⟨"MovingMarketModel", "there", "(II)I"⟩ ∈ AW := aw_4 234 rfl rfl
theorem wd_4_235 : Cond.selects "MovingMarketModel" ⟨"MovingMarketModel", "there", "(II)I"⟩ ⟨"MovingMarketModel", "there", "(II)I"⟩ ∈ AW := aw_4 235 rfl rfl
theorem wd_4_236 : Cond.code ⟨"MovingMarketModel", "there", "(II)I"⟩ prog_7_method_44_code (5 : Nat) (some FieldType.int) ∈ AW := aw_4 236 rfl rfl
theorem wd_4_237 : Cond.methodLink "MovingMarketLaw" (85 : Nat) ⟨"MovingMarketModel", "passes", "(I)I"⟩ ∈ AW := aw_4 237 rfl rfl
theorem wd_4_238 : Cond.instanceMethod ⟨"MovingMarketModel", "passes", "(I)I"⟩ ∈ AW := aw_4 238 rfl rfl
theorem wd_4_239 : Cond.selects "MovingMarketModel" ⟨"MovingMarketModel", "passes", "(I)I"⟩ ⟨"MovingMarketModel", "passes", "(I)I"⟩ ∈ AW := aw_4 239 rfl rfl
theorem wd_5_0 : Cond.code ⟨"MovingMarketModel", "passes", "(I)I"⟩ prog_7_method_45_code (3 : Nat) (some FieldType.int) ∈ AW := aw_5 0 rfl rfl
theorem wd_5_1 : Cond.methodLink "MovingMarketLaw" (89 : Nat) ⟨"MovingMarketModel", "most", "(I)I"⟩ ∈ AW := aw_5 1 rfl rfl
theorem wd_5_2 : Cond.instanceMethod ⟨"MovingMarketModel", "most", "(I)I"⟩ ∈ AW := aw_5 2 rfl rfl
theorem wd_5_3 : Cond.selects "MovingMarketModel" ⟨"MovingMarketModel", "most", "(I)I"⟩ ⟨"MovingMarketModel", "most", "(I)I"⟩ ∈ AW := aw_5 3 rfl rfl
theorem wd_5_4 : Cond.code ⟨"MovingMarketModel", "most", "(I)I"⟩ prog_7_method_51_code (3 : Nat) (some FieldType.int) ∈ AW := aw_5 4 rfl rfl
theorem wd_5_5 : Cond.constantLong "MovingMarketModel" (161 : Nat) (24 : Int64) ∈ AW := aw_5 5 rfl rfl
theorem wd_5_6 : Cond.methodLink "MovingMarketModel" (163 : Nat) ⟨"MovingMarketModel", "orderWrong", "(I)I"⟩ ∈ AW := aw_5 6 rfl rfl
theorem wd_5_8 : Cond.instanceMethod ⟨"MovingMarketModel", "orderWrong", "(I)I"⟩ ∈ AW := aw_5 8 rfl rfl
theorem wd_5_9 : Cond.code ⟨"MovingMarketModel", "orderWrong", "(I)I"⟩ prog_7_method_49_code (2 : Nat) (some FieldType.int) ∈ AW := aw_5 9 rfl rfl
theorem wd_5_10 : Cond.constant "MovingMarketModel" (146 : Nat) (-1000007 : Int32) ∈ AW := aw_5 10 rfl rfl
theorem wd_5_11 : Cond.methodLink "MovingMarketModel" (166 : Nat) ⟨"MovingMarketModel", "bestOrder", "(II)I"⟩ ∈ AW := aw_5 11 rfl rfl
theorem wd_5_13 : Cond.instanceMethod ⟨"MovingMarketModel", "bestOrder", "(II)I"⟩ ∈ AW := aw_5 13 rfl rfl
theorem wd_5_14 : Cond.code ⟨"MovingMarketModel", "bestOrder", "(II)I"⟩ prog_7_method_50_code (6 : Nat) (some FieldType.int) ∈ AW := aw_5 14 rfl rfl
theorem wd_5_15 : Cond.methodLink "MovingMarketModel" (147 : Nat) ⟨"MovingMarketModel", "firstOrder", "()V"⟩ ∈ AW := aw_5 15 rfl rfl
theorem wd_5_17 : Cond.instanceMethod ⟨"MovingMarketModel", "firstOrder", "()V"⟩ ∈ AW := aw_5 17 rfl rfl
theorem wd_5_18 : Cond.code ⟨"MovingMarketModel", "firstOrder", "()V"⟩ prog_7_method_46_code (2 : Nat) (none : Option FieldType) ∈ AW := aw_5 18 rfl rfl
theorem wd_5_19 : Cond.methodLink "MovingMarketModel" (150 : Nat) ⟨"MovingMarketModel", "lays", "()V"⟩ ∈ AW := aw_5 19 rfl rfl
theorem wd_5_21 : Cond.instanceMethod ⟨"MovingMarketModel", "lays", "()V"⟩ ∈ AW := aw_5 21 rfl rfl
theorem wd_5_22 : Cond.code ⟨"MovingMarketModel", "lays", "()V"⟩ prog_7_method_48_code (2 : Nat) (none : Option FieldType) ∈ AW := aw_5 22 rfl rfl
theorem wd_5_23 : Cond.methodLink "MovingMarketModel" (157 : Nat) ⟨"MovingMarketModel", "nextOrder", "()Z"⟩ ∈ AW := aw_5 23 rfl rfl
theorem wd_5_25 : Cond.instanceMethod ⟨"MovingMarketModel", "nextOrder", "()Z"⟩ ∈ AW := aw_5 25 rfl rfl
theorem wd_5_26 : Cond.code ⟨"MovingMarketModel", "nextOrder", "()Z"⟩ prog_7_method_47_code (6 : Nat) (some FieldType.boolean) ∈ AW := aw_5 26 rfl rfl
theorem wd_5_27 : Cond.methodLink "MovingMarketLaw" (93 : Nat) ⟨"MovingMarketModel", "order", "(II)I"⟩ ∈ AW := aw_5 27 rfl rfl
theorem wd_5_28 : Cond.instanceMethod ⟨"MovingMarketModel", "order", "(II)I"⟩ ∈ AW := aw_5 28 rfl rfl
theorem wd_5_29 : Cond.selects "MovingMarketModel" ⟨"MovingMarketModel", "order", "(II)I"⟩ ⟨"MovingMarketModel", "order", "(II)I"⟩ ∈ AW := aw_5 29 rfl rfl
theorem wd_5_30 : Cond.code ⟨"MovingMarketModel", "order", "(II)I"⟩ prog_7_method_52_code (5 : Nat) (some FieldType.int) ∈ AW := aw_5 30 rfl rfl
theorem wd_5_31 : Cond.methodLink "MovingMarketLaw" (97 : Nat) ⟨"MovingMarketModel", "dawn", "(III)I"⟩ ∈ AW := aw_5 31 rfl rfl
theorem wd_5_32 : Cond.instanceMethod ⟨"MovingMarketModel", "dawn", "(III)I"⟩ ∈ AW := aw_5 32 rfl rfl
theorem wd_5_33 : Cond.selects "MovingMarketModel" ⟨"MovingMarketModel", "dawn", "(III)I"⟩ ⟨"MovingMarketModel", "dawn", "(III)I"⟩ ∈ AW := aw_5 33 rfl rfl
theorem wd_5_34 : Cond.code ⟨"MovingMarketModel", "dawn", "(III)I"⟩ prog_7_method_53_code (8 : Nat) (some FieldType.int) ∈ AW := aw_5 34 rfl rfl
theorem wd_5_35 : Cond.methodLink "MovingMarketLaw" (101 : Nat) ⟨"MovingMarketModel", "throwAway", "(II)I"⟩ ∈ AW := aw_5 35 rfl rfl
theorem wd_5_36 : Cond.instanceMethod ⟨"MovingMarketModel", "throwAway", "(II)I"⟩ ∈ AW := aw_5 36 rfl rfl
theorem wd_5_37 : Cond.selects "MovingMarketModel" ⟨"MovingMarketModel", "throwAway", "(II)I"⟩ ⟨"MovingMarketModel", "throwAway", "(II)I"⟩ ∈ AW := aw_5 37 rfl rfl
theorem wd_5_38 : Cond.code ⟨"MovingMarketModel", "throwAway", "(II)I"⟩ prog_7_method_56_code (7 : Nat) (some FieldType.int) ∈ AW := aw_5 38 rfl rfl
theorem wd_5_39 : Cond.methodLink "MovingMarketModel" (169 : Nat) ⟨"MovingMarketModel", "isDays", "(I)Z"⟩ ∈ AW := aw_5 39 rfl rfl
theorem wd_5_40 : Cond.static ⟨"MovingMarketModel", "isDays", "(I)Z"⟩ ∈ AW := aw_5 40 rfl rfl
theorem wd_5_41 : Cond.code ⟨"MovingMarketModel", "isDays", "(I)Z"⟩ prog_7_method_55_code (1 : Nat) (some FieldType.boolean) ∈ AW := aw_5 41 rfl rfl
theorem wd_5_42 : Cond.methodLink "MovingMarketModel" (172 : Nat) ⟨"MovingMarketModel", "coinOf", "(II)I"⟩ ∈ AW := aw_5 42 rfl rfl
theorem wd_5_44 : Cond.instanceMethod ⟨"MovingMarketModel", "coinOf", "(II)I"⟩ ∈ AW := aw_5 44 rfl rfl
theorem wd_5_45 : Cond.code ⟨"MovingMarketModel", "coinOf", "(II)I"⟩ prog_7_method_54_code (5 : Nat) (some FieldType.int) ∈ AW := aw_5 45 rfl rfl
theorem wd_5_46 : Cond.methodLink "MovingMarketLaw" (105 : Nat) ⟨"MovingMarketModel", "wishes", "(II)I"⟩ ∈ AW := aw_5 46 rfl rfl
theorem wd_5_47 : Cond.instanceMethod ⟨"MovingMarketModel", "wishes", "(II)I"⟩ ∈ AW := aw_5 47 rfl rfl
theorem wd_5_48 : Cond.selects "MovingMarketModel" ⟨"MovingMarketModel", "wishes", "(II)I"⟩ ⟨"MovingMarketModel", "wishes", "(II)I"⟩ ∈ AW := aw_5 48 rfl rfl
theorem wd_5_49 : Cond.code ⟨"MovingMarketModel", "wishes", "(II)I"⟩ prog_7_method_57_code (7 : Nat) (some FieldType.int) ∈ AW := aw_5 49 rfl rfl
theorem wd_5_50 : Cond.methodLink "MovingMarketLaw" (109 : Nat) ⟨"MovingMarketModel", "deal", "(I)I"⟩ ∈ AW := aw_5 50 rfl rfl
theorem wd_5_51 : Cond.instanceMethod ⟨"MovingMarketModel", "deal", "(I)I"⟩ ∈ AW := aw_5 51 rfl rfl
theorem wd_5_52 : Cond.selects "MovingMarketModel" ⟨"MovingMarketModel", "deal", "(I)I"⟩ ⟨"MovingMarketModel", "deal", "(I)I"⟩ ∈ AW := aw_5 52 rfl rfl
theorem wd_5_53 : Cond.code ⟨"MovingMarketModel", "deal", "(I)I"⟩ prog_7_method_58_code (8 : Nat) (some FieldType.int) ∈ AW := aw_5 53 rfl rfl
theorem wd_5_54 : Cond.methodLink "MovingMarketLaw" (113 : Nat) ⟨"MovingMarketModel", "beside", "(I)I"⟩ ∈ AW := aw_5 54 rfl rfl
theorem wd_5_55 : Cond.instanceMethod ⟨"MovingMarketModel", "beside", "(I)I"⟩ ∈ AW := aw_5 55 rfl rfl
theorem wd_5_56 : Cond.selects "MovingMarketModel" ⟨"MovingMarketModel", "beside", "(I)I"⟩ ⟨"MovingMarketModel", "beside", "(I)I"⟩ ∈ AW := aw_5 56 rfl rfl
theorem wd_5_57 : Cond.code ⟨"MovingMarketModel", "beside", "(I)I"⟩ prog_7_method_61_code (2 : Nat) (some FieldType.int) ∈ AW := aw_5 57 rfl rfl
theorem wd_5_58 : Cond.methodLink "MovingMarketModel" (178 : Nat) ⟨"MovingMarketModel", "besideSet", "(I)I"⟩ ∈ AW := aw_5 58 rfl rfl
theorem wd_5_60 : Cond.instanceMethod ⟨"MovingMarketModel", "besideSet", "(I)I"⟩ ∈ AW := aw_5 60 rfl rfl
theorem wd_5_61 : Cond.code ⟨"MovingMarketModel", "besideSet", "(I)I"⟩ prog_7_method_60_code (4 : Nat) (some FieldType.int) ∈ AW := aw_5 61 rfl rfl
theorem wd_5_62 : Cond.methodLink "MovingMarketModel" (175 : Nat) ⟨"MovingMarketModel", "isBeside", "(II)Z"⟩ ∈ AW := aw_5 62 rfl rfl
theorem wd_5_64 : Cond.instanceMethod ⟨"MovingMarketModel", "isBeside", "(II)Z"⟩ ∈ AW := aw_5 64 rfl rfl
theorem wd_5_65 : Cond.code ⟨"MovingMarketModel", "isBeside", "(II)Z"⟩ prog_7_method_59_code (4 : Nat) (some FieldType.boolean) ∈ AW := aw_5 65 rfl rfl
theorem wd_5_66 : Cond.methodLink "MovingMarketLaw" (117 : Nat) ⟨"MovingMarketModel", "ever", "(II)I"⟩ ∈ AW := aw_5 66 rfl rfl
theorem wd_5_67 : Cond.instanceMethod ⟨"MovingMarketModel", "ever", "(II)I"⟩ ∈ AW := aw_5 67 rfl rfl
theorem wd_5_68 : Cond.selects "MovingMarketModel" ⟨"MovingMarketModel", "ever", "(II)I"⟩ ⟨"MovingMarketModel", "ever", "(II)I"⟩ ∈ AW := aw_5 68 rfl rfl
theorem wd_5_69 : Cond.code ⟨"MovingMarketModel", "ever", "(II)I"⟩ prog_7_method_62_code (6 : Nat) (some FieldType.int) ∈ AW := aw_5 69 rfl rfl
theorem wd_5_70 : Cond.methodLink "MovingMarketLaw" (121 : Nat) ⟨"MovingMarketModel", "meet", "(II)I"⟩ ∈ AW := aw_5 70 rfl rfl
theorem wd_5_71 : Cond.instanceMethod ⟨"MovingMarketModel", "meet", "(II)I"⟩ ∈ AW := aw_5 71 rfl rfl
theorem wd_5_72 : Cond.selects "MovingMarketModel" ⟨"MovingMarketModel", "meet", "(II)I"⟩ ⟨"MovingMarketModel", "meet", "(II)I"⟩ ∈ AW := aw_5 72 rfl rfl
theorem wd_5_73 : Cond.code ⟨"MovingMarketModel", "meet", "(II)I"⟩ prog_7_method_64_code (5 : Nat) (some FieldType.int) ∈ AW := aw_5 73 rfl rfl
theorem wd_5_74 : Cond.methodLink "MovingMarketModel" (181 : Nat) ⟨"MovingMarketModel", "isTwo", "(II)Z"⟩ ∈ AW := aw_5 74 rfl rfl
theorem wd_5_76 : Cond.instanceMethod ⟨"MovingMarketModel", "isTwo", "(II)Z"⟩ ∈ AW := aw_5 76 rfl rfl
theorem wd_5_77 : Cond.code ⟨"MovingMarketModel", "isTwo", "(II)Z"⟩ prog_7_method_63_code (3 : Nat) (some FieldType.boolean) ∈ AW := aw_5 77 rfl rfl
theorem wd_5_78 : Cond.methodLink "MovingMarketLaw" (125 : Nat) ⟨"MovingMarketModel", "never", "(III)I"⟩ ∈ AW := aw_5 78 rfl rfl
theorem wd_5_79 : Cond.instanceMethod ⟨"MovingMarketModel", "never", "(III)I"⟩ ∈ AW := aw_5 79 rfl rfl
theorem wd_5_80 : Cond.selects "MovingMarketModel" ⟨"MovingMarketModel", "never", "(III)I"⟩ ⟨"MovingMarketModel", "never", "(III)I"⟩ ∈ AW := aw_5 80 rfl rfl
theorem wd_5_81 : Cond.code ⟨"MovingMarketModel", "never", "(III)I"⟩ prog_7_method_65_code (10 : Nat) (some FieldType.int) ∈ AW := aw_5 81 rfl rfl
theorem wd_5_82 : Cond.methodLink "MovingMarketLaw" (129 : Nat) ⟨"MovingMarketModel", "worth", "(III)I"⟩ ∈ AW := aw_5 82 rfl rfl
theorem wd_5_83 : Cond.instanceMethod ⟨"MovingMarketModel", "worth", "(III)I"⟩ ∈ AW := aw_5 83 rfl rfl
theorem wd_5_84 : Cond.selects "MovingMarketModel" ⟨"MovingMarketModel", "worth", "(III)I"⟩ ⟨"MovingMarketModel", "worth", "(III)I"⟩ ∈ AW := aw_5 84 rfl rfl
theorem wd_5_85 : Cond.code ⟨"MovingMarketModel", "worth", "(III)I"⟩ prog_7_method_67_code (4 : Nat) (some FieldType.int) ∈ AW := aw_5 85 rfl rfl
theorem wd_5_86 : Cond.methodLink "MovingMarketModel" (184 : Nat) ⟨"MovingMarketModel", "worthOf", "(III)I"⟩ ∈ AW := aw_5 86 rfl rfl
theorem wd_5_88 : Cond.instanceMethod ⟨"MovingMarketModel", "worthOf", "(III)I"⟩ ∈ AW := aw_5 88 rfl rfl
theorem wd_5_89 : Cond.code ⟨"MovingMarketModel", "worthOf", "(III)I"⟩ prog_7_method_66_code (6 : Nat) (some FieldType.int) ∈ AW := aw_5 89 rfl rfl
theorem wd_5_90 : Cond.methodLink "MovingMarketLaw" (133 : Nat) ⟨"MovingMarketModel", "best", "(II)I"⟩ ∈ AW := aw_5 90 rfl rfl
theorem wd_5_91 : Cond.instanceMethod ⟨"MovingMarketModel", "best", "(II)I"⟩ ∈ AW := aw_5 91 rfl rfl
theorem wd_5_92 : Cond.selects "MovingMarketModel" ⟨"MovingMarketModel", "best", "(II)I"⟩ ⟨"MovingMarketModel", "best", "(II)I"⟩ ∈ AW := aw_5 92 rfl rfl
theorem wd_5_93 : Cond.code ⟨"MovingMarketModel", "best", "(II)I"⟩ prog_7_method_68_code (7 : Nat) (some FieldType.int) ∈ AW := aw_5 93 rfl rfl
theorem wd_5_94 : Cond.methodLink "MovingMarketLaw" (137 : Nat) ⟨"MovingMarketModel", "thief", "(II)I"⟩ ∈ AW := aw_5 94 rfl rfl
theorem wd_5_95 : Cond.instanceMethod ⟨"MovingMarketModel", "thief", "(II)I"⟩ ∈ AW := aw_5 95 rfl rfl
theorem wd_5_96 : Cond.selects "MovingMarketModel" ⟨"MovingMarketModel", "thief", "(II)I"⟩ ⟨"MovingMarketModel", "thief", "(II)I"⟩ ∈ AW := aw_5 96 rfl rfl
theorem wd_5_97 : Cond.code ⟨"MovingMarketModel", "thief", "(II)I"⟩ prog_7_method_69_code (6 : Nat) (some FieldType.int) ∈ AW := aw_5 97 rfl rfl
theorem wd_5_98 : Cond.methodLink "MovingMarketLaw" (141 : Nat) ⟨"MovingMarketModel", "lots", "(I)I"⟩ ∈ AW := aw_5 98 rfl rfl
theorem wd_5_99 : Cond.instanceMethod ⟨"MovingMarketModel", "lots", "(I)I"⟩ ∈ AW := aw_5 99 rfl rfl
theorem wd_5_100 : Cond.selects "MovingMarketModel" ⟨"MovingMarketModel", "lots", "(I)I"⟩ ⟨"MovingMarketModel", "lots", "(I)I"⟩ ∈ AW := aw_5 100 rfl rfl
theorem wd_5_101 : Cond.code ⟨"MovingMarketModel", "lots", "(I)I"⟩ prog_7_method_70_code (4 : Nat) (some FieldType.int) ∈ AW := aw_5 101 rfl rfl
theorem wd_5_102 : Cond.constantLong "MovingMarketModel" (187 : Nat) (12 : Int64) ∈ AW := aw_5 102 rfl rfl
theorem wd_5_103 : Cond.methodLink "MovingMarketModel" (189 : Nat) ⟨"MovingMarketModel", "draw", "()I"⟩ ∈ AW := aw_5 103 rfl rfl
theorem wd_5_105 : Cond.instanceMethod ⟨"MovingMarketModel", "draw", "()I"⟩ ∈ AW := aw_5 105 rfl rfl
theorem wd_5_106 : Cond.code ⟨"MovingMarketModel", "draw", "()I"⟩ prog_7_method_7_code (1 : Nat) (some FieldType.int) ∈ AW := aw_5 106 rfl rfl
theorem wd_5_107 : Cond.constant "MovingMarketModel" (47 : Nat) (1103515245 : Int32) ∈ AW := aw_5 107 rfl rfl
theorem wd_5_108 : Cond.methodLink "MovingMarketLaw" (145 : Nat) ⟨"MovingMarketModel", "seed", "(I)I"⟩ ∈ AW := aw_5 108 rfl rfl
theorem wd_5_109 : Cond.instanceMethod ⟨"MovingMarketModel", "seed", "(I)I"⟩ ∈ AW := aw_5 109 rfl rfl
theorem wd_5_110 : Cond.selects "MovingMarketModel" ⟨"MovingMarketModel", "seed", "(I)I"⟩ ⟨"MovingMarketModel", "seed", "(I)I"⟩ ∈ AW := aw_5 110 rfl rfl
theorem wd_5_111 : Cond.code ⟨"MovingMarketModel", "seed", "(I)I"⟩ prog_7_method_71_code (3 : Nat) (some FieldType.int) ∈ AW := aw_5 111 rfl rfl
theorem wd_5_112 : Cond.methodLink "MovingMarketLaw" (149 : Nat) ⟨"MovingMarketModel", "feed", "(II)I"⟩ ∈ AW := aw_5 112 rfl rfl
theorem wd_5_113 : Cond.instanceMethod ⟨"MovingMarketModel", "feed", "(II)I"⟩ ∈ AW := aw_5 113 rfl rfl
theorem wd_5_114 : Cond.selects "MovingMarketModel" ⟨"MovingMarketModel", "feed", "(II)I"⟩ ⟨"MovingMarketModel", "feed", "(II)I"⟩ ∈ AW := aw_5 114 rfl rfl
theorem wd_5_115 : Cond.code ⟨"MovingMarketModel", "feed", "(II)I"⟩ prog_7_method_72_code (4 : Nat) (some FieldType.int) ∈ AW := aw_5 115 rfl rfl
theorem wd_5_116 : Cond.constantLong "MovingMarketModel" (192 : Nat) (4 : Int64) ∈ AW := aw_5 116 rfl rfl
theorem wd_5_117 : Cond.methodLink "MovingMarketLaw" (153 : Nat) ⟨"MovingMarketModel", "wipe", "()I"⟩ ∈ AW := aw_5 117 rfl rfl
theorem wd_5_118 : Cond.instanceMethod ⟨"MovingMarketModel", "wipe", "()I"⟩ ∈ AW := aw_5 118 rfl rfl
theorem wd_5_119 : Cond.selects "MovingMarketModel" ⟨"MovingMarketModel", "wipe", "()I"⟩ ⟨"MovingMarketModel", "wipe", "()I"⟩ ∈ AW := aw_5 119 rfl rfl
theorem wd_5_120 : Cond.code ⟨"MovingMarketModel", "wipe", "()I"⟩ prog_7_method_73_code (2 : Nat) (some FieldType.int) ∈ AW := aw_5 120 rfl rfl
theorem wd_5_121 : Cond.methodLink "MovingMarketLaw" (157 : Nat) ⟨"MovingMarketModel", "text", "()I"⟩ ∈ AW := aw_5 121 rfl rfl
theorem wd_5_122 : Cond.instanceMethod ⟨"MovingMarketModel", "text", "()I"⟩ ∈ AW := aw_5 122 rfl rfl
theorem wd_5_123 : Cond.selects "MovingMarketModel" ⟨"MovingMarketModel", "text", "()I"⟩ ⟨"MovingMarketModel", "text", "()I"⟩ ∈ AW := aw_5 123 rfl rfl
theorem wd_5_124 : Cond.code ⟨"MovingMarketModel", "text", "()I"⟩ prog_7_method_87_code (2 : Nat) (some FieldType.int) ∈ AW := aw_5 124 rfl rfl
theorem wd_5_125 : Cond.methodLink "MovingMarketModel" (222 : Nat) ⟨"MovingMarketModel", "token", "()V"⟩ ∈ AW := aw_5 125 rfl rfl
theorem wd_5_127 : Cond.instanceMethod ⟨"MovingMarketModel", "token", "()V"⟩ ∈ AW := aw_5 127 rfl rfl
theorem wd_5_128 : Cond.code ⟨"MovingMarketModel", "token", "()V"⟩ prog_7_method_77_code (3 : Nat) (none : Option FieldType) ∈ AW := aw_5 128 rfl rfl
theorem wd_5_129 : Cond.methodLink "MovingMarketModel" (209 : Nat) ⟨"MovingMarketModel", "byteAt", "(I)I"⟩ ∈ AW := aw_5 129 rfl rfl
theorem wd_5_131 : Cond.instanceMethod ⟨"MovingMarketModel", "byteAt", "(I)I"⟩ ∈ AW := aw_5 131 rfl rfl
theorem wd_5_132 : Cond.code ⟨"MovingMarketModel", "byteAt", "(I)I"⟩ prog_7_method_74_code (2 : Nat) (some FieldType.int) ∈ AW := aw_5 132 rfl rfl
theorem wd_5_133 : Cond.methodLink "MovingMarketModel" (212 : Nat) ⟨"MovingMarketModel", "isLetter", "(I)Z"⟩ ∈ AW := aw_5 133 rfl rfl
theorem wd_5_134 : Cond.static ⟨"MovingMarketModel", "isLetter", "(I)Z"⟩ ∈ AW := aw_5 134 rfl rfl
theorem wd_5_135 : Cond.code ⟨"MovingMarketModel", "isLetter", "(I)Z"⟩ prog_7_method_75_code (1 : Nat) (some FieldType.boolean) ∈ AW := aw_5 135 rfl rfl
theorem wd_5_136 : Cond.constantLong "MovingMarketModel" (197 : Nat) (97 : Int64) ∈ AW := aw_5 136 rfl rfl
theorem wd_5_137 : Cond.constantLong "MovingMarketModel" (199 : Nat) (122 : Int64) ∈ AW := aw_5 137 rfl rfl
theorem wd_5_138 : Cond.methodLink "MovingMarketModel" (215 : Nat) ⟨"MovingMarketModel", "isDigit", "(I)Z"⟩ ∈ AW := aw_5 138 rfl rfl
theorem wd_5_139 : Cond.static ⟨"MovingMarketModel", "isDigit", "(I)Z"⟩ ∈ AW := aw_5 139 rfl rfl
theorem wd_5_140 : Cond.code ⟨"MovingMarketModel", "isDigit", "(I)Z"⟩ prog_7_method_76_code (1 : Nat) (some FieldType.boolean) ∈ AW := aw_5 140 rfl rfl
theorem wd_5_141 : Cond.constantLong "MovingMarketModel" (201 : Nat) (57 : Int64) ∈ AW := aw_5 141 rfl rfl
theorem wd_5_142 : Cond.methodLink "MovingMarketModel" (289 : Nat) ⟨"MovingMarketModel", "item", "()V"⟩ ∈ AW := aw_5 142 rfl rfl
theorem wd_5_144 : Cond.instanceMethod ⟨"MovingMarketModel", "item", "()V"⟩ ∈ AW := aw_5 144 rfl rfl
theorem wd_5_145 : Cond.code ⟨"MovingMarketModel", "item", "()V"⟩ prog_7_method_86_code (4 : Nat) (none : Option FieldType) ∈ AW := aw_5 145 rfl rfl
theorem wd_5_146 : Cond.methodLink "MovingMarketModel" (271 : Nat) ⟨"MovingMarketModel", "kindHere", "()I"⟩ ∈ AW := aw_5 146 rfl rfl
theorem wd_5_148 : Cond.instanceMethod ⟨"MovingMarketModel", "kindHere", "()I"⟩ ∈ AW := aw_5 148 rfl rfl
theorem wd_5_149 : Cond.code ⟨"MovingMarketModel", "kindHere", "()I"⟩ prog_7_method_81_code (3 : Nat) (some FieldType.int) ∈ AW := aw_5 149 rfl rfl
theorem wd_5_150 : Cond.methodLink "MovingMarketModel" (236 : Nat) ⟨"MovingMarketModel", "word", "()J"⟩ ∈ AW := aw_5 150 rfl rfl
theorem wd_5_152 : Cond.instanceMethod ⟨"MovingMarketModel", "word", "()J"⟩ ∈ AW := aw_5 152 rfl rfl
theorem wd_5_153 : Cond.code ⟨"MovingMarketModel", "word", "()J"⟩ prog_7_method_79_code (4 : Nat) (some FieldType.long) ∈ AW := aw_5 153 rfl rfl
theorem wd_5_154 : Cond.constantLong "MovingMarketModel" (225 : Nat) (36028797018963967 : Int64) ∈ AW := aw_5 154 rfl rfl
theorem wd_5_155 : Cond.constantLong "MovingMarketModel" (227 : Nat) (32 : Int64) ∈ AW := aw_5 155 rfl rfl
theorem wd_5_156 : Cond.constantLong "MovingMarketModel" (240 : Nat) (20579724 : Int64) ∈ AW := aw_5 156 rfl rfl
theorem wd_5_157 : Cond.constantLong "MovingMarketModel" (242 : Nat) (150636933 : Int64) ∈ AW := aw_5 157 rfl rfl
theorem wd_5_158 : Cond.constantLong "MovingMarketModel" (244 : Nat) (299397 : Int64) ∈ AW := aw_5 158 rfl rfl
theorem wd_5_159 : Cond.constantLong "MovingMarketModel" (246 : Nat) (645959844 : Int64) ∈ AW := aw_5 159 rfl rfl
theorem wd_5_160 : Cond.constantLong "MovingMarketModel" (248 : Nat) (395097 : Int64) ∈ AW := aw_5 160 rfl rfl
theorem wd_5_161 : Cond.constantLong "MovingMarketModel" (250 : Nat) (2500036 : Int64) ∈ AW := aw_5 161 rfl rfl
theorem wd_5_162 : Cond.constantLong "MovingMarketModel" (252 : Nat) (109221477 : Int64) ∈ AW := aw_5 162 rfl rfl
theorem wd_5_163 : Cond.constantLong "MovingMarketModel" (274 : Nat) (20186245 : Int64) ∈ AW := aw_5 163 rfl rfl
theorem wd_5_164 : Cond.methodLink "MovingMarketModel" (276 : Nat) ⟨"MovingMarketModel", "stallItem", "(I)V"⟩ ∈ AW := aw_5 164 rfl rfl
theorem wd_5_166 : Cond.instanceMethod ⟨"MovingMarketModel", "stallItem", "(I)V"⟩ ∈ AW := aw_5 166 rfl rfl
theorem wd_5_167 : Cond.code ⟨"MovingMarketModel", "stallItem", "(I)V"⟩ prog_7_method_84_code (5 : Nat) (none : Option FieldType) ∈ AW := aw_5 167 rfl rfl
theorem wd_5_168 : Cond.methodLink "MovingMarketModel" (232 : Nat) ⟨"MovingMarketModel", "needs", "(Z)V"⟩ ∈ AW := aw_5 168 rfl rfl
theorem wd_5_170 : Cond.instanceMethod ⟨"MovingMarketModel", "needs", "(Z)V"⟩ ∈ AW := aw_5 170 rfl rfl
theorem wd_5_171 : Cond.code ⟨"MovingMarketModel", "needs", "(Z)V"⟩ prog_7_method_78_code (2 : Nat) (none : Option FieldType) ∈ AW := aw_5 171 rfl rfl
theorem wd_5_172 : Cond.constantLong "MovingMarketModel" (256 : Nat) (52 : Int64) ∈ AW := aw_5 172 rfl rfl
theorem wd_5_173 : Cond.methodLink "MovingMarketModel" (258 : Nat) ⟨"MovingMarketModel", "freePlace", "()V"⟩ ∈ AW := aw_5 173 rfl rfl
theorem wd_5_175 : Cond.instanceMethod ⟨"MovingMarketModel", "freePlace", "()V"⟩ ∈ AW := aw_5 175 rfl rfl
theorem wd_5_176 : Cond.code ⟨"MovingMarketModel", "freePlace", "()V"⟩ prog_7_method_83_code (3 : Nat) (none : Option FieldType) ∈ AW := aw_5 176 rfl rfl
theorem wd_5_177 : Cond.constantLong "MovingMarketModel" (261 : Nat) (7847059 : Int64) ∈ AW := aw_5 177 rfl rfl
theorem wd_5_178 : Cond.methodLink "MovingMarketModel" (263 : Nat) ⟨"MovingMarketModel", "perhaps", "(ZIII)I"⟩ ∈ AW := aw_5 178 rfl rfl
theorem wd_5_180 : Cond.instanceMethod ⟨"MovingMarketModel", "perhaps", "(ZIII)I"⟩ ∈ AW := aw_5 180 rfl rfl
theorem wd_5_181 : Cond.code ⟨"MovingMarketModel", "perhaps", "(ZIII)I"⟩ prog_7_method_82_code (5 : Nat) (some FieldType.int) ∈ AW := aw_5 181 rfl rfl
theorem wd_5_182 : Cond.methodLink "MovingMarketModel" (254 : Nat) ⟨"MovingMarketModel", "number", "(II)V"⟩ ∈ AW := aw_5 182 rfl rfl
theorem wd_5_184 : Cond.instanceMethod ⟨"MovingMarketModel", "number", "(II)V"⟩ ∈ AW := aw_5 184 rfl rfl
theorem wd_5_185 : Cond.code ⟨"MovingMarketModel", "number", "(II)V"⟩ prog_7_method_80_code (6 : Nat) (none : Option FieldType) ∈ AW := aw_5 185 rfl rfl
theorem wd_5_186 : Cond.constantLong "MovingMarketModel" (280 : Nat) (748267155 : Int64) ∈ AW := aw_5 186 rfl rfl
theorem wd_5_187 : Cond.methodLink "MovingMarketModel" (282 : Nat) ⟨"MovingMarketModel", "visitsItem", "()V"⟩ ∈ AW := aw_5 187 rfl rfl
theorem wd_5_189 : Cond.instanceMethod ⟨"MovingMarketModel", "visitsItem", "()V"⟩ ∈ AW := aw_5 189 rfl rfl
theorem wd_5_190 : Cond.code ⟨"MovingMarketModel", "visitsItem", "()V"⟩ prog_7_method_85_code (4 : Nat) (none : Option FieldType) ∈ AW := aw_5 190 rfl rfl
theorem wd_5_191 : Cond.constantLong "MovingMarketModel" (267 : Nat) (655 : Int64) ∈ AW := aw_5 191 rfl rfl
theorem wd_5_192 : Cond.constantLong "MovingMarketModel" (269 : Nat) (1605 : Int64) ∈ AW := aw_5 192 rfl rfl
theorem wd_5_193 : Cond.constantLong "MovingMarketModel" (285 : Nat) (20142 : Int64) ∈ AW := aw_5 193 rfl rfl
theorem wd_5_194 : Cond.constantLong "MovingMarketModel" (287 : Nat) (654910919 : Int64) ∈ AW := aw_5 194 rfl rfl
theorem wd_5_195 : Cond.methodLink "MovingMarketLaw" (161 : Nat) ⟨"MovingMarketModel", "hold", "(II)I"⟩ ∈ AW := aw_5 195 rfl rfl
theorem wd_5_196 : Cond.instanceMethod ⟨"MovingMarketModel", "hold", "(II)I"⟩ ∈ AW := aw_5 196 rfl rfl
theorem wd_5_197 : Cond.selects "MovingMarketModel" ⟨"MovingMarketModel", "hold", "(II)I"⟩ ⟨"MovingMarketModel", "hold", "(II)I"⟩ ∈ AW := aw_5 197 rfl rfl
theorem wd_5_198 : Cond.code ⟨"MovingMarketModel", "hold", "(II)I"⟩ prog_7_method_88_code (3 : Nat) (some FieldType.int) ∈ AW := aw_5 198 rfl rfl
theorem wd_5_199 : Cond.constantLong "MovingMarketModel" (292 : Nat) (9 : Int64) ∈ AW := aw_5 199 rfl rfl
theorem wd_5_200 : Cond.methodLink "MovingMarketLaw" (165 : Nat) ⟨"MovingMarketModel", "as", "(II)I"⟩ ∈ AW := aw_5 200 rfl rfl
theorem wd_5_201 : Cond.instanceMethod ⟨"MovingMarketModel", "as", "(II)I"⟩ ∈ AW := aw_5 201 rfl rfl
theorem wd_5_202 : Cond.selects "MovingMarketModel" ⟨"MovingMarketModel", "as", "(II)I"⟩ ⟨"MovingMarketModel", "as", "(II)I"⟩ ∈ AW := aw_5 202 rfl rfl
theorem wd_5_203 : Cond.code ⟨"MovingMarketModel", "as", "(II)I"⟩ prog_7_method_89_code (6 : Nat) (some FieldType.int) ∈ AW := aw_5 203 rfl rfl
theorem wd_5_204 : Cond.constant "MovingMarketModel" (294 : Nat) (-1000006 : Int32) ∈ AW := aw_5 204 rfl rfl
theorem wd_5_205 : Cond.constant "MovingMarketModel" (295 : Nat) (-1000003 : Int32) ∈ AW := aw_5 205 rfl rfl
theorem wd_5_206 : Cond.methodLink "MovingMarketLaw" (169 : Nat) ⟨"MovingMarketModel", "sheet", "(III)I"⟩ ∈ AW := aw_5 206 rfl rfl
theorem wd_5_207 : Cond.instanceMethod ⟨"MovingMarketModel", "sheet", "(III)I"⟩ ∈ AW := aw_5 207 rfl rfl
theorem wd_5_208 : Cond.selects "MovingMarketModel" ⟨"MovingMarketModel", "sheet", "(III)I"⟩ ⟨"MovingMarketModel", "sheet", "(III)I"⟩ ∈ AW := aw_5 208 rfl rfl
theorem wd_5_209 : Cond.code ⟨"MovingMarketModel", "sheet", "(III)I"⟩ prog_7_method_91_code (5 : Nat) (some FieldType.int) ∈ AW := aw_5 209 rfl rfl
theorem wd_5_210 : Cond.methodLink "MovingMarketModel" (298 : Nat) ⟨"MovingMarketModel", "isOne", "(I)Z"⟩ ∈ AW := aw_5 210 rfl rfl
theorem wd_5_211 : Cond.static ⟨"MovingMarketModel", "isOne", "(I)Z"⟩ ∈ AW := aw_5 211 rfl rfl
theorem wd_5_212 : Cond.code ⟨"MovingMarketModel", "isOne", "(I)Z"⟩ prog_7_method_90_code (1 : Nat) (some FieldType.boolean) ∈ AW := aw_5 212 rfl rfl
theorem wd_5_213 : Cond.constantLong "MovingMarketModel" (296 : Nat) (3 : Int64) ∈ AW := aw_5 213 rfl rfl
theorem wd_5_214 : Cond.methodLink "MovingMarketLaw" (173 : Nat) ⟨"MovingMarketModel", "write", "(III)I"⟩ ∈ AW := aw_5 214 rfl rfl
theorem wd_5_215 : Cond.instanceMethod ⟨"MovingMarketModel", "write", "(III)I"⟩ ∈ AW := aw_5 215 rfl rfl
theorem wd_5_216 : Cond.selects "MovingMarketModel" ⟨"MovingMarketModel", "write", "(III)I"⟩ ⟨"MovingMarketModel", "write", "(III)I"⟩ ∈ AW := aw_5 216 rfl rfl
theorem wd_5_217 : Cond.code ⟨"MovingMarketModel", "write", "(III)I"⟩ prog_7_method_94_code (5 : Nat) (some FieldType.int) ∈ AW := aw_5 217 rfl rfl
theorem wd_5_218 : Cond.methodLink "MovingMarketModel" (301 : Nat) ⟨"MovingMarketModel", "wrong", "(I)I"⟩ ∈ AW := aw_5 218 rfl rfl
theorem wd_5_220 : Cond.instanceMethod ⟨"MovingMarketModel", "wrong", "(I)I"⟩ ∈ AW := aw_5 220 rfl rfl
theorem wd_5_221 : Cond.code ⟨"MovingMarketModel", "wrong", "(I)I"⟩ prog_7_method_93_code (2 : Nat) (some FieldType.int) ∈ AW := aw_5 221 rfl rfl
theorem wd_5_222 : Cond.methodLink "MovingMarketModel" (304 : Nat) ⟨"MovingMarketModel", "narrowed", "(II)I"⟩ ∈ AW := aw_5 222 rfl rfl
theorem wd_5_223 : Cond.static ⟨"MovingMarketModel", "narrowed", "(II)I"⟩ ∈ AW := aw_5 223 rfl rfl
theorem wd_5_224 : Cond.code ⟨"MovingMarketModel", "narrowed", "(II)I"⟩ prog_7_method_92_code (2 : Nat) (some FieldType.int) ∈ AW := aw_5 224 rfl rfl
theorem wd_5_225 : Cond.methodLink "MovingMarketLaw" (178 : Nat) ⟨"MovingMarketModel", "copy", "(IIIII)I"⟩ ∈ AW := aw_5 225 rfl rfl
theorem wd_5_226 : Cond.instanceMethod ⟨"MovingMarketModel", "copy", "(IIIII)I"⟩ ∈ AW := aw_5 226 rfl rfl
theorem wd_5_227 : Cond.selects "MovingMarketModel" ⟨"MovingMarketModel", "copy", "(IIIII)I"⟩ ⟨"MovingMarketModel", "copy", "(IIIII)I"⟩ ∈ AW := aw_5 227 rfl rfl
theorem wd_5_228 : Cond.code ⟨"MovingMarketModel", "copy", "(IIIII)I"⟩ prog_7_method_95_code (7 : Nat) (some FieldType.int) ∈ AW := aw_5 228 rfl rfl
theorem wd_5_229 : Cond.methodLink "MovingMarketLaw" (182 : Nat) ⟨"MovingMarketModel", "load", "(I)I"⟩ ∈ AW := aw_5 229 rfl rfl
theorem wd_5_230 : Cond.instanceMethod ⟨"MovingMarketModel", "load", "(I)I"⟩ ∈ AW := aw_5 230 rfl rfl
theorem wd_5_231 : Cond.selects "MovingMarketModel" ⟨"MovingMarketModel", "load", "(I)I"⟩ ⟨"MovingMarketModel", "load", "(I)I"⟩ ∈ AW := aw_5 231 rfl rfl
theorem wd_5_232 : Cond.code ⟨"MovingMarketModel", "load", "(I)I"⟩ prog_7_method_96_code (4 : Nat) (some FieldType.int) ∈ AW := aw_5 232 rfl rfl
theorem wd_5_233 : Cond.methodLink "MovingMarketLaw" (186 : Nat) ⟨"MovingMarketModel", "fit", "(I)I"⟩ ∈ AW := aw_5 233 rfl rfl
theorem wd_5_234 : Cond.instanceMethod ⟨"MovingMarketModel", "fit", "(I)I"⟩ ∈ AW := aw_5 234 rfl rfl
theorem wd_5_235 : Cond.selects "MovingMarketModel" ⟨"MovingMarketModel", "fit", "(I)I"⟩ ⟨"MovingMarketModel", "fit", "(I)I"⟩ ∈ AW := aw_5 235 rfl rfl
theorem wd_5_236 : Cond.code ⟨"MovingMarketModel", "fit", "(I)I"⟩ prog_7_method_98_code (8 : Nat) (some FieldType.int) ∈ AW := aw_5 236 rfl rfl
theorem wd_5_237 : Cond.methodLink "MovingMarketModel" (307 : Nat) ⟨"MovingMarketModel", "isSo", "(II)Z"⟩ ∈ AW := aw_5 237 rfl rfl
theorem wd_5_239 : Cond.instanceMethod ⟨"MovingMarketModel", "isSo", "(II)Z"⟩ ∈ AW := aw_5 239 rfl rfl
theorem wd_6_0 : Cond.code ⟨"MovingMarketModel", "isSo", "(II)Z"⟩ prog_7_method_97_code (5 : Nat) (some FieldType.boolean) ∈ AW := aw_6 0 rfl rfl
theorem wd_6_1 : Cond.methodLink "MovingMarketLaw" (190 : Nat) ⟨"MovingMarketModel", "judge", "(II)I"⟩ ∈ AW := aw_6 1 rfl rfl
theorem wd_6_2 : Cond.instanceMethod ⟨"MovingMarketModel", "judge", "(II)I"⟩ ∈ AW := aw_6 2 rfl rfl
theorem wd_6_3 : Cond.selects "MovingMarketModel" ⟨"MovingMarketModel", "judge", "(II)I"⟩ ⟨"MovingMarketModel", "judge", "(II)I"⟩ ∈ AW := aw_6 3 rfl rfl
theorem wd_6_4 : Cond.code ⟨"MovingMarketModel", "judge", "(II)I"⟩ prog_7_method_99_code (6 : Nat) (some FieldType.int) ∈ AW := aw_6 4 rfl rfl
theorem wd_6_5 : Cond.methodLink "MovingMarketLaw" (194 : Nat) ⟨"MovingMarketModel", "image", "()I"⟩ ∈ AW := aw_6 5 rfl rfl
theorem wd_6_6 : Cond.instanceMethod ⟨"MovingMarketModel", "image", "()I"⟩ ∈ AW := aw_6 6 rfl rfl
theorem wd_6_7 : Cond.selects "MovingMarketModel" ⟨"MovingMarketModel", "image", "()I"⟩ ⟨"MovingMarketModel", "image", "()I"⟩ ∈ AW := aw_6 7 rfl rfl
theorem wd_6_8 : Cond.code ⟨"MovingMarketModel", "image", "()I"⟩ prog_7_method_100_code (2 : Nat) (some FieldType.int) ∈ AW := aw_6 8 rfl rfl
theorem wd_6_9 : Cond.methodLink "MovingMarketLaw" (198 : Nat) ⟨"MovingMarketModel", "undo", "()I"⟩ ∈ AW := aw_6 9 rfl rfl
theorem wd_6_10 : Cond.instanceMethod ⟨"MovingMarketModel", "undo", "()I"⟩ ∈ AW := aw_6 10 rfl rfl
theorem wd_6_11 : Cond.selects "MovingMarketModel" ⟨"MovingMarketModel", "undo", "()I"⟩ ⟨"MovingMarketModel", "undo", "()I"⟩ ∈ AW := aw_6 11 rfl rfl
theorem wd_6_12 : Cond.code ⟨"MovingMarketModel", "undo", "()I"⟩ prog_7_method_101_code (2 : Nat) (some FieldType.int) ∈ AW := aw_6 12 rfl rfl
theorem wd_6_13 : Cond.methodLink "MovingMarketLaw" (202 : Nat) ⟨"MovingMarketModel", "tear", "()I"⟩ ∈ AW := aw_6 13 rfl rfl
theorem wd_6_14 : Cond.instanceMethod ⟨"MovingMarketModel", "tear", "()I"⟩ ∈ AW := aw_6 14 rfl rfl
theorem wd_6_15 : Cond.selects "MovingMarketModel" ⟨"MovingMarketModel", "tear", "()I"⟩ ⟨"MovingMarketModel", "tear", "()I"⟩ ∈ AW := aw_6 15 rfl rfl
theorem wd_6_16 : Cond.code ⟨"MovingMarketModel", "tear", "()I"⟩ prog_7_method_102_code (2 : Nat) (some FieldType.int) ∈ AW := aw_6 16 rfl rfl
theorem wd_6_17 : Cond.methodLink "MovingMarketLaw" (206 : Nat) ⟨"MovingMarketModel", "count", "(I)I"⟩ ∈ AW := aw_6 17 rfl rfl
theorem wd_6_18 : Cond.instanceMethod ⟨"MovingMarketModel", "count", "(I)I"⟩ ∈ AW := aw_6 18 rfl rfl
theorem wd_6_19 : Cond.selects "MovingMarketModel" ⟨"MovingMarketModel", "count", "(I)I"⟩ ⟨"MovingMarketModel", "count", "(I)I"⟩ ∈ AW := aw_6 19 rfl rfl
theorem wd_6_20 : Cond.code ⟨"MovingMarketModel", "count", "(I)I"⟩ prog_7_method_105_code (2 : Nat) (some FieldType.int) ∈ AW := aw_6 20 rfl rfl
theorem wd_6_21 : Cond.methodLink "MovingMarketModel" (313 : Nat) ⟨"MovingMarketModel", "visitsOfAll", "()I"⟩ ∈ AW := aw_6 21 rfl rfl
theorem wd_6_23 : Cond.instanceMethod ⟨"MovingMarketModel", "visitsOfAll", "()I"⟩ ∈ AW := aw_6 23 rfl rfl
theorem wd_6_24 : Cond.code ⟨"MovingMarketModel", "visitsOfAll", "()I"⟩ prog_7_method_103_code (3 : Nat) (some FieldType.int) ∈ AW := aw_6 24 rfl rfl
theorem wd_6_25 : Cond.methodLink "MovingMarketModel" (316 : Nat) ⟨"MovingMarketModel", "held", "()I"⟩ ∈ AW := aw_6 25 rfl rfl
theorem wd_6_27 : Cond.instanceMethod ⟨"MovingMarketModel", "held", "()I"⟩ ∈ AW := aw_6 27 rfl rfl
theorem wd_6_28 : Cond.code ⟨"MovingMarketModel", "held", "()I"⟩ prog_7_method_104_code (3 : Nat) (some FieldType.int) ∈ AW := aw_6 28 rfl rfl
theorem wd_6_29 : Cond.methodLink "MovingMarketLaw" (210 : Nat) ⟨"MovingMarketModel", "status", "(I)I"⟩ ∈ AW := aw_6 29 rfl rfl
theorem wd_6_30 : Cond.instanceMethod ⟨"MovingMarketModel", "status", "(I)I"⟩ ∈ AW := aw_6 30 rfl rfl
theorem wd_6_31 : Cond.selects "MovingMarketModel" ⟨"MovingMarketModel", "status", "(I)I"⟩ ⟨"MovingMarketModel", "status", "(I)I"⟩ ∈ AW := aw_6 31 rfl rfl
theorem wd_6_32 : Cond.code ⟨"MovingMarketModel", "status", "(I)I"⟩ prog_7_method_106_code (4 : Nat) (some FieldType.int) ∈ AW := aw_6 32 rfl rfl
theorem wd_6_33 : Cond.constantLong "MovingMarketModel" (319 : Nat) (-1 : Int64) ∈ AW := aw_6 33 rfl rfl
theorem wd_6_34 : Cond.fieldLink "java/lang/String" (9 : Nat) "java/lang/String" "value" "[B" ∈ AW := aw_6 34 rfl rfl
theorem wd_6_35 : Cond.fieldLink "java/lang/String" (15 : Nat) "java/lang/String" "coder" "B" ∈ AW := aw_6 35 rfl rfl
theorem awX0 : ∀ w ∈ wsX00, w ∈ AW := by decide +kernel
theorem awX1 : ∀ w ∈ wsX10, w ∈ AW := by decide +kernel
theorem awX2 : ∀ w ∈ wsX20, w ∈ AW := by decide +kernel
theorem awX3 : ∀ w ∈ wsX30, w ∈ AW := by decide +kernel
theorem awX4 : ∀ w ∈ wsX40, w ∈ AW := by decide +kernel
theorem awX5 : ∀ w ∈ wsX50, w ∈ AW := by decide +kernel
end
section
/-! THE ABSTRACT MACHINE: one world of fixed cells (both systems side by side), its ints as one function; step functions; what holds of them holds of the machine -/
/-- the ints of the world: cell, place -/
abbrev Sg : Type := Nat → Nat → Int32
abbrev Lcs : Type := List (Nat × Value)
/-- what a cell is: an object (its class; for each field the cell that it holds, or none: an int), a row of ints, a row of objects -/
abbrev ShE : Type := (Nat × List (Option Nat)) ⊕ (Nat ⊕ List Nat)
abbrev Gt : Type := va_G × ClassId × ClassId × (Nat → Nat) × (Nat → Nat)
def ga (G : Gt) : Nat → Nat := G.2.2.2.1
def gV (G : Gt) : Nat → Nat := G.2.2.2.2
def shSq (o : Nat) : List ShE := [.inl (2, [some (o + 1), some (o + 2), some (o + 3), some (o + 4), some (o + 5), some (o + 6), some (o + 7), some (o + 8), none, none, none, none]), .inr (.inl 12), .inr (.inl 12), .inr (.inl 8), .inr (.inl 8), .inr (.inl 8), .inr (.inl 8), .inr (.inl 8), .inr (.inl 10)]
/-- the cells: 0 MovingMarket; 1, 10, 19 now, trial, kept; 28, 30 tried, winner; 32 tape; 34 sheets, 35 .. 42; 43 plainCoin; 44 told; 45 the reference, 46 .. 55 its rows -/
def shL : List ShE :=
  [.inl (4, [some 1, some 10, some 19, some 28, some 30, some 32, some 34, some 43, some 44, none])] ++ shSq 1 ++ shSq 10 ++ shSq 19 ++
  [.inl (0, [some 29, none]), .inr (.inl 8), .inl (0, [some 31, none]), .inr (.inl 8), .inl (3, [some 33, none, none, none, none, none]), .inr (.inl 120), .inr (.inr [35, 37, 39, 41]),
   .inl (1, [some 36, none, none]), .inr (.inl 40), .inl (1, [some 38, none, none]), .inr (.inl 40), .inl (1, [some 40, none, none]), .inr (.inl 40), .inl (1, [some 42, none, none]), .inr (.inl 40), .inr (.inl 8), .inr (.inl 7),
   .inl (5, [some 46, some 47, some 48, some 49, none, some 50, none, some 51, none, none, none, none, none, some 52, some 53, some 54, some 55]), .inr (.inl 78), .inr (.inl 78), .inr (.inl 78), .inr (.inl 7), .inr (.inl 8), .inr (.inl 120), .inr (.inl 4), .inr (.inl 4), .inr (.inl 160), .inr (.inl 40)]
def fv (ad : Nat → Nat) (σ : Sg) (i k : Nat) : Option Nat → Value
  | some j => .ref (ad j)
  | none => .int (σ i k)
def fvA (σ : Sg) (i k : Nat) : Option Nat → Value
  | some j => .ref j
  | none => .int (σ i k)
def wE (G : Gt) (f : Nat → Int32) : ShE → va_E
  | .inl (ci, fs) => .inr (ci, fs.zipIdx.map (fun p => fv (ga G) (fun _ => f) 0 p.2 p.1))
  | .inr (.inl n) => .inl (G.2.1, n, .inl f)
  | .inr (.inr l) => .inl (G.2.2.1, l.length, .inr (.inr (.inr (.inr (fun k => (l[k]?).map (ga G))))))
def wW (G : Gt) (σ : Sg) : va_W := shL.zipIdx.map (fun p => (ga G p.2, wE G (σ p.2) p.1))
def upr (σ : Sg) (i : Nat) (f : Nat → Int32) : Sg := fun a => if a = i then f else σ a
abbrev up2 (σ : Sg) (i k : Nat) (x : Int32) : Sg := upr σ i (upd (σ i) k x)
theorem wW_at {G : Gt} {σ : Sg} {i : Nat} {e : ShE} (h : shL[i]? = some e) : (wW G σ)[i]? = some (ga G i, wE G (σ i) e) := by
  unfold wW
  rw [List.getElem?_map, List.getElem?_zipIdx, h]
  simp
theorem wW_len (G : Gt) (σ : Sg) : (wW G σ).length = 56 := by
  unfold wW
  rw [List.length_map, List.length_zipIdx]
  rfl
theorem wW_adr {G : Gt} {σ : Sg} {k : Nat} {q : Nat × va_E} (h : (wW G σ)[k]? = some q) : k < 56 ∧ q.1 = ga G k ∧ ∃ e, shL[k]? = some e ∧ q = (ga G k, wE G (σ k) e) := by
  have hk : k < (wW G σ).length := (List.getElem?_eq_some_iff.mp h).1
  rw [wW_len] at hk
  have hs : k < shL.length := hk
  have he : shL[k]? = some shL[k] := List.getElem?_eq_getElem hs
  rw [wW_at he] at h
  cases h
  exact ⟨hk, rfl, _, he, rfl⟩
theorem wW_set {G : Gt} {σ : Sg} {i : Nat} {e : ShE} {f : Nat → Int32} (h : shL[i]? = some e) : (wW G σ).set i (ga G i, wE G f e) = wW G (upr σ i f) := by
  refine List.ext_getElem? (fun k => ?_)
  have hi : i < 56 := (List.getElem?_eq_some_iff.mp h).1
  by_cases hk : k = i
  · subst hk
    rw [List.getElem?_set_self (by rw [wW_len]; exact hi), wW_at h]
    simp [upr]
  · rw [List.getElem?_set_ne (Ne.symm hk)]
    by_cases hl : k < 56
    · have he : shL[k]? = some (shL[k]'hl) := List.getElem?_eq_getElem hl
      rw [wW_at he, wW_at he]
      simp [upr, hk]
    · rw [List.getElem?_eq_none (by rw [wW_len]; omega), List.getElem?_eq_none (by rw [wW_len]; omega)]
def Inj (ad : Nat → Nat) : Prop := ∀ i j, i < 56 → j < 56 → ad i = ad j → i = j
def Aw (ad : Nat → Nat) : Nat → Prop := fun q => ∃ i, i < 56 ∧ q = ad i
theorem wW_D {G : Gt} {σ : Sg} (h : Inj (ga G)) : va_D (Aw (ga G)) (wW G σ) := by
  refine ⟨fun i j p q hi hj e => ?_, fun k q hk => ?_⟩
  · obtain ⟨h1, h2, -⟩ := wW_adr hi
    obtain ⟨h3, h4, -⟩ := wW_adr hj
    exact h i j h1 h3 (by rw [← h2, ← h4]; exact e)
  · obtain ⟨h1, h2, -⟩ := wW_adr hk
    exact ⟨k, h1, h2⟩
/-- the two rows that stand in statics -/
def kA : Nat → Int32 := fun k => ([-1, 0, 0, 1, 2, 0, 5] : List Int32).getD k 0
def pR : Nat → Int32 := fun k => ([2, 2, 1, 3, 1, 2, 5] : List Int32).getD k 0
def gsh : Nat → Option (Nat → Int32)
  | 56 => some kA
  | 57 => some pR
  | _ => none
def gsN : Nat → String
  | 56 => "KIND_ABOVE"
  | _ => "PRICES"
def tyW (G : Gt) : List (ClassId × FieldType) := [(G.2.1, .int), (G.2.2.1, .object "MovingMarket$Sheet")]
def GS (G : Gt) (g : Nat) (A : Nat → Prop) (U : State) (H : Heap) : Prop := va_Z "MovingMarket" (gsN g) "[I" (.ref (ga G g)) A U H ∧ va_X (ga G g) 7 ((gsh g).getD kA) U H ∧ ga G g < H.size ∧ ¬ A (ga G g)
theorem GS.moved {G : Gt} {g : Nat} {A : Nat → Prop} {u U : State} {H : Heap} (hvm : u.vm.Alike U.vm) (h : GS G g A u H) : GS G g A U H := ⟨h.1.moved hvm, h.2.1.moved hvm, h.2.2⟩
theorem GS.kept {G : Gt} {g : Nat} {A : Nat → Prop} {U : State} {H H1 : Heap} (hz : H.size ≤ H1.size) (hq : ∀ a : Nat, a < H.size → ¬ A a → H1[a]? = H[a]?) (h : GS G g A U H) : GS G g A U H1 := ⟨h.1.kept hq, h.2.1.kept (hq _ h.2.2.1 h.2.2.2), Nat.lt_of_lt_of_le h.2.2.1 hz, h.2.2.2⟩
def sIx : List Nat := [127, 129, 131, 133, 135, 137, 139, 83, 97, 57, 102, 104, 66, 71, 73]
def sTx : List String := ["double", "idle", "shaded", "lazy", "blind", "cheese", "stall", "at", "goods", "visits", "to", "are", "shade", "sun", "spring"]
def sLen : List Nat := [6, 4, 6, 4, 5, 6, 5, 2, 5, 6, 2, 3, 5, 3, 6]
def sByt : List (List Int32) := [[100, 111, 117, 98, 108, 101], [105, 100, 108, 101], [115, 104, 97, 100, 101, 100], [108, 97, 122, 121], [98, 108, 105, 110, 100], [99, 104, 101, 101, 115, 101], [115, 116, 97, 108, 108], [97, 116], [103, 111, 111, 100, 115], [118, 105, 115, 105, 116, 115], [116, 111], [97, 114, 101], [115, 104, 97, 100, 101], [115, 117, 110], [115, 112, 114, 105, 110, 103]]
def nwK : Cond := .fieldLinkNest "MovingMarket$Square" 61 "MovingMarket" "KIND_ABOVE" "[I" "MovingMarket"
def nwP : Cond := .fieldLinkNest "MovingMarket$Square" 64 "MovingMarket" "PRICES" "[I" "MovingMarket"
/-- what stands outside the world: the statics' rows, the String constants -/
def GLb (G : Gt) (A : Nat → Prop) (U : State) (H : Heap) : Prop :=
  (GS G 56 A U H ∧ GS G 57 A U H) ∧ vk_S 15 sLen sByt (fun k => ga G (60 + k)) (gV G) A U H ∧ (∀ k, k < 15 → vk_R "MovingMarket$Tape" (sIx.getD k 0) (sTx.getD k "") (ga G (60 + k)) U) ∧ (va_Nw nwK U ∧ va_Nw nwP U) ∧ va_Z "java/lang/String" "COMPACT_STRINGS" "Z" (.int 1) A U H
theorem GLb.kept {G : Gt} {A : Nat → Prop} {U : State} {H H1 : Heap} (hz : H.size ≤ H1.size) (hq : ∀ a : Nat, a < H.size → ¬ A a → H1[a]? = H[a]?) (h : GLb G A U H) : GLb G A U H1 := ⟨⟨h.1.1.kept hz hq, h.1.2.kept hz hq⟩, h.2.1.kept hq, h.2.2.1, h.2.2.2.1, h.2.2.2.2.kept hq⟩
theorem GLb.warm {G : Gt} {A : Nat → Prop} {s U : State} {H : Heap} (hW : s.WarmedH U.vm) (h : GLb G A s H) : GLb G A U H := ⟨⟨h.1.1.moved hW.alike, h.1.2.moved hW.alike⟩, h.2.1.moved hW.alike, fun k hk => (h.2.2.1 k hk).warm hW, ⟨va_Nw.warmF hW h.2.2.2.1.1, va_Nw.warmF hW h.2.2.2.1.2⟩, h.2.2.2.2.moved hW.alike⟩
theorem GLb.same {G : Gt} {A : Nat → Prop} {u U : State} {H : Heap} (hv : U.vm = u.vm) (h : GLb G A u H) : GLb G A U H := by
  have ha : u.vm.Alike U.vm := by rw [hv]; exact Vm.Alike.refl _
  exact ⟨⟨h.1.1.moved ha, h.1.2.moved ha⟩, h.2.1.moved ha, fun k hk => (h.2.2.1 k hk).same hv, ⟨va_Nw.same rfl hv.symm h.2.2.2.1.1, va_Nw.same rfl hv.symm h.2.2.2.1.2⟩, h.2.2.2.2.moved ha⟩
theorem GLb.narrow {G : Gt} {A B : Nat → Prop} {U : State} {H : Heap} (hAB : ∀ q, B q → A q) (h : GLb G A U H) : GLb G B U H :=
  ⟨⟨⟨h.1.1.1.narrow hAB, h.1.1.2.1, h.1.1.2.2.1, fun z => h.1.1.2.2.2 (hAB _ z)⟩, ⟨h.1.2.1.narrow hAB, h.1.2.2.1, h.1.2.2.2.1, fun z => h.1.2.2.2.2 (hAB _ z)⟩⟩, h.2.1.narrow hAB, h.2.2.1, h.2.2.2.1, h.2.2.2.2.narrow hAB⟩
theorem wW_DA {G : Gt} {σ : Sg} {A : Nat → Prop} (h : Inj (ga G)) (hA : ∀ q, Aw (ga G) q → A q) : va_D A (wW G σ) := (wW_D h).weaken (fun _ _ _ q => hA _ q)
def vM (ad : Nat → Nat) : Value → Value
  | .ref i => .ref (ad i)
  | v => v
theorem vM_cat (ad : Nat → Nat) (v : Value) : (vM ad v).category = v.category := by cases v <;> rfl
abbrev lM (ad : Nat → Nat) (ls : Lcs) : Lcs := ls.map (fun q => (q.1, vM ad q.2))
abbrev sM (ad : Nat → Nat) (st : List Value) : List Value := st.map (vM ad)
abbrev Kt : Type := Nat → Lcs → List Value → Sg → Prop
abbrev Rt : Type := Option Value → Sg → Prop
abbrev Stf : Type := Kt → Rt → Lcs → List Value → Sg → Prop
abbrev wP (G : Gt) (σ : Sg) (H : Heap) : Prop := va_P G.1 vwCl (wW G σ) H
def Ex (r : Option Value) (σ : Sg) : Rt := fun a b => a = r ∧ b = σ
/-- a method's end -/
def Qg (G : Gt) (rt : Rt) : Array Value → State → Outcome → State → Prop := fun _ st o t => (∃ (r : Option Value) (σ : Sg), o = .returned (r.map (vM (ga G))) ∧ rt r σ ∧ wP G σ t.heap) ∧ va_F (Aw (ga G)) st t
/-- a method's begin -/
def PRE (G : Gt) (σ : Sg) (U : State) : Prop := wP G σ U.heap ∧ va_K G.1 vwCl (tyW G) U ∧ Inj (ga G) ∧ GLb G (Aw (ga G)) U U.heap
/-- a method: name, code, words of locals, what it answers, room: frames, locals -/
abbrev MI : Type := MethodName × ByteArray × Nat × Option FieldType × Nat × Nat
abbrev wsM (M : MI) : List Cond := .code M.1 M.2.1 M.2.2.1 M.2.2.2.1 :: AW
abbrev rmM (M : MI) : Room := { frames := M.2.2.2.2.1, cells := 0, slots := 0, locals := M.2.2.2.2.2 }
/-- THE CONTRACT of a method at a world -/
def Ct (M : MI) (As : List Value) (σ : Sg) (rt : Rt) : Prop := ∀ (l : Launch) (G : Gt), Met l M.1 (wsM M) (rmM M) (va_Pc (sM (ga G) As) (PRE G σ)) (Qg G rt) 0 0 (Aw (ga G))
theorem PRE_blind {G : Gt} {σ : Sg} {As : List Value} : FrameBlind (va_Pc As (PRE G σ)) := by
  intro a U g mk h
  obtain ⟨h0, h1, h2, h3, h4⟩ := h
  exact ⟨h0, h1, va_K.moved (u := U) (U := U.calling g mk a) (Vm.Alike.refl U.vm) h2, h3, GLb.same (u := U) (U := U.calling g mk a) rfl h4⟩
abbrev Scr : Type := Option (Nat × (Nat → Int32))
def lawRet : Option FieldType := some (.object "law")
/-- what stays while a method runs (scr: the law's script, at place 58) -/
def Cx (scr : Scr) (own : String) (cc : ByteArray) (nL : Nat) (ret : Option FieldType) (R0 : Room) (G : Gt) (rt : Rt) (A : Nat → Prop) (cells slots : Nat) (p : Program) (e : Env) (R : Room) (s : State) (m : MethodId) (args : Array Value) (below : List Frame) (meth : Method) (c : Code) (Q : State → Prop) : Prop :=
  (p.tables.exec = Jvm.exec ∧ c.code = cc ∧ c.maxLocals = nL ∧ s.vm.findClass own = some m.cls ∧ ∀ w ∈ AW, w.before args s = true) ∧ (ret ≠ lawRet → meth.sig.returnType = ret ∧ Q = MQ below (Qg G rt) args s 0 0 (Aw (ga G)) ∧ cells = 0 ∧ slots = 0 ∧ A = Aw (ga G)) ∧ meth.locks = false ∧ (va_K G.1 vwCl (tyW G) s ∧ Inj (ga G) ∧ GLb G A s s.heap) ∧ R = R0 ∧
  (∀ q, Aw (ga G) q → A q) ∧ (cells ≤ R.cells ∧ slots ≤ R.slots) ∧ ∀ (L : Nat) (xs : Nat → Int32), scr = some (L, xs) → va_X (ga G 58) L xs s s.heap ∧ ga G 58 < s.heap.size ∧ ¬ A (ga G 58)
/-- the machine at an abstract state -/
def Wm (nL : Nat) (G : Gt) (A : Nat → Prop) (cells slots : Nat) (p : Program) (l : Launch) (e : Env) (R : Room) (s : State) (m : MethodId) (args : Array Value) (below : List Frame) (meth : Method) (c : Code) (Q : State → Prop) : Kt := fun pc ls st σ =>
  ∀ (H : Heap) (locs : List Loc) (rls : Array Slot), wP G σ H → va_S A s.heap H locs → lv_has rls nL (lM (ga G) ls) → W p l e R s m args below meth c H locs cells slots Q (F0 m pc rls (sM (ga G) st))
/-- the step function f is right at pc -/
def SndG (scr : Scr) (own : String) (cc : ByteArray) (nL : Nat) (ret : Option FieldType) (R0 : Room) (pc : Nat) (f : Stf) : Prop :=
  ∀ (G : Gt) (rt : Rt) (A : Nat → Prop) (cells slots : Nat) (p : Program) (l : Launch) (e : Env) (R : Room) (s : State) (m : MethodId) (args : Array Value) (below : List Frame) (meth : Method) (c : Code) (Q : State → Prop), Cx scr own cc nL ret R0 G rt A cells slots p e R s m args below meth c Q →
    ∀ k : Kt, (∀ pc ls st σ, k pc ls st σ → Wm nL G A cells slots p l e R s m args below meth c Q pc ls st σ) → ∀ ls st σ, f k rt ls st σ → Wm nL G A cells slots p l e R s m args below meth c Q pc ls st σ
abbrev Snd (own : String) (cc : ByteArray) (nL : Nat) (ret : Option FieldType) (R0 : Room) (pc : Nat) (f : Stf) : Prop := SndG none own cc nL ret R0 pc f
abbrev Cd : Type := List (Nat × Stf)
def lk : Cd → Nat → Option Stf
  | [], _ => none
  | (j, f) :: t, pc => bif Nat.beq j pc then some f else lk t pc
/-- k at the cuts, else k2 -/
def cutK (cuts : List Nat) (k k2 : Kt) : Kt := fun pc ls st σ => bif cuts.any (fun c => Nat.beq c pc) then k pc ls st σ else k2 pc ls st σ
/-- n steps, or up to a cut, then k -/
def wp (cd : Cd) (cuts : List Nat) (rt : Rt) (k : Kt) : Nat → Kt
  | 0 => k
  | n + 1 => fun pc ls st σ => match lk cd pc with
    | some f => f (cutK cuts k (wp cd cuts rt k n)) rt ls st σ
    | none => False
theorem lk_mem : ∀ (cd : Cd) (pc : Nat) (f : Stf), lk cd pc = some f → (pc, f) ∈ cd
  | [], _, _, h => by cases h
  | (j, g) :: t, pc, f, h => by
    unfold lk at h
    cases hb : Nat.beq j pc with
    | true =>
      rw [hb] at h
      have hj : j = pc := Nat.eq_of_beq_eq_true hb
      subst hj
      cases h
      exact List.mem_cons_self
    | false =>
      rw [hb] at h
      exact List.mem_cons_of_mem _ (lk_mem t pc f h)
theorem wp_sound {scr : Scr} {own : String} {cc : ByteArray} {nL : Nat} {ret : Option FieldType} {R0 : Room} {cd : Cd} (hcd : ∀ q ∈ cd, SndG scr own cc nL ret R0 q.1 q.2) {G : Gt} {rt : Rt} {A : Nat → Prop} {cells slots : Nat} {p : Program} {l : Launch} {e : Env} {R : Room} {s : State} {m : MethodId} {args : Array Value} {below : List Frame} {meth : Method} {c : Code} {Q : State → Prop} (C : Cx scr own cc nL ret R0 G rt A cells slots p e R s m args below meth c Q)
    {k : Kt} {cuts : List Nat} (hk : ∀ pc ls st σ, k pc ls st σ → Wm nL G A cells slots p l e R s m args below meth c Q pc ls st σ) : ∀ (n pc : Nat) (ls : Lcs) (st : List Value) (σ : Sg), wp cd cuts rt k n pc ls st σ → Wm nL G A cells slots p l e R s m args below meth c Q pc ls st σ
  | 0, pc, ls, st, σ, h => hk pc ls st σ h
  | n + 1, pc, ls, st, σ, h => by
    unfold wp at h
    cases hl : lk cd pc with
    | none => rw [hl] at h; exact h.elim
    | some f =>
      rw [hl] at h
      refine hcd _ (lk_mem cd pc f hl) G rt A cells slots p l e R s m args below meth c Q C (cutK cuts k (wp cd cuts rt k n)) (fun pc' ls' st' σ' h' => ?_) ls st σ h
      unfold cutK at h'
      cases hb : cuts.any (fun c => Nat.beq c pc') with
      | true => rw [hb] at h'; exact hk _ _ _ _ h'
      | false => rw [hb] at h'; exact wp_sound hcd C hk n pc' ls' st' σ' h'
theorem lM_args (ad : Nat → Nat) : ∀ (vs : List Value) (i : Nat), lv_args i (sM ad vs) = lM ad (lv_args i vs)
  | [], _ => rfl
  | v :: vs, i => by
    show (i, vM ad v) :: lv_args (if (vM ad v).category = 2 then i + 2 else i + 1) (sM ad vs) = (i, vM ad v) :: lM ad (lv_args (if v.category = 2 then i + 2 else i + 1) vs)
    rw [vM_cat, lM_args ad vs]
theorem sl_len (ad : Nat → Nat) : ∀ vs : List Value, (lg_sl (sM ad vs)).length = (lg_sl vs).length
  | [] => rfl
  | v :: vs => by
    have h := sl_len ad vs
    simp only [lg_sl, sM, List.map_cons, List.flatMap_cons, List.length_append] at h ⊢
    rw [h, vM_cat]
    split <;> rfl
/-- fewer locals -/
def lkeep (is : List Nat) (ls : Lcs) : Lcs := ls.filter (fun q => is.any (fun i => Nat.beq i q.1))
/-- what a run may use: steps, and to forget locals -/
def Go (cd : Cd) (rt : Rt) (X : Kt) : Prop := (∀ cuts n pc ls st σ, wp cd cuts rt X n pc ls st σ → X pc ls st σ) ∧ ∀ (is : List Nat) pc ls st σ, X pc (lkeep is ls) st σ → X pc ls st σ
/-- a contract out of a run of the abstract machine -/
theorem Ct.of {M : MI} {cd : Cd} {As : List Value} {σ : Sg} {rt : Rt} (hy : plainName M.1.cls = true) (hcd : ∀ q ∈ cd, Snd M.1.cls M.2.1 M.2.2.1 M.2.2.2.1 (rmM M) q.1 q.2) (hlen : (lg_sl As).length ≤ M.2.2.1) (hlaw : M.2.2.2.1 ≠ lawRet)
    (h : ∀ X : Kt, Go cd rt X → X 0 (lv_args 0 As) [] σ) : Ct M As σ rt := by
  intro l G
  refine Met.ofW (cc := M.2.1) (maxL := M.2.2.1) (ret := M.2.2.2.1) hy rfl ?_
  intro p e s m args below meth c s₁ B hml hv
  obtain ⟨rfl, hP, hK, hI, hG⟩ := hv
  have hts := atoms_spec (ws := wsM M) B.pre
  have C : Cx none M.1.cls M.2.1 M.2.2.1 M.2.2.2.1 (rmM M) G rt (Aw (ga G)) 0 0 p e (rmM M) s m (sM (ga G) As).toArray below meth c (MQ below (Qg G rt) (sM (ga G) As).toArray s 0 0 (Aw (ga G))) :=
    ⟨⟨B.exec, B.bytes, hml, findClass_of_methodNamed B.named, fun w hw => hts w (List.mem_cons_of_mem _ hw)⟩, fun _ => ⟨B.returns, rfl, rfl, rfl, rfl⟩, B.notSynchronized, ⟨hK, hI, hG⟩, rfl, fun _ h => h, ⟨Nat.zero_le _, Nat.zero_le _⟩, fun _ _ h => by cases h⟩
  have hl := lv_entry (sM (ga G) As) (n := M.2.2.1) (by rw [sl_len]; exact hlen)
  rw [lM_args] at hl
  rw [lg_entry_eq]
  exact h (Wm M.2.2.1 G (Aw (ga G)) 0 0 p l e (rmM M) s m (sM (ga G) As).toArray below meth c _) ⟨fun _ n pc ls st σ hh => wp_sound hcd C (fun _ _ _ _ h => h) n pc ls st σ hh, fun is pc ls st σ hh H locs rls hP hS hl => hh H locs rls hP hS ⟨hl.1, hl.2.1, fun q hq => hl.2.2 q (by
    obtain ⟨q0, h0, rfl⟩ := List.mem_map.mp hq
    exact List.mem_map.mpr ⟨q0, (List.mem_filter.mp h0).1, rfl⟩)⟩⟩ s.heap [] _ hP va_S.rf hl
section CG
variable {p : Program} {l : Launch} {e : Env} {R : Room} {s : State} {m : MethodId} {args : Array Value} {below : List Frame} {meth : Method} {c : Code} {H : Heap} {locs : List Loc} {Q : State → Prop}
/-- behind a call -/
theorem callG {G : Gt} {rt : Rt} {a : Array Value} {pc : Nat} {ls : Array Slot} {st0 rest : List Value} {A0 : Nat → Prop} {H0 : Heap} {cells slots : Nat} (hr : va_Run p l e R s m args below meth c H locs cells slots 0 0 (F0 m pc ls st0) rest (Qg G rt a) (Aw (ga G))) (hS : va_S A0 H0 H locs) (hA : ∀ q, Aw (ga G) q → A0 q)
    (kk : ∀ (r : Option Value) (σ : Sg) (H1 : Heap) (locs1 : List Loc), rt r σ → wP G σ H1 → va_S A0 H0 H1 locs1 → W p l e R s m args below meth c H1 locs1 cells slots Q (F0 m (pc + 3) ls ((r.map (vM (ga G))).toList ++ rest))) : W p l e R s m args below meth c H locs cells slots Q (F0 m pc ls st0) := by
  intro T hT X
  obtain ⟨v, st₀, t, T', L, h0, X', hL, e1, e2, ⟨⟨r, u, hv, hp, hb⟩, hz, hk⟩, st⟩ := hr T hT X
  cases hv
  rw [h0] at hz hk
  obtain ⟨t2, a1, b1⟩ := kk r u T'.heap (locs ++ L) hp (by rw [e1]; exact hb)
    ⟨Nat.le_trans hS.1 (by rw [e1]; exact hz), fun q h1 h2 => by rw [e1, hk q (Nat.lt_of_lt_of_le h1 hS.1) (fun z => h2 (hA q z))]; exact hS.2.1 q h1 h2, fun q hq => by
      rcases List.mem_append.mp hq with h | h
      · exact hS.2.2 q h
      · exact hA _ (hL q h)⟩ T' rfl X'
  exact ⟨t2, st t2 a1, b1⟩
end CG
end
section
/-! STEP FUNCTIONS, each right -/
def lget : Lcs → Nat → Option Value
  | [], _ => none
  | (j, v) :: t, i => bif Nat.beq j i then some v else lget t i
theorem lget_mem : ∀ (ls : Lcs) (i : Nat) (v : Value), lget ls i = some v → (i, v) ∈ ls
  | [], _, _, h => by cases h
  | (j, w) :: t, i, v, h => by
    unfold lget at h
    cases hb : Nat.beq j i with
    | true =>
      rw [hb] at h
      have hj : j = i := Nat.eq_of_beq_eq_true hb
      subst hj
      cases h
      exact List.mem_cons_self
    | false =>
      rw [hb] at h
      exact List.mem_cons_of_mem _ (lget_mem t i v h)
theorem lget_at {ad : Nat → Nat} {rls : Array Slot} {nL : Nat} {ls : Lcs} {i : Nat} {v : Value} (h : lv_has rls nL (lM ad ls)) (hv : lget ls i = some v) : rls[i]? = some (.val (vM ad v)) :=
  h.2.2 (i, vM ad v) (List.mem_map.mpr ⟨(i, v), lget_mem ls i v hv, rfl⟩)
def lins (i : Nat) (v : Value) : Lcs → Lcs
  | [] => [(i, v)]
  | (j, w) :: t => bif Nat.ble j i then (j, w) :: lins i v t else (i, v) :: (j, w) :: t
def lset (ls : Lcs) (i : Nat) (v : Value) : Lcs := lins i v (ls.filter (fun q => !(Nat.beq q.1 i) && !(Nat.beq (q.1 + 1) i && Nat.beq q.2.category 2)))
def lset2 (ls : Lcs) (i : Nat) (v : Value) : Lcs := lins i v (ls.filter (fun q => !(Nat.beq q.1 i) && (!(Nat.beq q.1 (i + 1)) && !(Nat.beq (q.1 + 1) i && Nat.beq q.2.category 2))))
theorem lins_mem {i : Nat} {v : Value} : ∀ (l : Lcs) (q : Nat × Value), q ∈ lins i v l → q = (i, v) ∨ q ∈ l
  | [], q, h => Or.inl (List.mem_singleton.mp h)
  | (j, w) :: t, q, h => by
    unfold lins at h
    cases hb : Nat.ble j i with
    | true =>
      rw [hb] at h
      rcases List.mem_cons.mp h with rfl | h
      · exact Or.inr List.mem_cons_self
      · rcases lins_mem t q h with h | h
        · exact Or.inl h
        · exact Or.inr (List.mem_cons_of_mem _ h)
    | false =>
      rw [hb] at h
      rcases List.mem_cons.mp h with rfl | h
      · exact Or.inl rfl
      · exact Or.inr h
theorem nbeq (a b : Nat) : Nat.beq a b = (a == b) := by
  rw [Bool.eq_iff_iff, beq_iff_eq]
  exact ⟨Nat.eq_of_beq_eq_true, fun h => by rw [h]; exact Nat.beq_refl b⟩
theorem lset_has {ad : Nat → Nat} {rls : Array Slot} {nL : Nat} {ls : Lcs} {i : Nat} {v : Value} (h : lv_has rls nL ((i, vM ad v) :: (lM ad ls).filter (fun q => !(q.1 == i) && !(q.1 + 1 == i && q.2.category == 2)))) : lv_has rls nL (lM ad (lset ls i v)) := by
  refine ⟨h.1, h.2.1, fun q hq => h.2.2 q ?_⟩
  obtain ⟨q0, h0, rfl⟩ := List.mem_map.mp hq
  rcases lins_mem _ _ h0 with rfl | h1
  · exact List.mem_cons_self
  · obtain ⟨h2, h3⟩ := List.mem_filter.mp h1
    refine List.mem_cons_of_mem _ (List.mem_filter.mpr ⟨List.mem_map.mpr ⟨q0, h2, rfl⟩, ?_⟩)
    simp only [nbeq] at h3
    simp only [vM_cat]
    exact h3
theorem lset2_has {ad : Nat → Nat} {rls : Array Slot} {nL : Nat} {ls : Lcs} {i : Nat} {v : Value} (h : lv_has rls nL ((i, vM ad v) :: (lM ad ls).filter (fun q => !(q.1 == i) && (!(q.1 == i + 1) && !(q.1 + 1 == i && q.2.category == 2))))) : lv_has rls nL (lM ad (lset2 ls i v)) := by
  refine ⟨h.1, h.2.1, fun q hq => h.2.2 q ?_⟩
  obtain ⟨q0, h0, rfl⟩ := List.mem_map.mp hq
  rcases lins_mem _ _ h0 with rfl | h1
  · exact List.mem_cons_self
  · obtain ⟨h2, h3⟩ := List.mem_filter.mp h1
    refine List.mem_cons_of_mem _ (List.mem_filter.mpr ⟨List.mem_map.mpr ⟨q0, h2, rfl⟩, ?_⟩)
    simp only [nbeq] at h3
    simp only [vM_cat]
    exact h3
section ST
variable {scr : Scr} {own : String} {cc : ByteArray} {nL : Nat} {ret : Option FieldType} {R0 : Room} {pc : Nat}
def s_pushi (v : Int32) (nx : Nat) : Stf := fun k _ ls st σ => k nx ls (.int v :: st) σ
theorem z_iconst {n : Int} {v : Int32} (hd : decode cc pc = .ok (.iconst n, 1)) (hv : Int32.ofInt n = v) : SndG scr own cc nL ret R0 pc (s_pushi v (pc + 1)) := by
  intro G rt A cells slots p l e R s m args below meth c Q C k hk ls st σ h H locs rls hP hS hl
  exact lv_iconst C.1.1 C.1.2.1 hd hv (hk _ _ _ _ h H locs rls hP hS hl)
theorem z_bipush {n : Int} {v : Int32} (hd : decode cc pc = .ok (.bipush n, 2)) (hv : (Int8.ofInt n).toInt32 = v) : SndG scr own cc nL ret R0 pc (s_pushi v (pc + 2)) := by
  intro G rt A cells slots p l e R s m args below meth c Q C k hk ls st σ h H locs rls hP hS hl
  exact lv_bipush C.1.1 C.1.2.1 hd hv (hk _ _ _ _ h H locs rls hP hS hl)
theorem z_sipush {n : Int} {v : Int32} (hd : decode cc pc = .ok (.sipush n, 3)) (hv : (Int16.ofInt n).toInt32 = v) : SndG scr own cc nL ret R0 pc (s_pushi v (pc + 3)) := by
  intro G rt A cells slots p l e R s m args below meth c Q C k hk ls st σ h H locs rls hP hS hl
  exact lv_sipush C.1.1 C.1.2.1 hd hv (hk _ _ _ _ h H locs rls hP hS hl)
theorem z_ldc {i : Nat} {v : Int32} (hd : decode cc pc = .ok (.ldc i, 2)) (hw : Cond.constant own i v ∈ AW) : SndG scr own cc nL ret R0 pc (s_pushi v (pc + 2)) := by
  intro G rt A cells slots p l e R s m args below meth c Q C k hk ls st σ h H locs rls hP hS hl
  exact lv_ldc C.1.1 C.1.2.1 C.1.2.2.2.1 (C.1.2.2.2.2 _ hw) hd (hk _ _ _ _ h H locs rls hP hS hl)
theorem z_ldcw {i : Nat} {v : Int32} (hd : decode cc pc = .ok (.ldc_w i, 3)) (hw : Cond.constant own i v ∈ AW) : SndG scr own cc nL ret R0 pc (s_pushi v (pc + 3)) := by
  intro G rt A cells slots p l e R s m args below meth c Q C k hk ls st σ h H locs rls hP hS hl
  exact lv_ldcw C.1.1 C.1.2.1 C.1.2.2.2.1 (C.1.2.2.2.2 _ hw) hd (hk _ _ _ _ h H locs rls hP hS hl)
def s_pushl (v : Int64) (nx : Nat) : Stf := fun k _ ls st σ => k nx ls (.long v :: st) σ
theorem z_lconst {n : Fin 2} {v : Int64} (hd : decode cc pc = .ok (.lconst n, 1)) (hv : Int64.ofNat (n : Nat) = v) : SndG scr own cc nL ret R0 pc (s_pushl v (pc + 1)) := by
  intro G rt A cells slots p l e R s m args below meth c Q C k hk ls st σ h H locs rls hP hS hl
  exact lv_lconst C.1.1 C.1.2.1 hd hv (hk _ _ _ _ h H locs rls hP hS hl)
theorem z_ldc2 {i : Nat} {v : Int64} (hd : decode cc pc = .ok (.ldc2_w i, 3)) (hw : Cond.constantLong own i v ∈ AW) : SndG scr own cc nL ret R0 pc (s_pushl v (pc + 3)) := by
  intro G rt A cells slots p l e R s m args below meth c Q C k hk ls st σ h H locs rls hP hS hl
  exact lv_ldc2 C.1.1 C.1.2.1 C.1.2.2.2.1 (C.1.2.2.2.2 _ hw) hd (hk _ _ _ _ h H locs rls hP hS hl)
def s_iload (i nx : Nat) : Stf := fun k _ ls st σ => match lget ls i with
  | some (.int x) => k nx ls (.int x :: st) σ
  | _ => False
theorem z_iload_n {j : Fin 4} {i : Nat} (hd : decode cc pc = .ok (.iload_n j, 1)) (hi : (j : Nat) = i) : SndG scr own cc nL ret R0 pc (s_iload i (pc + 1)) := by
  intro G rt A cells slots p l e R s m args below meth c Q C k hk ls st σ h H locs rls hP hS hl
  unfold s_iload at h
  split at h
  · rename_i x hx
    exact lv_iload_n C.1.1 C.1.2.1 hd hi (lget_at hl hx) (hk _ _ _ _ h H locs rls hP hS hl)
  · exact h.elim
theorem z_iload {i : Nat} (hd : decode cc pc = .ok (.iload i, 2)) : SndG scr own cc nL ret R0 pc (s_iload i (pc + 2)) := by
  intro G rt A cells slots p l e R s m args below meth c Q C k hk ls st σ h H locs rls hP hS hl
  unfold s_iload at h
  split at h
  · rename_i x hx
    exact lv_iload C.1.1 C.1.2.1 hd (lget_at hl hx) (hk _ _ _ _ h H locs rls hP hS hl)
  · exact h.elim
def s_lload (i nx : Nat) : Stf := fun k _ ls st σ => match lget ls i with
  | some (.long x) => k nx ls (.long x :: st) σ
  | _ => False
theorem z_lload_n {j : Fin 4} {i : Nat} (hd : decode cc pc = .ok (.lload_n j, 1)) (hi : (j : Nat) = i) : SndG scr own cc nL ret R0 pc (s_lload i (pc + 1)) := by
  intro G rt A cells slots p l e R s m args below meth c Q C k hk ls st σ h H locs rls hP hS hl
  unfold s_lload at h
  split at h
  · rename_i x hx
    exact lv_lload_n C.1.1 C.1.2.1 hd hi (lget_at hl hx) (hk _ _ _ _ h H locs rls hP hS hl)
  · exact h.elim
theorem z_lload {i : Nat} (hd : decode cc pc = .ok (.lload i, 2)) : SndG scr own cc nL ret R0 pc (s_lload i (pc + 2)) := by
  intro G rt A cells slots p l e R s m args below meth c Q C k hk ls st σ h H locs rls hP hS hl
  unfold s_lload at h
  split at h
  · rename_i x hx
    exact lv_lload C.1.1 C.1.2.1 hd (lget_at hl hx) (hk _ _ _ _ h H locs rls hP hS hl)
  · exact h.elim
def s_aload (i nx : Nat) : Stf := fun k _ ls st σ => match lget ls i with
  | some (.ref x) => k nx ls (.ref x :: st) σ
  | _ => False
theorem z_aload_n {j : Fin 4} {i : Nat} (hd : decode cc pc = .ok (.aload_n j, 1)) (hi : (j : Nat) = i) : SndG scr own cc nL ret R0 pc (s_aload i (pc + 1)) := by
  intro G rt A cells slots p l e R s m args below meth c Q C k hk ls st σ h H locs rls hP hS hl
  unfold s_aload at h
  split at h
  · rename_i x hx
    exact lv_aload_n C.1.1 C.1.2.1 hd hi (lget_at hl hx) (hk _ _ _ _ h H locs rls hP hS hl)
  · exact h.elim
theorem z_aload {i : Nat} (hd : decode cc pc = .ok (.aload i, 2)) : SndG scr own cc nL ret R0 pc (s_aload i (pc + 2)) := by
  intro G rt A cells slots p l e R s m args below meth c Q C k hk ls st σ h H locs rls hP hS hl
  unfold s_aload at h
  split at h
  · rename_i x hx
    exact lv_aload C.1.1 C.1.2.1 hd (lget_at hl hx) (hk _ _ _ _ h H locs rls hP hS hl)
  · exact h.elim
def s_istore (i nx : Nat) : Stf := fun k _ ls st σ => match st with
  | .int x :: r => k nx (lset ls i (.int x)) r σ
  | _ => False
theorem z_istore_n {j : Fin 4} {i : Nat} (hd : decode cc pc = .ok (.istore_n j, 1)) (hi : (j : Nat) = i) (hn : i < nL) : SndG scr own cc nL ret R0 pc (s_istore i (pc + 1)) := by
  intro G rt A cells slots p l e R s m args below meth c Q C k hk ls st σ h H locs rls hP hS hl
  unfold s_istore at h
  split at h
  · exact lv_istore_n C.1.1 C.1.2.1 hd hi hl hn rfl (fun rls' hl' => hk _ _ _ _ h H locs rls' hP hS (lset_has (v := .int _) hl'))
  · exact h.elim
theorem z_istore {i : Nat} (hd : decode cc pc = .ok (.istore i, 2)) (hn : i < nL) : SndG scr own cc nL ret R0 pc (s_istore i (pc + 2)) := by
  intro G rt A cells slots p l e R s m args below meth c Q C k hk ls st σ h H locs rls hP hS hl
  unfold s_istore at h
  split at h
  · exact lv_istore C.1.1 C.1.2.1 hd hl hn rfl (fun rls' hl' => hk _ _ _ _ h H locs rls' hP hS (lset_has (v := .int _) hl'))
  · exact h.elim
def s_lstore (i nx : Nat) : Stf := fun k _ ls st σ => match st with
  | .long x :: r => k nx (lset2 ls i (.long x)) r σ
  | _ => False
theorem z_lstore_n {j : Fin 4} {i : Nat} (hd : decode cc pc = .ok (.lstore_n j, 1)) (hi : (j : Nat) = i) (hn : i + 1 < nL) : SndG scr own cc nL ret R0 pc (s_lstore i (pc + 1)) := by
  intro G rt A cells slots p l e R s m args below meth c Q C k hk ls st σ h H locs rls hP hS hl
  unfold s_lstore at h
  split at h
  · exact lv_lstore_n C.1.1 C.1.2.1 hd hi hl hn rfl (fun rls' hl' => hk _ _ _ _ h H locs rls' hP hS (lset2_has (v := .long _) hl'))
  · exact h.elim
def s_astore (i nx : Nat) : Stf := fun k _ ls st σ => match st with
  | .ref x :: r => k nx (lset ls i (.ref x)) r σ
  | _ => False
theorem z_astore_n {j : Fin 4} {i : Nat} (hd : decode cc pc = .ok (.astore_n j, 1)) (hi : (j : Nat) = i) (hn : i < nL) : SndG scr own cc nL ret R0 pc (s_astore i (pc + 1)) := by
  intro G rt A cells slots p l e R s m args below meth c Q C k hk ls st σ h H locs rls hP hS hl
  unfold s_astore at h
  split at h
  · exact lv_astore_n C.1.1 C.1.2.1 hd hi hl hn rfl (fun rls' hl' => hk _ _ _ _ h H locs rls' hP hS (lset_has (v := .ref _) hl'))
  · exact h.elim
theorem z_astore {i : Nat} (hd : decode cc pc = .ok (.astore i, 2)) (hn : i < nL) : SndG scr own cc nL ret R0 pc (s_astore i (pc + 2)) := by
  intro G rt A cells slots p l e R s m args below meth c Q C k hk ls st σ h H locs rls hP hS hl
  unfold s_astore at h
  split at h
  · exact lv_astore C.1.1 C.1.2.1 hd hl hn rfl (fun rls' hl' => hk _ _ _ _ h H locs rls' hP hS (lset_has (v := .ref _) hl'))
  · exact h.elim
def s_iinc (i : Nat) (n : Int32) (nx : Nat) : Stf := fun k _ ls st σ => match lget ls i with
  | some (.int x) => k nx (lset ls i (.int (x + n))) st σ
  | _ => False
theorem z_iinc {i : Nat} {n : Int} {v : Int32} (hd : decode cc pc = .ok (.iinc i n, 3)) (hv : Int32.ofInt n = v) (hn : i < nL) : SndG scr own cc nL ret R0 pc (s_iinc i v (pc + 3)) := by
  intro G rt A cells slots p l e R s m args below meth c Q C k hk ls st σ h H locs rls hP hS hl
  unfold s_iinc at h
  split at h
  · rename_i x hx
    obtain ⟨j, hj⟩ := List.getElem?_of_mem (List.mem_map.mpr ⟨(i, .int x), lget_mem ls i _ hx, rfl⟩ : (i, vM (ga G) (.int x)) ∈ lM (ga G) ls)
    exact lv_iinc (k := j) C.1.1 C.1.2.1 hd hl hj (by rw [hv]) hn rfl (fun rls' hl' => hk _ _ _ _ h H locs rls' hP hS (lset_has (v := .int _) hl'))
  · exact h.elim
def s_bin (f : Int32 → Int32 → Int32) (nx : Nat) : Stf := fun k _ ls st σ => match st with
  | .int y :: .int x :: r => k nx ls (.int (f x y) :: r) σ
  | _ => False
theorem z_iadd (hd : decode cc pc = .ok (.iadd, 1)) : SndG scr own cc nL ret R0 pc (s_bin (fun x y => x + y) (pc + 1)) := by
  intro G rt A cells slots p l e R s m args below meth c Q C k hk ls st σ h H locs rls hP hS hl
  unfold s_bin at h
  split at h
  · exact lv_iadd C.1.1 C.1.2.1 hd (hk _ _ _ _ h H locs rls hP hS hl)
  · exact h.elim
theorem z_isub (hd : decode cc pc = .ok (.isub, 1)) : SndG scr own cc nL ret R0 pc (s_bin (fun x y => x - y) (pc + 1)) := by
  intro G rt A cells slots p l e R s m args below meth c Q C k hk ls st σ h H locs rls hP hS hl
  unfold s_bin at h
  split at h
  · exact lv_isub C.1.1 C.1.2.1 hd (hk _ _ _ _ h H locs rls hP hS hl)
  · exact h.elim
theorem z_imul (hd : decode cc pc = .ok (.imul, 1)) : SndG scr own cc nL ret R0 pc (s_bin (fun x y => x * y) (pc + 1)) := by
  intro G rt A cells slots p l e R s m args below meth c Q C k hk ls st σ h H locs rls hP hS hl
  unfold s_bin at h
  split at h
  · exact lv_imul C.1.1 C.1.2.1 hd (hk _ _ _ _ h H locs rls hP hS hl)
  · exact h.elim
theorem z_iand (hd : decode cc pc = .ok (.iand, 1)) : SndG scr own cc nL ret R0 pc (s_bin (fun x y => x &&& y) (pc + 1)) := by
  intro G rt A cells slots p l e R s m args below meth c Q C k hk ls st σ h H locs rls hP hS hl
  unfold s_bin at h
  split at h
  · exact lv_iand C.1.1 C.1.2.1 hd (hk _ _ _ _ h H locs rls hP hS hl)
  · exact h.elim
theorem z_ior (hd : decode cc pc = .ok (.ior, 1)) : SndG scr own cc nL ret R0 pc (s_bin (fun x y => x ||| y) (pc + 1)) := by
  intro G rt A cells slots p l e R s m args below meth c Q C k hk ls st σ h H locs rls hP hS hl
  unfold s_bin at h
  split at h
  · exact lv_ior C.1.1 C.1.2.1 hd (hk _ _ _ _ h H locs rls hP hS hl)
  · exact h.elim
theorem z_ixor (hd : decode cc pc = .ok (.ixor, 1)) : SndG scr own cc nL ret R0 pc (s_bin (fun x y => x ^^^ y) (pc + 1)) := by
  intro G rt A cells slots p l e R s m args below meth c Q C k hk ls st σ h H locs rls hP hS hl
  unfold s_bin at h
  split at h
  · exact lv_ixor C.1.1 C.1.2.1 hd (hk _ _ _ _ h H locs rls hP hS hl)
  · exact h.elim
theorem z_ishl (hd : decode cc pc = .ok (.ishl, 1)) : SndG scr own cc nL ret R0 pc (s_bin (fun x y => x <<< (y &&& 31)) (pc + 1)) := by
  intro G rt A cells slots p l e R s m args below meth c Q C k hk ls st σ h H locs rls hP hS hl
  unfold s_bin at h
  split at h
  · exact lv_ishl C.1.1 C.1.2.1 hd (hk _ _ _ _ h H locs rls hP hS hl)
  · exact h.elim
theorem z_ishr (hd : decode cc pc = .ok (.ishr, 1)) : SndG scr own cc nL ret R0 pc (s_bin (fun x y => x >>> (y &&& 31)) (pc + 1)) := by
  intro G rt A cells slots p l e R s m args below meth c Q C k hk ls st σ h H locs rls hP hS hl
  unfold s_bin at h
  split at h
  · exact lv_ishr C.1.1 C.1.2.1 hd (hk _ _ _ _ h H locs rls hP hS hl)
  · exact h.elim
theorem z_iushr (hd : decode cc pc = .ok (.iushr, 1)) : SndG scr own cc nL ret R0 pc (s_bin (fun x y => (x.toUInt32 >>> (y.toUInt32 &&& Int32.toUInt32 31)).toInt32) (pc + 1)) := by
  intro G rt A cells slots p l e R s m args below meth c Q C k hk ls st σ h H locs rls hP hS hl
  unfold s_bin at h
  split at h
  · exact lv_iushr C.1.1 C.1.2.1 hd rfl (hk _ _ _ _ h H locs rls hP hS hl)
  · exact h.elim
def s_div (nx : Nat) : Stf := fun k _ ls st σ => match st with
  | .int y :: .int x :: r => ¬ y = 0 ∧ k nx ls (.int (x / y) :: r) σ
  | _ => False
theorem z_idiv (hd : decode cc pc = .ok (.idiv, 1)) : SndG scr own cc nL ret R0 pc (s_div (pc + 1)) := by
  intro G rt A cells slots p l e R s m args below meth c Q C k hk ls st σ h H locs rls hP hS hl
  unfold s_div at h
  split at h
  · exact lv_idiv C.1.1 C.1.2.1 hd h.1 (hk _ _ _ _ h.2 H locs rls hP hS hl)
  · exact h.elim
def s_rem (nx : Nat) : Stf := fun k _ ls st σ => match st with
  | .int y :: .int x :: r => ¬ y = 0 ∧ k nx ls (.int (x - x / y * y) :: r) σ
  | _ => False
theorem z_irem (hd : decode cc pc = .ok (.irem, 1)) : SndG scr own cc nL ret R0 pc (s_rem (pc + 1)) := by
  intro G rt A cells slots p l e R s m args below meth c Q C k hk ls st σ h H locs rls hP hS hl
  unfold s_rem at h
  split at h
  · exact lv_irem C.1.1 C.1.2.1 hd h.1 (hk _ _ _ _ h.2 H locs rls hP hS hl)
  · exact h.elim
def s_un (f : Int32 → Int32) (nx : Nat) : Stf := fun k _ ls st σ => match st with
  | .int x :: r => k nx ls (.int (f x) :: r) σ
  | _ => False
theorem z_i2b (hd : decode cc pc = .ok (.i2b, 1)) : SndG scr own cc nL ret R0 pc (s_un (fun x => x.toInt8.toInt32) (pc + 1)) := by
  intro G rt A cells slots p l e R s m args below meth c Q C k hk ls st σ h H locs rls hP hS hl
  unfold s_un at h
  split at h
  · exact lv_i2b C.1.1 C.1.2.1 hd rfl (hk _ _ _ _ h H locs rls hP hS hl)
  · exact h.elim
theorem z_i2s (hd : decode cc pc = .ok (.i2s, 1)) : SndG scr own cc nL ret R0 pc (s_un (fun x => x.toInt16.toInt32) (pc + 1)) := by
  intro G rt A cells slots p l e R s m args below meth c Q C k hk ls st σ h H locs rls hP hS hl
  unfold s_un at h
  split at h
  · exact lv_i2s C.1.1 C.1.2.1 hd rfl (hk _ _ _ _ h H locs rls hP hS hl)
  · exact h.elim
def s_i2l (nx : Nat) : Stf := fun k _ ls st σ => match st with
  | .int x :: r => k nx ls (.long x.toInt64 :: r) σ
  | _ => False
theorem z_i2l (hd : decode cc pc = .ok (.i2l, 1)) : SndG scr own cc nL ret R0 pc (s_i2l (pc + 1)) := by
  intro G rt A cells slots p l e R s m args below meth c Q C k hk ls st σ h H locs rls hP hS hl
  unfold s_i2l at h
  split at h
  · exact lv_i2l C.1.1 C.1.2.1 hd rfl (hk _ _ _ _ h H locs rls hP hS hl)
  · exact h.elim
def s_lbin (f : Int64 → Int64 → Int64) (nx : Nat) : Stf := fun k _ ls st σ => match st with
  | .long y :: .long x :: r => k nx ls (.long (f x y) :: r) σ
  | _ => False
theorem z_ladd (hd : decode cc pc = .ok (.ladd, 1)) : SndG scr own cc nL ret R0 pc (s_lbin (fun x y => x + y) (pc + 1)) := by
  intro G rt A cells slots p l e R s m args below meth c Q C k hk ls st σ h H locs rls hP hS hl
  unfold s_lbin at h
  split at h
  · exact lv_ladd C.1.1 C.1.2.1 hd (hk _ _ _ _ h H locs rls hP hS hl)
  · exact h.elim
theorem z_lmul (hd : decode cc pc = .ok (.lmul, 1)) : SndG scr own cc nL ret R0 pc (s_lbin (fun x y => x * y) (pc + 1)) := by
  intro G rt A cells slots p l e R s m args below meth c Q C k hk ls st σ h H locs rls hP hS hl
  unfold s_lbin at h
  split at h
  · exact lv_lmul C.1.1 C.1.2.1 hd (hk _ _ _ _ h H locs rls hP hS hl)
  · exact h.elim
def s_lcmp (nx : Nat) : Stf := fun k _ ls st σ => match st with
  | .long y :: .long x :: r => k nx ls (.int (lg_cmp x y) :: r) σ
  | _ => False
theorem z_lcmp (hd : decode cc pc = .ok (.lcmp, 1)) : SndG scr own cc nL ret R0 pc (s_lcmp (pc + 1)) := by
  intro G rt A cells slots p l e R s m args below meth c Q C k hk ls st σ h H locs rls hP hS hl
  unfold s_lcmp at h
  split at h
  · exact W.lcmp C.1.1 C.1.2.1 hd (hk _ _ _ _ h H locs rls hP hS hl)
  · exact h.elim
def s_dup (nx : Nat) : Stf := fun k _ ls st σ => match st with
  | v :: r => bif Nat.beq v.category 1 then k nx ls (v :: v :: r) σ else False
  | _ => False
theorem z_dup (hd : decode cc pc = .ok (.dup, 1)) : SndG scr own cc nL ret R0 pc (s_dup (pc + 1)) := by
  intro G rt A cells slots p l e R s m args below meth c Q C k hk ls st σ h H locs rls hP hS hl
  unfold s_dup at h
  split at h
  · rename_i v r
    cases hb : Nat.beq v.category 1 with
    | true =>
      rw [hb] at h
      exact lv_dup C.1.1 C.1.2.1 hd (by rw [vM_cat]; exact Nat.eq_of_beq_eq_true hb) (hk _ _ _ _ h H locs rls hP hS hl)
    | false => rw [hb] at h; exact h.elim
  · exact h.elim
def s_pop (nx : Nat) : Stf := fun k _ ls st σ => match st with
  | v :: r => bif Nat.beq v.category 1 then k nx ls r σ else False
  | _ => False
theorem z_pop (hd : decode cc pc = .ok (.pop, 1)) : SndG scr own cc nL ret R0 pc (s_pop (pc + 1)) := by
  intro G rt A cells slots p l e R s m args below meth c Q C k hk ls st σ h H locs rls hP hS hl
  unfold s_pop at h
  split at h
  · rename_i v r
    cases hb : Nat.beq v.category 1 with
    | true =>
      rw [hb] at h
      exact lv_pop C.1.1 C.1.2.1 hd (by rw [vM_cat]; exact Nat.eq_of_beq_eq_true hb) (hk _ _ _ _ h H locs rls hP hS hl)
    | false => rw [hb] at h; exact h.elim
  · exact h.elim
def s_dup2 (nx : Nat) : Stf := fun k _ ls st σ => match st with
  | v :: w :: r => bif Nat.beq v.category 1 && Nat.beq w.category 1 then k nx ls (v :: w :: v :: w :: r) σ else False
  | _ => False
theorem z_dup2 (hd : decode cc pc = .ok (.dup2, 1)) : SndG scr own cc nL ret R0 pc (s_dup2 (pc + 1)) := by
  intro G rt A cells slots p l e R s m args below meth c Q C k hk ls st σ h H locs rls hP hS hl
  unfold s_dup2 at h
  split at h
  · rename_i v w r
    cases hb : (Nat.beq v.category 1 && Nat.beq w.category 1) with
    | true =>
      rw [hb] at h
      obtain ⟨h1, h2⟩ := Bool.and_eq_true_iff.mp hb
      exact lv_dup2_11 C.1.1 C.1.2.1 hd (by rw [vM_cat]; exact Nat.eq_of_beq_eq_true h1) (by rw [vM_cat]; exact Nat.eq_of_beq_eq_true h2) (hk _ _ _ _ h H locs rls hP hS hl)
    | false => rw [hb] at h; exact h.elim
  · exact h.elim
def s_goto (t : Nat) : Stf := fun k _ ls st σ => k t ls st σ
theorem z_goto {off : Int} {t : Nat} (hd : decode cc pc = .ok (.goto off, 3)) (ht : (pc : Int) + off = (t : Int)) : SndG scr own cc nL ret R0 pc (s_goto t) := by
  intro G rt A cells slots p l e R s m args below meth c Q C k hk ls st σ h H locs rls hP hS hl
  exact lv_goto C.1.1 C.1.2.1 hd ht (hk _ _ _ _ h H locs rls hP hS hl)
def s_if (q : Int32 → Prop) (t nx : Nat) : Stf := fun k _ ls st σ => match st with
  | .int x :: r => (q x → k t ls r σ) ∧ (¬ q x → k nx ls r σ)
  | _ => False
def s_icmp (q : Int32 → Int32 → Prop) (t nx : Nat) : Stf := fun k _ ls st σ => match st with
  | .int y :: .int x :: r => (q x y → k t ls r σ) ∧ (¬ q x y → k nx ls r σ)
  | _ => False
theorem z_if_eq {off : Int} {t : Nat} (hd : decode cc pc = .ok (.ifCond .eq off, 3)) (ht : (pc : Int) + off = (t : Int)) : SndG scr own cc nL ret R0 pc (s_if (fun x => x = 0) t (pc + 3)) := by
  intro G rt A cells slots p l e R s m args below meth c Q C k hk ls st σ h H locs rls hP hS hl
  unfold s_if at h
  split at h
  · exact lv_if_eq C.1.1 C.1.2.1 hd ht (fun q => hk _ _ _ _ (h.1 q) H locs rls hP hS hl) (fun q => hk _ _ _ _ (h.2 q) H locs rls hP hS hl)
  · exact h.elim
theorem z_icmp_eq {off : Int} {t : Nat} (hd : decode cc pc = .ok (.if_icmp .eq off, 3)) (ht : (pc : Int) + off = (t : Int)) : SndG scr own cc nL ret R0 pc (s_icmp (fun x y => x = y) t (pc + 3)) := by
  intro G rt A cells slots p l e R s m args below meth c Q C k hk ls st σ h H locs rls hP hS hl
  unfold s_icmp at h
  split at h
  · exact lv_icmp_eq C.1.1 C.1.2.1 hd ht (fun q => hk _ _ _ _ (h.1 q) H locs rls hP hS hl) (fun q => hk _ _ _ _ (h.2 q) H locs rls hP hS hl)
  · exact h.elim
theorem z_if_ne {off : Int} {t : Nat} (hd : decode cc pc = .ok (.ifCond .ne off, 3)) (ht : (pc : Int) + off = (t : Int)) : SndG scr own cc nL ret R0 pc (s_if (fun x => x = 0) (pc + 3) t) := by
  intro G rt A cells slots p l e R s m args below meth c Q C k hk ls st σ h H locs rls hP hS hl
  unfold s_if at h
  split at h
  · exact lv_if_ne C.1.1 C.1.2.1 hd ht (fun q => hk _ _ _ _ (h.2 q) H locs rls hP hS hl) (fun q => hk _ _ _ _ (h.1 q) H locs rls hP hS hl)
  · exact h.elim
theorem z_icmp_ne {off : Int} {t : Nat} (hd : decode cc pc = .ok (.if_icmp .ne off, 3)) (ht : (pc : Int) + off = (t : Int)) : SndG scr own cc nL ret R0 pc (s_icmp (fun x y => x = y) (pc + 3) t) := by
  intro G rt A cells slots p l e R s m args below meth c Q C k hk ls st σ h H locs rls hP hS hl
  unfold s_icmp at h
  split at h
  · exact lv_icmp_ne C.1.1 C.1.2.1 hd ht (fun q => hk _ _ _ _ (h.2 q) H locs rls hP hS hl) (fun q => hk _ _ _ _ (h.1 q) H locs rls hP hS hl)
  · exact h.elim
theorem z_if_lt {off : Int} {t : Nat} (hd : decode cc pc = .ok (.ifCond .lt off, 3)) (ht : (pc : Int) + off = (t : Int)) : SndG scr own cc nL ret R0 pc (s_if (fun x => x < 0) t (pc + 3)) := by
  intro G rt A cells slots p l e R s m args below meth c Q C k hk ls st σ h H locs rls hP hS hl
  unfold s_if at h
  split at h
  · exact lv_if_lt C.1.1 C.1.2.1 hd ht (fun q => hk _ _ _ _ (h.1 q) H locs rls hP hS hl) (fun q => hk _ _ _ _ (h.2 q) H locs rls hP hS hl)
  · exact h.elim
theorem z_icmp_lt {off : Int} {t : Nat} (hd : decode cc pc = .ok (.if_icmp .lt off, 3)) (ht : (pc : Int) + off = (t : Int)) : SndG scr own cc nL ret R0 pc (s_icmp (fun x y => x < y) t (pc + 3)) := by
  intro G rt A cells slots p l e R s m args below meth c Q C k hk ls st σ h H locs rls hP hS hl
  unfold s_icmp at h
  split at h
  · exact lv_icmp_lt C.1.1 C.1.2.1 hd ht (fun q => hk _ _ _ _ (h.1 q) H locs rls hP hS hl) (fun q => hk _ _ _ _ (h.2 q) H locs rls hP hS hl)
  · exact h.elim
theorem z_if_ge {off : Int} {t : Nat} (hd : decode cc pc = .ok (.ifCond .ge off, 3)) (ht : (pc : Int) + off = (t : Int)) : SndG scr own cc nL ret R0 pc (s_if (fun x => 0 ≤ x) t (pc + 3)) := by
  intro G rt A cells slots p l e R s m args below meth c Q C k hk ls st σ h H locs rls hP hS hl
  unfold s_if at h
  split at h
  · exact lv_if_ge C.1.1 C.1.2.1 hd ht (fun q => hk _ _ _ _ (h.1 q) H locs rls hP hS hl) (fun q => hk _ _ _ _ (h.2 q) H locs rls hP hS hl)
  · exact h.elim
theorem z_icmp_ge {off : Int} {t : Nat} (hd : decode cc pc = .ok (.if_icmp .ge off, 3)) (ht : (pc : Int) + off = (t : Int)) : SndG scr own cc nL ret R0 pc (s_icmp (fun x y => y ≤ x) t (pc + 3)) := by
  intro G rt A cells slots p l e R s m args below meth c Q C k hk ls st σ h H locs rls hP hS hl
  unfold s_icmp at h
  split at h
  · exact lv_icmp_ge C.1.1 C.1.2.1 hd ht (fun q => hk _ _ _ _ (h.1 q) H locs rls hP hS hl) (fun q => hk _ _ _ _ (h.2 q) H locs rls hP hS hl)
  · exact h.elim
theorem z_if_gt {off : Int} {t : Nat} (hd : decode cc pc = .ok (.ifCond .gt off, 3)) (ht : (pc : Int) + off = (t : Int)) : SndG scr own cc nL ret R0 pc (s_if (fun x => 0 < x) t (pc + 3)) := by
  intro G rt A cells slots p l e R s m args below meth c Q C k hk ls st σ h H locs rls hP hS hl
  unfold s_if at h
  split at h
  · exact lv_if_gt C.1.1 C.1.2.1 hd ht (fun q => hk _ _ _ _ (h.1 q) H locs rls hP hS hl) (fun q => hk _ _ _ _ (h.2 q) H locs rls hP hS hl)
  · exact h.elim
theorem z_icmp_gt {off : Int} {t : Nat} (hd : decode cc pc = .ok (.if_icmp .gt off, 3)) (ht : (pc : Int) + off = (t : Int)) : SndG scr own cc nL ret R0 pc (s_icmp (fun x y => y < x) t (pc + 3)) := by
  intro G rt A cells slots p l e R s m args below meth c Q C k hk ls st σ h H locs rls hP hS hl
  unfold s_icmp at h
  split at h
  · exact lv_icmp_gt C.1.1 C.1.2.1 hd ht (fun q => hk _ _ _ _ (h.1 q) H locs rls hP hS hl) (fun q => hk _ _ _ _ (h.2 q) H locs rls hP hS hl)
  · exact h.elim
theorem z_if_le {off : Int} {t : Nat} (hd : decode cc pc = .ok (.ifCond .le off, 3)) (ht : (pc : Int) + off = (t : Int)) : SndG scr own cc nL ret R0 pc (s_if (fun x => x ≤ 0) t (pc + 3)) := by
  intro G rt A cells slots p l e R s m args below meth c Q C k hk ls st σ h H locs rls hP hS hl
  unfold s_if at h
  split at h
  · exact lv_if_le C.1.1 C.1.2.1 hd ht (fun q => hk _ _ _ _ (h.1 q) H locs rls hP hS hl) (fun q => hk _ _ _ _ (h.2 q) H locs rls hP hS hl)
  · exact h.elim
theorem z_icmp_le {off : Int} {t : Nat} (hd : decode cc pc = .ok (.if_icmp .le off, 3)) (ht : (pc : Int) + off = (t : Int)) : SndG scr own cc nL ret R0 pc (s_icmp (fun x y => x ≤ y) t (pc + 3)) := by
  intro G rt A cells slots p l e R s m args below meth c Q C k hk ls st σ h H locs rls hP hS hl
  unfold s_icmp at h
  split at h
  · exact lv_icmp_le C.1.1 C.1.2.1 hd ht (fun q => hk _ _ _ _ (h.1 q) H locs rls hP hS hl) (fun q => hk _ _ _ _ (h.2 q) H locs rls hP hS hl)
  · exact h.elim
/-- switches: one case behind another -/
def s_cases (k : Kt) (ls : Lcs) (r : List Value) (σ : Sg) (x : Int32) (d : Nat) : List (Int32 × Nat) → Prop
  | [] => k d ls r σ
  | (v, t) :: cs => (x = v → k t ls r σ) ∧ (¬ x = v → s_cases k ls r σ x d cs)
def s_sw (cs : List (Int32 × Nat)) (d : Nat) : Stf := fun k _ ls st σ => match st with
  | .int x :: r => s_cases k ls r σ x d cs
  | _ => False
theorem s_cases_spec {k : Kt} {ls : Lcs} {r : List Value} {σ : Sg} {x : Int32} {d : Nat} : ∀ (cs : List (Int32 × Nat)), s_cases k ls r σ x d cs → (∃ q ∈ cs, x = q.1 ∧ k q.2 ls r σ) ∨ ((∀ q ∈ cs, ¬ x = q.1) ∧ k d ls r σ)
  | [], h => Or.inr ⟨fun q hq => absurd hq List.not_mem_nil, h⟩
  | (v, t) :: cs, h => by
    by_cases hx : x = v
    · exact Or.inl ⟨(v, t), List.mem_cons_self, hx, h.1 hx⟩
    · rcases s_cases_spec cs (h.2 hx) with ⟨q, h1, h2⟩ | ⟨h1, h2⟩
      · exact Or.inl ⟨q, List.mem_cons_of_mem _ h1, h2⟩
      · refine Or.inr ⟨fun q hq => ?_, h2⟩
        rcases List.mem_cons.mp hq with rfl | hq
        · exact hx
        · exact h1 q hq
/-- a table of the numbers from lo on -/
def twOk (pc lo : Nat) (offs : List Int) (cs : List (Int32 × Nat)) : Bool := cs.zipIdx.all (fun q => decide (q.1.1.toInt = (lo : Int) + q.2) && decide (offs[q.2]? = some ((q.1.2 : Int) - pc))) && Nat.beq cs.length offs.length
theorem z_tsw {dflt : Int} {lo hi : Nat} {offs : Array Int} {len d : Nat} {cs : List (Int32 × Nat)} (hd : decode cc pc = .ok (.tableswitch dflt lo hi offs, len)) (hd2 : (pc : Int) + dflt = (d : Int)) (hn : cs.length = hi + 1 - lo) (hlo : lo ≤ hi) (hok : twOk pc lo offs.toList cs = true) : SndG scr own cc nL ret R0 pc (s_sw cs d) := by
  intro G rt A cells slots p l e R s m args below meth c Q C k hk ls st σ h H locs rls hP hS hl
  unfold s_sw at h
  obtain ⟨ha, -⟩ := Bool.and_eq_true_iff.mp hok
  have hat : ∀ (i : Nat) (q : Int32 × Nat), cs[i]? = some q → q.1.toInt = (lo : Int) + i ∧ offs[i]? = some ((q.2 : Int) - pc) := by
    intro i q hi
    have h1 := List.all_eq_true.mp ha (q, i) (by
      refine List.mem_of_getElem? (i := i) ?_
      rw [List.getElem?_zipIdx, hi]
      simp)
    obtain ⟨h2, h3⟩ := Bool.and_eq_true_iff.mp h1
    exact ⟨of_decide_eq_true h2, by rw [← Array.getElem?_toList]; exact of_decide_eq_true h3⟩
  split at h
  · rename_i x r
    rcases s_cases_spec cs h with ⟨q, h1, h2, h3⟩ | ⟨h1, h2⟩
    · obtain ⟨i, hi⟩ := List.getElem?_of_mem h1
      obtain ⟨g1, g2⟩ := hat i q hi
      have hil : i < cs.length := (List.getElem?_eq_some_iff.mp hi).1
      subst h2
      refine lv_tableIn C.1.1 C.1.2.1 hd (by omega) (by omega) (off := (q.2 : Int) - pc) ?_ (tgt := q.2) (by omega) (hk _ _ _ _ h3 H locs rls hP hS hl)
      rw [g1, show ((lo : Int) + i - lo).toNat = i by omega]
      exact g2
    · refine lv_tableOut C.1.1 C.1.2.1 hd ?_ hd2 (hk _ _ _ _ h2 H locs rls hP hS hl)
      by_cases hx : x.toInt < lo
      · exact Or.inl hx
      · refine Or.inr ?_
        refine Int.not_le.mp (fun hx2 => ?_)
        have hj : (x.toInt - lo).toNat < cs.length := by omega
        have hget : cs[(x.toInt - lo).toNat]? = some cs[(x.toInt - lo).toNat] := List.getElem?_eq_getElem hj
        obtain ⟨g1, -⟩ := hat _ _ hget
        refine h1 _ (List.mem_of_getElem? hget) (Int32.toInt_inj.mp ?_)
        rw [g1]
        omega
  · exact h.elim
/-- a lookup's pairs -/
def lwOk (pc : Nat) (ps : List (Int × Int)) (cs : List (Int32 × Nat)) : Bool := decide (ps = cs.map (fun q => (q.1.toInt, (q.2 : Int) - pc)))
theorem z_lsw {dflt : Int} {ps : Array (Int × Int)} {len d : Nat} {cs : List (Int32 × Nat)} (hd : decode cc pc = .ok (.lookupswitch dflt ps, len)) (hd2 : (pc : Int) + dflt = (d : Int)) (hp : (ps.toList.zip (ps.toList.drop 1)).all (fun (a, next) => a.1 < next.1) = true) (hok : lwOk pc ps.toList cs = true) : SndG scr own cc nL ret R0 pc (s_sw cs d) := by
  intro G rt A cells slots p l e R s m args below meth c Q C k hk ls st σ h H locs rls hP hS hl
  unfold s_sw at h
  have hps : ps.toList = cs.map (fun q => (q.1.toInt, (q.2 : Int) - pc)) := of_decide_eq_true hok
  split at h
  · rename_i x r
    have key : ∀ cs : List (Int32 × Nat), s_cases k ls r σ x d cs → ∃ t : Nat, Op.lookupswitch.offset (cs.map (fun q => (q.1.toInt, (q.2 : Int) - pc))) dflt x.toInt = (t : Int) - pc ∧ k t ls r σ := by
      intro cs
      induction cs with
      | nil => intro h; exact ⟨d, by show dflt = _; omega, h⟩
      | cons q cs ih =>
        intro h
        by_cases hx : x = q.1
        · refine ⟨q.2, ?_, h.1 hx⟩
          rw [List.map_cons, Op.lookupswitch.offset_cons, if_pos (by rw [hx])]
        · obtain ⟨t, h1, h2⟩ := ih (h.2 hx)
          refine ⟨t, ?_, h2⟩
          rw [List.map_cons, lv_osw hx rfl]
          exact h1
    obtain ⟨t, h1, h2⟩ := key cs h
    exact lv_lookup (off := (t : Int) - pc) C.1.1 C.1.2.1 hd hp (by rw [hps]; exact h1) (tgt := t) (by omega) (hk _ _ _ _ h2 H locs rls hP hS hl)
  · exact h.elim
def sh (o : Nat) : Option ShE := shL[o]?
/-- a field is read -/
def s_getf (ci kf nx : Nat) : Stf := fun k _ ls st σ => match st with
  | .ref o :: r => match sh o with
    | some (.inl (c', fs)) => bif Nat.beq ci c' then (match fs[kf]? with
      | some f => k nx ls (fvA σ o kf f :: r) σ
      | none => False) else False
    | _ => False
  | _ => False
theorem fvA_M {G : Gt} {σ : Sg} {o kf : Nat} {f : Option Nat} : vM (ga G) (fvA σ o kf f) = fv (ga G) (fun _ => σ o) 0 kf f := by cases f <;> rfl
theorem z_getf {ci kf N idx : Nat} {ref C : String} {T : u_T} (hin : ∀ w ∈ u_ws C T N, w ∈ AW) (hc : vwCl[ci]? = some (C, T, N)) (hkN : kf < N) (hw : Cond.fieldLink own idx ref (T kf).2.1 (T kf).2.2.1 ∈ AW) (href : ref = (T kf).1) (hd : decode cc pc = .ok (.getfield idx, 3)) : SndG scr own cc nL ret R0 pc (s_getf ci kf (pc + 3)) := by
  intro G rt A cells slots p l e R s m args below meth c Q C0 k hk ls st σ h H locs rls hP hS hl
  unfold s_getf at h
  split at h
  · rename_i o r
    split at h
    · rename_i c' fs hsh
      cases hb : Nat.beq ci c' with
      | false => rw [hb] at h; exact h.elim
      | true =>
        rw [hb] at h
        have hcc := Nat.eq_of_beq_eq_true hb
        subst hcc
        dsimp only [cond_true] at h
        split at h
        · rename_i f hf
          refine va_get (D := G.1) (v := vM (ga G) (fvA σ o kf f)) C0.1.1 C0.1.2.1 C0.1.2.2.2.2 hin C0.1.2.2.2.1 C0.2.2.2.1.1 hP o (wW_at hsh) hc kf hkN (C0.1.2.2.2.2 _ hw) (fun x hx => by rw [href]; exact hx) ?_ hd (hk _ _ _ _ h H locs rls hP hS hl)
          rw [List.getElem?_map, List.getElem?_zipIdx, hf, fvA_M]
          simp
        · exact h.elim
    · exact h.elim
  · exact h.elim
/-- an int field is written -/
def s_putf (ty : FieldType) (ci kf nx : Nat) : Stf := fun k _ ls st σ => match st with
  | .int x :: .ref o :: r => match sh o with
    | some (.inl (c', fs)) => bif Nat.beq ci c' then (match fs[kf]? with
      | some none => (narrow ty (.int x) = .int x ∧ fits ty (.int x) = true) ∧ k nx ls r (up2 σ o kf x)
      | _ => False) else False
    | _ => False
  | _ => False
theorem zip_set {α : Type} {G : Gt} {σ : Sg} {o kf : Nat} {fs : List (Option Nat)} {x : Int32} (hf : fs[kf]? = some none) : (fs.zipIdx.map (fun p => fv (ga G) (fun _ => σ o) 0 p.2 p.1)).set kf (.int x) = fs.zipIdx.map (fun p => fv (ga G) (fun _ => upd (σ o) kf x) 0 p.2 p.1) := by
  refine List.ext_getElem? (fun j => ?_)
  have hlt : kf < fs.length := (List.getElem?_eq_some_iff.mp hf).1
  by_cases hj : j = kf
  · subst hj
    rw [List.getElem?_set_self (by rw [List.length_map, List.length_zipIdx]; exact hlt), List.getElem?_map, List.getElem?_zipIdx, hf]
    simp [fv, upd]
  · rw [List.getElem?_set_ne (Ne.symm hj), List.getElem?_map, List.getElem?_map, List.getElem?_zipIdx]
    cases hg : fs[j]? with
    | none => rfl
    | some f => cases f <;> simp [fv, upd, hj]
theorem z_putf {ci kf N idx : Nat} {ref C : String} {T : u_T} {ty : FieldType} (ty0 : Nat → FieldType) (hty : ∀ k, k < N → parseFieldDescriptor (T k).2.2.1 = some (ty0 k)) (hnm : ∀ a, a < N → ∀ b, b < N → a ≠ b → (T a).2.1 ≠ (T b).2.1) (hin : ∀ w ∈ u_ws C T N, w ∈ AW) (hc : vwCl[ci]? = some (C, T, N)) (hkN : kf < N) (hw : Cond.fieldLink own idx ref (T kf).2.1 (T kf).2.2.1 ∈ AW) (href : ref = (T kf).1) (hfin : (T kf).2.2.2 = false) (hdt : parseFieldDescriptor (T kf).2.2.1 = some ty) (hd : decode cc pc = .ok (.putfield idx, 3)) : SndG scr own cc nL ret R0 pc (s_putf ty ci kf (pc + 3)) := by
  intro G rt A cells slots p l e R s m args below meth c Q C0 k hk ls st σ h H locs rls hP hS hl
  unfold s_putf at h
  split at h
  · rename_i x o r
    split at h
    · rename_i c' fs hsh
      cases hb : Nat.beq ci c' with
      | false => rw [hb] at h; exact h.elim
      | true =>
        rw [hb] at h
        have hcc := Nat.eq_of_beq_eq_true hb
        subst hcc
        dsimp only [cond_true] at h
        split at h
        · rename_i hf
          obtain ⟨⟨hn, hfit⟩, h⟩ := h
          refine va_put (D := G.1) (v := .int x) (ty := ty) C0.1.1 C0.1.2.1 C0.1.2.2.2.2 hin ty0 hty hnm C0.1.2.2.2.1 C0.2.2.2.1.1 hP (wW_DA C0.2.2.2.1.2.1 C0.2.2.2.2.2.1) hS o (wW_at hsh) hc kf hkN (C0.1.2.2.2.2 _ hw) (fun x hx => by rw [href]; exact hx) hfin hdt hn hfit ?_ hd (fun H1 locs1 hP1 _ hS1 => ?_)
          · rw [List.length_map, List.length_zipIdx]
            exact (List.getElem?_eq_some_iff.mp hf).1
          · rw [zip_set (α := Unit) hf] at hP1
            have h2 : wP G (up2 σ o kf x) H1 := by
              show va_P G.1 vwCl (wW G (upr σ o (upd (σ o) kf x))) H1
              rw [← wW_set hsh]
              exact hP1
            exact hk _ _ _ _ h H1 locs1 rls h2 hS1 hl
        · exact h.elim
    · exact h.elim
  · exact h.elim
theorem ix_of {i : Int32} {j n : Nat} (h : i = nI j ∧ j < n ∧ j < 2147483648) : vp_in i n ∧ i.toNatClampNeg = j := by
  obtain ⟨rfl, h1, h2⟩ := h
  have hc : (nI j).toNatClampNeg = j := nI_clamp h2
  exact ⟨fun q => q.elim (nI_pos h2) (fun q => by rw [hc] at q; omega), hc⟩
def s_iald (nx : Nat) : Stf := fun k _ ls st σ => match st with
  | .int i :: .ref o :: r => match sh o with
    | some (.inr (.inl n)) => ∃ j, (i = nI j ∧ j < n ∧ j < 2147483648) ∧ k nx ls (.int (σ o j) :: r) σ
    | none => match gsh o with
      | some f => ∃ j, (i = nI j ∧ j < 7 ∧ j < 2147483648) ∧ k nx ls (.int (f j) :: r) σ
      | none => False
    | _ => False
  | _ => False
theorem GLb_gs {G : Gt} {A : Nat → Prop} {U : State} {H : Heap} {o : Nat} {f : Nat → Int32} (h : GLb G A U H) (ho : gsh o = some f) : GS G o A U H ∧ (gsh o).getD kA = f := by
  refine ⟨?_, by rw [ho]; rfl⟩
  unfold gsh at ho
  split at ho
  · exact h.1.1
  · exact h.1.2
  · cases ho
theorem z_iald (hd : decode cc pc = .ok (.iaload, 1)) : SndG scr own cc nL ret R0 pc (s_iald (pc + 1)) := by
  intro G rt A cells slots p l e R s m args below meth c Q C k hk ls st σ h H locs rls hP hS hl
  unfold s_iald at h
  split at h
  · rename_i i o r
    split at h
    · rename_i n hsh
      obtain ⟨j, hj, h⟩ := h
      obtain ⟨h1, h2⟩ := ix_of hj
      refine va_iald (D := G.1) C.1.1 C.1.2.1 C.2.2.2.1.1 hP o 0 (wW_at hsh) rfl h1 hd ?_
      rw [h2]
      exact hk _ _ _ _ h H locs rls hP hS hl
    · split at h
      · rename_i f hf
        obtain ⟨hg, he⟩ := GLb_gs C.2.2.2.1.2.2 hf
        obtain ⟨-, hX, hlt, hA⟩ := hg
        rw [he] at hX
        obtain ⟨j, hj, h⟩ := h
        obtain ⟨h1, h2⟩ := ix_of hj
        refine va_sld C.1.1 C.1.2.1 hX hlt hA hS h1 hd ?_
        rw [h2]
        exact hk _ _ _ _ h H locs rls hP hS hl
      · exact h.elim
    · exact h.elim
  · exact h.elim
def s_iast (nx : Nat) : Stf := fun k _ ls st σ => match st with
  | .int x :: .int i :: .ref o :: r => match sh o with
    | some (.inr (.inl n)) => ∃ j, (i = nI j ∧ j < n ∧ j < 2147483648) ∧ k nx ls r (up2 σ o j x)
    | _ => False
  | _ => False
theorem z_iast (hd : decode cc pc = .ok (.iastore, 1)) : SndG scr own cc nL ret R0 pc (s_iast (pc + 1)) := by
  intro G rt A cells slots p l e R s m args below meth c Q C k hk ls st σ h H locs rls hP hS hl
  unfold s_iast at h
  split at h
  · rename_i x i o r
    split at h
    · rename_i n hsh
      obtain ⟨j, hj, h⟩ := h
      obtain ⟨h1, hc⟩ := ix_of hj
      refine va_iast (D := G.1) C.1.1 C.1.2.1 C.2.2.2.1.1 hP (wW_DA C.2.2.2.1.2.1 C.2.2.2.2.2.1) hS o 0 (wW_at hsh) rfl h1 hd (fun H1 locs1 hP1 _ hS1 => ?_)
      rw [hc] at hP1
      have h2 : wP G (up2 σ o j x) H1 := by
        show va_P G.1 vwCl (wW G (upr σ o (upd (σ o) j x))) H1
        rw [← wW_set hsh]
        exact hP1
      exact hk _ _ _ _ h H1 locs1 rls h2 hS1 hl
    · exact h.elim
  · exact h.elim
def s_aald (nx : Nat) : Stf := fun k _ ls st σ => match st with
  | .int i :: .ref o :: r => match sh o with
    | some (.inr (.inr l)) => ∃ j, (i = nI j ∧ j < l.length ∧ j < 2147483648) ∧ (match l[j]? with
      | some j => k nx ls (.ref j :: r) σ
      | none => False)
    | _ => False
  | _ => False
theorem z_aald (hd : decode cc pc = .ok (.aaload, 1)) : SndG scr own cc nL ret R0 pc (s_aald (pc + 1)) := by
  intro G rt A cells slots p l e R s m args below meth c Q C k hk ls st σ h H locs rls hP hS hl
  unfold s_aald at h
  split at h
  · rename_i i o r
    split at h
    · rename_i q hsh
      obtain ⟨j0, hj0, h⟩ := h
      obtain ⟨h1, hc⟩ := ix_of hj0
      split at h
      · rename_i j hj
        refine va_aldq (D := G.1) C.1.1 C.1.2.1 C.2.2.2.1.1 hP o 1 (wW_at hsh) rfl h1 hd ?_
        rw [hc, hj]
        exact hk _ _ _ _ h H locs rls hP hS hl
      · exact h.elim
    · exact h.elim
  · exact h.elim
/-- the place of a static's row -/
def s_gets (g nx : Nat) : Stf := fun k _ ls st σ => k nx ls (.ref g :: st) σ
theorem z_getsK (ho : own = "MovingMarket$Square") (hd : decode cc pc = .ok (.getstatic 61, 3)) : SndG scr own cc nL ret R0 pc (s_gets 56 (pc + 3)) := by
  intro G rt A cells slots p l e R s m args below meth c Q C k hk ls st σ h H locs rls hP hS hl
  subst ho
  exact va_getsN C.1.1 C.1.2.1 C.2.2.2.1.2.2.1.1.1 hS C.1.2.2.2.1 (va_Nw.use rfl C.2.2.2.1.2.2.2.2.2.1.1) (fun _ h => h) hd (hk _ _ _ _ h H locs rls hP hS hl)
theorem z_getsP (ho : own = "MovingMarket$Square") (hd : decode cc pc = .ok (.getstatic 64, 3)) : SndG scr own cc nL ret R0 pc (s_gets 57 (pc + 3)) := by
  intro G rt A cells slots p l e R s m args below meth c Q C k hk ls st σ h H locs rls hP hS hl
  subst ho
  exact va_getsN C.1.1 C.1.2.1 C.2.2.2.1.2.2.1.2.1 hS C.1.2.2.2.1 (va_Nw.use rfl C.2.2.2.1.2.2.2.2.2.1.2) (fun _ h => h) hd (hk _ _ _ _ h H locs rls hP hS hl)
/-- System.arraycopy of ints -/
def s_copy (nx : Nat) : Stf := fun k _ ls st σ => match st with
  | .int n :: .int dp :: .ref o1 :: .int sp :: .ref o0 :: r => match sh o0, sh o1 with
    | some (.inr (.inl n0)), some (.inr (.inl n1)) => bif Nat.ble (r.map fun v => v.category).sum 8 then ∃ a b c, (sp = nI a ∧ dp = nI b ∧ n = nI c ∧ a + c ≤ n0 ∧ b + c ≤ n1 ∧ a < 2147483648 ∧ b < 2147483648 ∧ c < 2147483648) ∧ k nx ls r (upr σ o1 (va_cpy (σ o0) (σ o1) a b c)) else False
    | _, _ => False
  | _ => False
theorem sM_sum (ad : Nat → Nat) (r : List Value) : ((sM ad r).map fun v => v.category).sum = (r.map fun v => v.category).sum := by
  unfold sM
  rw [List.map_map]
  congr 1
  refine List.map_congr_left (fun v _ => ?_)
  exact vM_cat ad v
theorem z_copy {idx : Nat} (hd : decode cc pc = .ok (.invokestatic idx, 3)) (hw : Cond.methodLink own idx arraycopyName ∈ AW) (hnat : Cond.native arraycopyName ∈ AW) (hstat : Cond.static arraycopyName ∈ AW) (hini : Cond.initialized "java/lang/System" ∈ AW) (hR : 1 ≤ R0.frames ∧ 8 + (nativeFrameWords "java/lang/System" "arraycopy" 5 + 11) ≤ R0.locals) : SndG scr own cc nL ret R0 pc (s_copy (pc + 3)) := by
  intro G rt A cells slots p l e R s m args below meth c Q C k hk ls st σ h H locs rls hP hS hl
  obtain ⟨⟨hx, hb, hml, hown, hts⟩, -, -, ⟨hK, hI, -⟩, hRR, hX⟩ := C
  unfold s_copy at h
  split at h
  · rename_i n dp o1 sp o0 r
    split at h
    · rename_i n0 n1 h0 h1
      cases hq : Nat.ble (r.map fun v => v.category).sum 8 with
      | false => rw [hq] at h; exact h.elim
      | true =>
        rw [hq] at h
        obtain ⟨a, b, z, ⟨rfl, rfl, rfl, a4, a5, b1, b2, b3⟩, h⟩ := h
        have hsum := Nat.le_of_ble_eq_true hq
        have ca : (nI a).toNatClampNeg = a := nI_clamp b1
        have cb : (nI b).toNatClampNeg = b := nI_clamp b2
        have cz : (nI z).toNatClampNeg = z := nI_clamp b3
        refine va_copyi (D := G.1) hx hb (hml.trans hl.1.symm) hown (hts _ hw) (hts _ hnat) (hts _ hstat) (hts _ hini) hK hP (wW_DA hI hX.1) hS o0 o1 0 0 (wW_at h0) (wW_at h1) rfl rfl rfl (nI_pos b1) (nI_pos b2) (nI_pos b3) (by rw [ca, cz]; exact a4) (by rw [cb, cz]; exact a5) (fun _ _ => rfl) (by rw [hRR]; exact hR.1) (by rw [sM_sum, hRR]; omega) hd (fun H1 locs1 hP1 _ hS1 => ?_)
        rw [ca, cb, cz] at hP1
        have h2 : wP G (upr σ o1 (va_cpy (σ o0) (σ o1) a b z)) H1 := by
          show va_P G.1 vwCl (wW G _) H1
          rw [← wW_set h1]
          exact hP1
        exact hk _ _ _ _ h H1 locs1 rls h2 hS1 hl
    · exact h.elim
  · exact h.elim
def s_min (nx : Nat) : Stf := fun k _ ls st σ => match st with
  | .int y :: .int x :: r => bif Nat.ble (r.map fun v => v.category).sum 8 then k nx ls (.int (if y < x then y else x) :: r) σ else False
  | _ => False
theorem z_min {idx : Nat} (hd : decode cc pc = .ok (.invokestatic idx, 3)) (hw : Cond.methodLink own idx Lib.Math.min.name ∈ AW) (hstat : Cond.static Lib.Math.min.name ∈ AW) (hini : Cond.initialized "java/lang/Math" ∈ AW) (hcode : Cond.code Lib.Math.min.name Lib.Math.min.code 2 (some .int) ∈ AW) (hR : 1 ≤ R0.frames ∧ 21 ≤ R0.locals) : SndG scr own cc nL ret R0 pc (s_min (pc + 3)) := by
  intro G rt A cells slots p l e R s m args below meth c Q C k hk ls st σ h H locs rls hP hS hl
  obtain ⟨⟨hx, hb, hml, hown, hts⟩, -, -, -, hRR, hX⟩ := C
  unfold s_min at h
  split at h
  · rename_i y x r
    cases hq : Nat.ble (r.map fun v => v.category).sum 8 with
    | false => rw [hq] at h; exact h.elim
    | true =>
      rw [hq] at h
      have hsum := Nat.le_of_ble_eq_true hq
      exact va_mmin hx hb (hml.trans hl.1.symm) hown (hts _ hw) (hts _ hstat) (hts _ hini) (hts _ hcode) (by rw [hRR]; exact hR.1) (by rw [sM_sum, hRR]; omega) hX.2.1.1 hX.2.1.2 hd (hk _ _ _ _ h H locs rls hP hS hl)
  · exact h.elim
def s_max (nx : Nat) : Stf := fun k _ ls st σ => match st with
  | .int y :: .int x :: r => bif Nat.ble (r.map fun v => v.category).sum 8 then k nx ls (.int (if x < y then y else x) :: r) σ else False
  | _ => False
theorem z_max {idx : Nat} (hd : decode cc pc = .ok (.invokestatic idx, 3)) (hw : Cond.methodLink own idx Lib.Math.max.name ∈ AW) (hstat : Cond.static Lib.Math.max.name ∈ AW) (hini : Cond.initialized "java/lang/Math" ∈ AW) (hcode : Cond.code Lib.Math.max.name Lib.Math.max.code 2 (some .int) ∈ AW) (hR : 1 ≤ R0.frames ∧ 21 ≤ R0.locals) : SndG scr own cc nL ret R0 pc (s_max (pc + 3)) := by
  intro G rt A cells slots p l e R s m args below meth c Q C k hk ls st σ h H locs rls hP hS hl
  obtain ⟨⟨hx, hb, hml, hown, hts⟩, -, -, -, hRR, hX⟩ := C
  unfold s_max at h
  split at h
  · rename_i y x r
    cases hq : Nat.ble (r.map fun v => v.category).sum 8 with
    | false => rw [hq] at h; exact h.elim
    | true =>
      rw [hq] at h
      have hsum := Nat.le_of_ble_eq_true hq
      exact va_mmax hx hb (hml.trans hl.1.symm) hown (hts _ hw) (hts _ hstat) (hts _ hini) (hts _ hcode) (by rw [hRR]; exact hR.1) (by rw [sM_sum, hRR]; omega) hX.2.1.1 hX.2.1.2 hd (hk _ _ _ _ h H locs rls hP hS hl)
  · exact h.elim
def argsV : Nat → List Value → List Value → Option (List Value × Nat × List Value)
  | 0, acc, .ref o :: r => some (acc, o, r)
  | 0, _, _ => none
  | n + 1, acc, a :: r => argsV n (a :: acc) r
  | _ + 1, _, [] => none
def argsS : Nat → List Value → List Value → Option (List Value × List Value)
  | 0, acc, r => some (acc, r)
  | n + 1, acc, a :: r => argsS n (a :: acc) r
  | _ + 1, _, [] => none
theorem argsV_spec : ∀ (n : Nat) (acc st As : List Value) (o : Nat) (r : List Value), argsV n acc st = some (As, o, r) → acc.reverse ++ st = As.reverse ++ .ref o :: r ∧ As.length = n + acc.length
  | 0, acc, st, As, o, r, h => by
    unfold argsV at h
    split at h
    · cases h; exact ⟨rfl, by omega⟩
    · cases h
    · first | contradiction | omega
    · first | contradiction | omega
  | n + 1, acc, [], As, o, r, h => by cases h
  | n + 1, acc, a :: st, As, o, r, h => by
    obtain ⟨h1, h2⟩ := argsV_spec n (a :: acc) st As o r h
    exact ⟨by rw [← h1]; simp, by rw [h2, List.length_cons]; omega⟩
theorem argsS_spec : ∀ (n : Nat) (acc st As : List Value) (r : List Value), argsS n acc st = some (As, r) → acc.reverse ++ st = As.reverse ++ r ∧ As.length = n + acc.length
  | 0, acc, st, As, r, h => by cases h; exact ⟨rfl, by omega⟩
  | n + 1, acc, [], As, r, h => by cases h
  | n + 1, acc, a :: st, As, r, h => by
    obtain ⟨h1, h2⟩ := argsS_spec n (a :: acc) st As r h
    exact ⟨by rw [← h1]; simp, by rw [h2, List.length_cons]; omega⟩
/-- a call of a method of n arguments on an object of class ci -/
def s_inv (M : MI) (ci n nx : Nat) : Stf := fun k _ ls st σ => match argsV n [] st with
  | some (As, o, r) => match sh o with
    | some (.inl (c', _)) => bif Nat.beq ci c' && Nat.ble (r.map fun v => v.category).sum 8 then ∃ rt', Ct M (.ref o :: As) σ rt' ∧ ∀ v σ', rt' v σ' → k nx ls (v.toList ++ r) σ' else False
    | _ => False
  | none => False
theorem vM_toList (ad : Nat → Nat) (v : Option Value) (r : List Value) : (v.map (vM ad)).toList ++ sM ad r = sM ad (v.toList ++ r) := by cases v <;> rfl
theorem good_code {y : MethodName} {b : ByteArray} {n : Nat} {r : Option FieldType} : goodWord (.code y b n r) = true := rfl
theorem GoodIn_wsM {M : MI} (hc : Cond.code M.1 M.2.1 M.2.2.1 M.2.2.2.1 ∈ AW) : GoodIn AW (wsM M) := by
  intro w hw
  have h : w ∈ AW := by
    rcases List.mem_cons.mp hw with rfl | h
    · exact hc
    · exact h
  exact ⟨h, good_of_word (List.mem_filter.mp h).2⟩
theorem GoodIn_one {w : Cond} (h : w ∈ AW) : w ∈ AW ∧ ((w.onTables && w.keeps) = true ∨ ∃ ty, w = .arrayClass ty) := ⟨h, good_of_word (List.mem_filter.mp h).2⟩
theorem z_inv {M : MI} {ci n idx N : Nat} {C : String} {T : u_T} (hc : vwCl[ci]? = some (C, T, N)) (hd : decode cc pc = .ok (.invokevirtual idx, 3)) (w1 : Cond.methodLink own idx M.1 ∈ AW) (w2 : Cond.instanceMethod M.1 ∈ AW) (w3 : Cond.selects C M.1 M.1 ∈ AW) (w4 : Cond.initialized C ∈ AW) (w5 : Cond.code M.1 M.2.1 M.2.2.1 M.2.2.2.1 ∈ AW)
    (hdd : M.1.cls = C ∧ M.1.cls ≠ "java/lang/invoke/MethodHandle" ∧ M.1.cls ≠ "java/lang/invoke/VarHandle" ∧ (parseMethodDescriptor M.1.desc).map (fun d => d.parameters.length) = some n) (hR : M.2.2.2.2.1 + 1 ≤ R0.frames ∧ 8 + (M.2.2.1 + 11) + M.2.2.2.2.2 ≤ R0.locals) : SndG scr own cc nL ret R0 pc (s_inv M ci n (pc + 3)) := by
  intro G rt A cells slots p l e R s m args below meth c Q C0 k hk ls st σ h H locs rls hP hS hl
  obtain ⟨C1, -, hlk, ⟨hK, hI, hG⟩, hRR, hX⟩ := C0
  unfold s_inv at h
  split at h
  · rename_i As o r ha
    obtain ⟨hst, hlen⟩ := argsV_spec n [] st As o r ha
    rw [List.reverse_nil, List.nil_append] at hst
    subst hst
    split at h
    · rename_i c' fs hsh
      cases hb : (Nat.beq ci c' && Nat.ble (r.map fun v => v.category).sum 8) with
      | false => rw [hb] at h; exact h.elim
      | true =>
        rw [hb] at h
        obtain ⟨hb1, hb2⟩ := Bool.and_eq_true_iff.mp hb
        have hcc := Nat.eq_of_beq_eq_true hb1
        subst hcc
        obtain ⟨rt', hM, h⟩ := h
        have hg : GoodIn AW (wsV own idx C M.1 (wsM M)) := by
          intro w hw
          rcases List.mem_append.mp hw with hw | hw
          · simp only [List.mem_cons, List.not_mem_nil, or_false] at hw
            rcases hw with rfl | rfl | rfl | rfl
            · exact GoodIn_one w1
            · exact GoodIn_one w2
            · exact GoodIn_one w3
            · exact GoodIn_one w4
          · exact GoodIn_wsM w5 w hw
        have hst2 : sM (ga G) (As.reverse ++ .ref o :: r) = (sM (ga G) As).reverse ++ .ref (ga G o) :: sM (ga G) r := by
          unfold sM
          rw [List.map_append, List.map_reverse]
          rfl
        rw [hst2]
        refine callG (rt := rt') (va_runV (As := sM (ga G) As) (rest := sM (ga G) r) (b := ga G o) C1 (hM l G) (cwV n C1.2.2.2.2 hg rfl rfl rfl hdd (by rw [hRR]; exact hR)) ⟨PRE_blind, va_recv hK hP hc (wW_at hsh), fun U hU hW => ⟨rfl, by rw [hU]; exact hP, va_K.moved hW.alike hK, hI, ?_⟩⟩ rfl (by rw [List.length_map, hlen]; rfl) hl.1 rfl (lv_room (by rw [sM_sum]; exact Nat.le_of_ble_eq_true hb2)) hd ⟨hX.2.1.1, hX.2.1.2⟩) hS hX.1 (fun v σ' H1 locs1 hv hP1 hS1 => ?_)
        · rw [hU]
          exact GLb.warm hW (GLb.narrow hX.1 (GLb.kept hS.1 hS.2.1 hG))
        · rw [vM_toList]
          exact hk _ _ _ _ (h v σ' hv) H1 locs1 rls hP1 hS1 hl
    · exact h.elim
  · exact h.elim
/-- a call of a static method of n arguments -/
def s_invS (M : MI) (n nx : Nat) : Stf := fun k _ ls st σ => match argsS n [] st with
  | some (As, r) => bif Nat.ble (r.map fun v => v.category).sum 8 then ∃ rt', Ct M As σ rt' ∧ ∀ v σ', rt' v σ' → k nx ls (v.toList ++ r) σ' else False
  | none => False
theorem z_invS {M : MI} {n idx : Nat} (hd : decode cc pc = .ok (.invokestatic idx, 3)) (w1 : Cond.methodLink own idx M.1 ∈ AW) (w2 : Cond.static M.1 ∈ AW) (w4 : Cond.initialized M.1.cls ∈ AW) (w5 : Cond.code M.1 M.2.1 M.2.2.1 M.2.2.2.1 ∈ AW)
    (hdd : M.1.cls ≠ "java/lang/invoke/MethodHandle" ∧ M.1.cls ≠ "java/lang/invoke/VarHandle" ∧ (parseMethodDescriptor M.1.desc).map (fun d => d.parameters.length) = some n) (hR : M.2.2.2.2.1 + 1 ≤ R0.frames ∧ 8 + (M.2.2.1 + 11) + M.2.2.2.2.2 ≤ R0.locals) : SndG scr own cc nL ret R0 pc (s_invS M n (pc + 3)) := by
  intro G rt A cells slots p l e R s m args below meth c Q C0 k hk ls st σ h H locs rls hP hS hl
  obtain ⟨C1, -, hlk, ⟨hK, hI, hG⟩, hRR, hX⟩ := C0
  unfold s_invS at h
  split at h
  · rename_i As r ha
    obtain ⟨hst, hlen⟩ := argsS_spec n [] st As r ha
    rw [List.reverse_nil, List.nil_append] at hst
    subst hst
    cases hb : Nat.ble (r.map fun v => v.category).sum 8 with
    | false => rw [hb] at h; exact h.elim
    | true =>
      rw [hb] at h
      obtain ⟨rt', hM, h⟩ := h
      have hst2 : sM (ga G) (As.reverse ++ r) = (sM (ga G) As).reverse ++ sM (ga G) r := by
        unfold sM
        rw [List.map_append, List.map_reverse]
      rw [hst2]
      refine callG (rt := rt') (va_runS (As := sM (ga G) As) (rest := sM (ga G) r) C1 (hM l G) ⟨callB_of n C1.2.2.2.2 (GoodIn_wsM w5) rfl rfl rfl (C1.2.2.2.2 _ w4) (C1.2.2.2.2 _ w1) hdd (by rw [hRR]; exact hR), C1.2.2.2.2 _ w2⟩ ⟨PRE_blind, fun U hU hW => ⟨rfl, by rw [hU]; exact hP, va_K.moved hW.alike hK, hI, ?_⟩⟩ rfl (by rw [List.length_map, hlen]; rfl) hl.1 rfl (lv_room (by rw [sM_sum]; exact Nat.le_of_ble_eq_true hb)) hd ⟨hX.2.1.1, hX.2.1.2⟩) hS hX.1 (fun v σ' H1 locs1 hv hP1 hS1 => ?_)
      · rw [hU]
        exact GLb.warm hW (GLb.narrow hX.1 (GLb.kept hS.1 hS.2.1 hG))
      · rw [vM_toList]
        exact hk _ _ _ _ (h v σ' hv) H1 locs1 rls hP1 hS1 hl
  · exact h.elim
/-- ends -/
def s_iret : Stf := fun _ rt _ st σ => match st with
  | [.int x] => rt (some (.int x)) σ
  | _ => False
theorem z_iret (hr : ret = some .int) (hd : decode cc pc = .ok (.ireturn, 1)) : SndG scr own cc nL ret R0 pc s_iret := by
  intro G rt A cells slots p l e R s m args below meth c Q C k hk ls st σ h H locs rls hP hS hl
  obtain ⟨⟨hx, hb, hml, hown, hts⟩, hret, hlk, -, hRR, -⟩ := C
  obtain ⟨hret2, hQ, rfl, rfl, rfl⟩ := hret (by rw [hr]; decide)
  unfold s_iret at h
  split at h
  · rename_i x
    subst hQ
    exact W.iret (v := x) hx hb (hret2.trans hr) (fun t ht hW => ⟨⟨some (.int x), σ, rfl, h, by rw [ht]; exact hP⟩, hS.F ht⟩) hS.2.2 hd
  · exact h.elim
def bz (x : Int32) : Prop := x = 0 ∨ x = 1
def s_zret : Stf := fun _ rt _ st σ => match st with
  | [.int x] => bz x ∧ rt (some (.int x)) σ
  | _ => False
theorem bz_nar {x : Int32} (h : bz x) : narrow .boolean (.int x) = .int x := by
  rcases h with rfl | rfl <;> rfl
theorem z_zret (hr : ret = some .boolean) (hd : decode cc pc = .ok (.ireturn, 1)) : SndG scr own cc nL ret R0 pc s_zret := by
  intro G rt A cells slots p l e R s m args below meth c Q C k hk ls st σ h H locs rls hP hS hl
  obtain ⟨⟨hx, hb, hml, hown, hts⟩, hret, hlk, -, hRR, -⟩ := C
  obtain ⟨hret2, hQ, rfl, rfl, rfl⟩ := hret (by rw [hr]; decide)
  unfold s_zret at h
  split at h
  · rename_i x
    subst hQ
    exact W.zret (v := x) hx hb (hret2.trans hr) (bz_nar h.1) (fun t ht hW => ⟨⟨some (.int x), σ, rfl, h.2, by rw [ht]; exact hP⟩, hS.F ht⟩) hS.2.2 hd
  · exact h.elim
def s_vret : Stf := fun _ rt _ st σ => match st with
  | [] => rt none σ
  | _ => False
theorem z_vret (hr : ret = none) (hd : decode cc pc = .ok (.return_, 1)) : SndG scr own cc nL ret R0 pc s_vret := by
  intro G rt A cells slots p l e R s m args below meth c Q C k hk ls st σ h H locs rls hP hS hl
  obtain ⟨⟨hx, hb, hml, hown, hts⟩, hret, hlk, -, hRR, -⟩ := C
  obtain ⟨hret2, hQ, rfl, rfl, rfl⟩ := hret (by rw [hr]; decide)
  unfold s_vret at h
  split at h
  · subst hQ
    exact W.vret hx hb (hret2.trans hr) (fun t ht hW => ⟨⟨none, σ, rfl, h, by rw [ht]; exact hP⟩, hS.F ht⟩) hS.2.2 hd
  · exact h.elim
def s_lret : Stf := fun _ rt _ st σ => match st with
  | [.long x] => rt (some (.long x)) σ
  | _ => False
theorem z_lret (hr : ret = some .long) (hd : decode cc pc = .ok (.lreturn, 1)) : SndG scr own cc nL ret R0 pc s_lret := by
  intro G rt A cells slots p l e R s m args below meth c Q C k hk ls st σ h H locs rls hP hS hl
  obtain ⟨⟨hx, hb, hml, hown, hts⟩, hret, hlk, -, hRR, -⟩ := C
  obtain ⟨hret2, hQ, rfl, rfl, rfl⟩ := hret (by rw [hr]; decide)
  unfold s_lret at h
  split at h
  · rename_i x
    subst hQ
    exact W.lret (v := x) hx hb (hret2.trans hr) (fun t ht hW => ⟨⟨some (.long x), σ, rfl, h, by rw [ht]; exact hP⟩, hS.F ht⟩) hS.2.2 hd
  · exact h.elim
def s_aret : Stf := fun _ rt _ st σ => match st with
  | [.ref x] => rt (some (.ref x)) σ
  | _ => False
theorem z_aret (hr : ret = some (.object "java/lang/String")) (hd : decode cc pc = .ok (.areturn, 1)) : SndG scr own cc nL ret R0 pc s_aret := by
  intro G rt A cells slots p l e R s m args below meth c Q C k hk ls st σ h H locs rls hP hS hl
  obtain ⟨⟨hx, hb, hml, hown, hts⟩, hret, hlk, -, hRR, -⟩ := C
  obtain ⟨hret2, hQ, rfl, rfl, rfl⟩ := hret (by rw [hr]; decide)
  unfold s_aret at h
  split at h
  · rename_i x
    subst hQ
    exact W.aret (v := .ref (ga G x)) hx hb (hret2.trans hr) (Or.inl ⟨_, rfl⟩) (Or.inr ⟨_, rfl⟩) (fun t ht hW => ⟨⟨some (.ref x), σ, rfl, h, by rw [ht]; exact hP⟩, hS.F ht⟩) hS.2.2 hd
  · exact h.elim
end ST
/-- behind a call with its exact end -/
theorem cl {M : MI} {As : List Value} {σ σ' : Sg} {v : Option Value} {k : Kt} {nx : Nat} {ls : Lcs} {r : List Value} (c : Ct M As σ (Ex v σ')) (h : k nx ls (v.toList ++ r) σ') : ∃ rt', Ct M As σ rt' ∧ ∀ v σ', rt' v σ' → k nx ls (v.toList ++ r) σ' := ⟨_, c, fun a b hab => by rw [hab.1, hab.2]; exact h⟩
end
