section
/-- a private method of a class that the tables say can be made, by its rows of tables_1 -/
def lw_okq (q : MethodName × Nat) : Prop := (q.1.cls ≠ "java/lang/invoke/MethodHandle" ∧ q.1.cls ≠ "java/lang/invoke/VarHandle") ∧ Cond.instantiable q.1.cls q.2 ∈ tables_1 ∧ Cond.privateMethod q.1 ∈ tables_1 ∧ Cond.instanceMethod q.1 ∈ tables_1
theorem lw_p0 : lw_okq (⟨"NoonValley$Tape", "appendNumber", "(I)V"⟩, 3) := ⟨⟨by decide +kernel, by decide +kernel⟩, List.mem_of_getElem? (i := 31) (by decide +kernel), List.mem_of_getElem? (i := 408) (by decide +kernel), List.mem_of_getElem? (i := 409) (by decide +kernel)⟩
theorem lw_p1 : lw_okq (⟨"NoonValley$Tape", "skipBlanks", "()V"⟩, 3) := ⟨⟨by decide +kernel, by decide +kernel⟩, List.mem_of_getElem? (i := 31) (by decide +kernel), List.mem_of_getElem? (i := 435) (by decide +kernel), List.mem_of_getElem? (i := 436) (by decide +kernel)⟩
theorem lw_p2 : lw_okq (⟨"NoonValley$Tape", "at", "(I)I"⟩, 3) := ⟨⟨by decide +kernel, by decide +kernel⟩, List.mem_of_getElem? (i := 31) (by decide +kernel), List.mem_of_getElem? (i := 439) (by decide +kernel), List.mem_of_getElem? (i := 440) (by decide +kernel)⟩
theorem lw_p3 : lw_okq (⟨"NoonValley$Tape", "number", "(III)I"⟩, 3) := ⟨⟨by decide +kernel, by decide +kernel⟩, List.mem_of_getElem? (i := 31) (by decide +kernel), List.mem_of_getElem? (i := 443) (by decide +kernel), List.mem_of_getElem? (i := 444) (by decide +kernel)⟩
theorem lw_p4 : lw_okq (⟨"NoonValley$Tape", "isDigit", "(I)Z"⟩, 3) := ⟨⟨by decide +kernel, by decide +kernel⟩, List.mem_of_getElem? (i := 31) (by decide +kernel), List.mem_of_getElem? (i := 447) (by decide +kernel), List.mem_of_getElem? (i := 448) (by decide +kernel)⟩
theorem lw_p5 : lw_okq (⟨"NoonValley$Tape", "statement", "(LNoonValley$Valley;)Z"⟩, 3) := ⟨⟨by decide +kernel, by decide +kernel⟩, List.mem_of_getElem? (i := 31) (by decide +kernel), List.mem_of_getElem? (i := 451) (by decide +kernel), List.mem_of_getElem? (i := 452) (by decide +kernel)⟩
theorem lw_p6 : lw_okq (⟨"NoonValley$Tape", "lineOf", "(LNoonValley$Valley;I)Z"⟩, 3) := ⟨⟨by decide +kernel, by decide +kernel⟩, List.mem_of_getElem? (i := 31) (by decide +kernel), List.mem_of_getElem? (i := 455) (by decide +kernel), List.mem_of_getElem? (i := 456) (by decide +kernel)⟩
theorem lw_p7 : lw_okq (⟨"NoonValley$Tape", "newsOf", "(LNoonValley$Valley;[I)Z"⟩, 3) := ⟨⟨by decide +kernel, by decide +kernel⟩, List.mem_of_getElem? (i := 31) (by decide +kernel), List.mem_of_getElem? (i := 468) (by decide +kernel), List.mem_of_getElem? (i := 469) (by decide +kernel)⟩
theorem lw_p8 : lw_okq (⟨"NoonValley$Tape", "deafOne", "(LNoonValley$Valley;)Z"⟩, 3) := ⟨⟨by decide +kernel, by decide +kernel⟩, List.mem_of_getElem? (i := 31) (by decide +kernel), List.mem_of_getElem? (i := 472) (by decide +kernel), List.mem_of_getElem? (i := 473) (by decide +kernel)⟩
theorem lw_p9 : lw_okq (⟨"NoonValley$Valley", "lookAtLines", "()V"⟩, 16) := ⟨⟨by decide +kernel, by decide +kernel⟩, List.mem_of_getElem? (i := 267) (by decide +kernel), List.mem_of_getElem? (i := 490) (by decide +kernel), List.mem_of_getElem? (i := 491) (by decide +kernel)⟩
theorem lw_p10 : lw_okq (⟨"NoonValley", "valleyAt", "(I)LNoonValley$Valley;"⟩, 14) := ⟨⟨by decide +kernel, by decide +kernel⟩, List.mem_of_getElem? (i := 23) (by decide +kernel), List.mem_of_getElem? (i := 522) (by decide +kernel), List.mem_of_getElem? (i := 523) (by decide +kernel)⟩
theorem lw_p11 : lw_okq (⟨"NoonValley", "planAt", "(I)LNoonValley$Plan;"⟩, 14) := ⟨⟨by decide +kernel, by decide +kernel⟩, List.mem_of_getElem? (i := 23) (by decide +kernel), List.mem_of_getElem? (i := 611) (by decide +kernel), List.mem_of_getElem? (i := 612) (by decide +kernel)⟩
theorem lw_p12 : lw_okq (⟨"NoonValley$Carrying", "carry", "(LNoonValley$Plan;IJI)V"⟩, 5) := ⟨⟨by decide +kernel, by decide +kernel⟩, List.mem_of_getElem? (i := 53) (by decide +kernel), List.mem_of_getElem? (i := 654) (by decide +kernel), List.mem_of_getElem? (i := 655) (by decide +kernel)⟩
theorem lw_p13 : lw_okq (⟨"NoonValley$Carrying", "carryCall", "(LNoonValley$Plan;II)Z"⟩, 5) := ⟨⟨by decide +kernel, by decide +kernel⟩, List.mem_of_getElem? (i := 53) (by decide +kernel), List.mem_of_getElem? (i := 658) (by decide +kernel), List.mem_of_getElem? (i := 659) (by decide +kernel)⟩
theorem lw_p14 : lw_okq (⟨"NoonValley$Carrying", "shout", "(III)Z"⟩, 5) := ⟨⟨by decide +kernel, by decide +kernel⟩, List.mem_of_getElem? (i := 53) (by decide +kernel), List.mem_of_getElem? (i := 662) (by decide +kernel), List.mem_of_getElem? (i := 663) (by decide +kernel)⟩
theorem lw_p15 : lw_okq (⟨"NoonValley$Carrying", "tell", "(II)Z"⟩, 5) := ⟨⟨by decide +kernel, by decide +kernel⟩, List.mem_of_getElem? (i := 53) (by decide +kernel), List.mem_of_getElem? (i := 667) (by decide +kernel), List.mem_of_getElem? (i := 668) (by decide +kernel)⟩
def lw_privs_1 : List (MethodName × Nat) := [(⟨"NoonValley$Tape", "appendNumber", "(I)V"⟩, 3), (⟨"NoonValley$Tape", "skipBlanks", "()V"⟩, 3), (⟨"NoonValley$Tape", "at", "(I)I"⟩, 3), (⟨"NoonValley$Tape", "number", "(III)I"⟩, 3), (⟨"NoonValley$Tape", "isDigit", "(I)Z"⟩, 3), (⟨"NoonValley$Tape", "statement", "(LNoonValley$Valley;)Z"⟩, 3), (⟨"NoonValley$Tape", "lineOf", "(LNoonValley$Valley;I)Z"⟩, 3), (⟨"NoonValley$Tape", "newsOf", "(LNoonValley$Valley;[I)Z"⟩, 3), (⟨"NoonValley$Tape", "deafOne", "(LNoonValley$Valley;)Z"⟩, 3), (⟨"NoonValley$Valley", "lookAtLines", "()V"⟩, 16), (⟨"NoonValley", "valleyAt", "(I)LNoonValley$Valley;"⟩, 14), (⟨"NoonValley", "planAt", "(I)LNoonValley$Plan;"⟩, 14), (⟨"NoonValley$Carrying", "carry", "(LNoonValley$Plan;IJI)V"⟩, 5), (⟨"NoonValley$Carrying", "carryCall", "(LNoonValley$Plan;II)Z"⟩, 5), (⟨"NoonValley$Carrying", "shout", "(III)Z"⟩, 5), (⟨"NoonValley$Carrying", "tell", "(II)Z"⟩, 5)]
theorem lw_r1 : ∀ q ∈ lw_privs_1, lw_okq q := List.forall_mem_cons.mpr ⟨lw_p0, List.forall_mem_cons.mpr ⟨lw_p1, List.forall_mem_cons.mpr ⟨lw_p2, List.forall_mem_cons.mpr ⟨lw_p3, List.forall_mem_cons.mpr ⟨lw_p4, List.forall_mem_cons.mpr ⟨lw_p5, List.forall_mem_cons.mpr ⟨lw_p6, List.forall_mem_cons.mpr ⟨lw_p7, List.forall_mem_cons.mpr ⟨lw_p8, List.forall_mem_cons.mpr ⟨lw_p9, List.forall_mem_cons.mpr ⟨lw_p10, List.forall_mem_cons.mpr ⟨lw_p11, List.forall_mem_cons.mpr ⟨lw_p12, List.forall_mem_cons.mpr ⟨lw_p13, List.forall_mem_cons.mpr ⟨lw_p14, List.forall_mem_cons.mpr ⟨lw_p15, fun _ h => absurd h List.not_mem_nil⟩⟩⟩⟩⟩⟩⟩⟩⟩⟩⟩⟩⟩⟩⟩⟩
theorem lw_p16 : lw_okq (⟨"NoonValley$Spreading", "begin", "(II)V"⟩, 17) := ⟨⟨by decide +kernel, by decide +kernel⟩, List.mem_of_getElem? (i := 76) (by decide +kernel), List.mem_of_getElem? (i := 709) (by decide +kernel), List.mem_of_getElem? (i := 710) (by decide +kernel)⟩
theorem lw_p17 : lw_okq (⟨"NoonValley$Spreading", "arrive", "(II)V"⟩, 17) := ⟨⟨by decide +kernel, by decide +kernel⟩, List.mem_of_getElem? (i := 76) (by decide +kernel), List.mem_of_getElem? (i := 714) (by decide +kernel), List.mem_of_getElem? (i := 715) (by decide +kernel)⟩
theorem lw_p18 : lw_okq (⟨"NoonValley$Spreading", "placeOf", "(I)I"⟩, 17) := ⟨⟨by decide +kernel, by decide +kernel⟩, List.mem_of_getElem? (i := 76) (by decide +kernel), List.mem_of_getElem? (i := 718) (by decide +kernel), List.mem_of_getElem? (i := 719) (by decide +kernel)⟩
theorem lw_p19 : lw_okq (⟨"NoonValley$Spreading", "swap", "()V"⟩, 17) := ⟨⟨by decide +kernel, by decide +kernel⟩, List.mem_of_getElem? (i := 76) (by decide +kernel), List.mem_of_getElem? (i := 728) (by decide +kernel), List.mem_of_getElem? (i := 729) (by decide +kernel)⟩
theorem lw_p20 : lw_okq (⟨"NoonValley$Spreading", "isDone", "(I)Z"⟩, 17) := ⟨⟨by decide +kernel, by decide +kernel⟩, List.mem_of_getElem? (i := 76) (by decide +kernel), List.mem_of_getElem? (i := 732) (by decide +kernel), List.mem_of_getElem? (i := 733) (by decide +kernel)⟩
theorem lw_p21 : lw_okq (⟨"NoonValley$Spreading", "comeToBy", "(III)I"⟩, 17) := ⟨⟨by decide +kernel, by decide +kernel⟩, List.mem_of_getElem? (i := 76) (by decide +kernel), List.mem_of_getElem? (i := 736) (by decide +kernel), List.mem_of_getElem? (i := 737) (by decide +kernel)⟩
theorem lw_p22 : lw_okq (⟨"NoonValley$Spreading", "comeToAfter", "(II)I"⟩, 17) := ⟨⟨by decide +kernel, by decide +kernel⟩, List.mem_of_getElem? (i := 76) (by decide +kernel), List.mem_of_getElem? (i := 740) (by decide +kernel), List.mem_of_getElem? (i := 741) (by decide +kernel)⟩
theorem lw_p23 : lw_okq (⟨"NoonValley$Spreading", "findRows", "(III)V"⟩, 17) := ⟨⟨by decide +kernel, by decide +kernel⟩, List.mem_of_getElem? (i := 76) (by decide +kernel), List.mem_of_getElem? (i := 744) (by decide +kernel), List.mem_of_getElem? (i := 745) (by decide +kernel)⟩
theorem lw_p24 : lw_okq (⟨"NoonValley$Rows", "findAll", "(IIII)V"⟩, 6) := ⟨⟨by decide +kernel, by decide +kernel⟩, List.mem_of_getElem? (i := 82) (by decide +kernel), List.mem_of_getElem? (i := 756) (by decide +kernel), List.mem_of_getElem? (i := 757) (by decide +kernel)⟩
theorem lw_p25 : lw_okq (⟨"NoonValley$Rows", "take", "(III)V"⟩, 6) := ⟨⟨by decide +kernel, by decide +kernel⟩, List.mem_of_getElem? (i := 82) (by decide +kernel), List.mem_of_getElem? (i := 760) (by decide +kernel), List.mem_of_getElem? (i := 761) (by decide +kernel)⟩
theorem lw_p26 : lw_okq (⟨"NoonValley$Spreading", "arriveByAll", "(III)V"⟩, 17) := ⟨⟨by decide +kernel, by decide +kernel⟩, List.mem_of_getElem? (i := 76) (by decide +kernel), List.mem_of_getElem? (i := 766) (by decide +kernel), List.mem_of_getElem? (i := 767) (by decide +kernel)⟩
theorem lw_p27 : lw_okq (⟨"NoonValley$Spreading", "stateAfter", "(II)I"⟩, 17) := ⟨⟨by decide +kernel, by decide +kernel⟩, List.mem_of_getElem? (i := 76) (by decide +kernel), List.mem_of_getElem? (i := 770) (by decide +kernel), List.mem_of_getElem? (i := 771) (by decide +kernel)⟩
theorem lw_p28 : lw_okq (⟨"NoonValley$Spreading", "understands", "(I)I"⟩, 17) := ⟨⟨by decide +kernel, by decide +kernel⟩, List.mem_of_getElem? (i := 76) (by decide +kernel), List.mem_of_getElem? (i := 774) (by decide +kernel), List.mem_of_getElem? (i := 775) (by decide +kernel)⟩
theorem lw_p29 : lw_okq (⟨"NoonValley$Spreading", "isDoneInOne", "()Z"⟩, 17) := ⟨⟨by decide +kernel, by decide +kernel⟩, List.mem_of_getElem? (i := 76) (by decide +kernel), List.mem_of_getElem? (i := 778) (by decide +kernel), List.mem_of_getElem? (i := 779) (by decide +kernel)⟩
theorem lw_p30 : lw_okq (⟨"NoonValley$Spreading", "markGood", "(II)V"⟩, 17) := ⟨⟨by decide +kernel, by decide +kernel⟩, List.mem_of_getElem? (i := 76) (by decide +kernel), List.mem_of_getElem? (i := 791) (by decide +kernel), List.mem_of_getElem? (i := 792) (by decide +kernel)⟩
theorem lw_p31 : lw_okq (⟨"NoonValley$Spreading", "lowestGood", "(III)I"⟩, 17) := ⟨⟨by decide +kernel, by decide +kernel⟩, List.mem_of_getElem? (i := 76) (by decide +kernel), List.mem_of_getElem? (i := 795) (by decide +kernel), List.mem_of_getElem? (i := 796) (by decide +kernel)⟩
def lw_privs_2 : List (MethodName × Nat) := [(⟨"NoonValley$Spreading", "begin", "(II)V"⟩, 17), (⟨"NoonValley$Spreading", "arrive", "(II)V"⟩, 17), (⟨"NoonValley$Spreading", "placeOf", "(I)I"⟩, 17), (⟨"NoonValley$Spreading", "swap", "()V"⟩, 17), (⟨"NoonValley$Spreading", "isDone", "(I)Z"⟩, 17), (⟨"NoonValley$Spreading", "comeToBy", "(III)I"⟩, 17), (⟨"NoonValley$Spreading", "comeToAfter", "(II)I"⟩, 17), (⟨"NoonValley$Spreading", "findRows", "(III)V"⟩, 17), (⟨"NoonValley$Rows", "findAll", "(IIII)V"⟩, 6), (⟨"NoonValley$Rows", "take", "(III)V"⟩, 6), (⟨"NoonValley$Spreading", "arriveByAll", "(III)V"⟩, 17), (⟨"NoonValley$Spreading", "stateAfter", "(II)I"⟩, 17), (⟨"NoonValley$Spreading", "understands", "(I)I"⟩, 17), (⟨"NoonValley$Spreading", "isDoneInOne", "()Z"⟩, 17), (⟨"NoonValley$Spreading", "markGood", "(II)V"⟩, 17), (⟨"NoonValley$Spreading", "lowestGood", "(III)I"⟩, 17)]
theorem lw_r2 : ∀ q ∈ lw_privs_2, lw_okq q := List.forall_mem_cons.mpr ⟨lw_p16, List.forall_mem_cons.mpr ⟨lw_p17, List.forall_mem_cons.mpr ⟨lw_p18, List.forall_mem_cons.mpr ⟨lw_p19, List.forall_mem_cons.mpr ⟨lw_p20, List.forall_mem_cons.mpr ⟨lw_p21, List.forall_mem_cons.mpr ⟨lw_p22, List.forall_mem_cons.mpr ⟨lw_p23, List.forall_mem_cons.mpr ⟨lw_p24, List.forall_mem_cons.mpr ⟨lw_p25, List.forall_mem_cons.mpr ⟨lw_p26, List.forall_mem_cons.mpr ⟨lw_p27, List.forall_mem_cons.mpr ⟨lw_p28, List.forall_mem_cons.mpr ⟨lw_p29, List.forall_mem_cons.mpr ⟨lw_p30, List.forall_mem_cons.mpr ⟨lw_p31, fun _ h => absurd h List.not_mem_nil⟩⟩⟩⟩⟩⟩⟩⟩⟩⟩⟩⟩⟩⟩⟩⟩
theorem lw_p32 : lw_okq (⟨"NoonValley$Spreading", "hoursFromFirst", "(I)I"⟩, 17) := ⟨⟨by decide +kernel, by decide +kernel⟩, List.mem_of_getElem? (i := 76) (by decide +kernel), List.mem_of_getElem? (i := 843) (by decide +kernel), List.mem_of_getElem? (i := 844) (by decide +kernel)⟩
theorem lw_p33 : lw_okq (⟨"NoonValley$Spreading", "openLine", "(II)V"⟩, 17) := ⟨⟨by decide +kernel, by decide +kernel⟩, List.mem_of_getElem? (i := 76) (by decide +kernel), List.mem_of_getElem? (i := 851) (by decide +kernel), List.mem_of_getElem? (i := 852) (by decide +kernel)⟩
theorem lw_p34 : lw_okq (⟨"NoonValley$Shutting", "flood", "(IIII)I"⟩, 5) := ⟨⟨by decide +kernel, by decide +kernel⟩, List.mem_of_getElem? (i := 169) (by decide +kernel), List.mem_of_getElem? (i := 863) (by decide +kernel), List.mem_of_getElem? (i := 864) (by decide +kernel)⟩
theorem lw_p35 : lw_okq (⟨"NoonValley$Shutting", "across", "(II)I"⟩, 5) := ⟨⟨by decide +kernel, by decide +kernel⟩, List.mem_of_getElem? (i := 169) (by decide +kernel), List.mem_of_getElem? (i := 869) (by decide +kernel), List.mem_of_getElem? (i := 870) (by decide +kernel)⟩
theorem lw_p36 : lw_okq (⟨"NoonValley$Shutting", "choose", "(III)I"⟩, 5) := ⟨⟨by decide +kernel, by decide +kernel⟩, List.mem_of_getElem? (i := 169) (by decide +kernel), List.mem_of_getElem? (i := 876) (by decide +kernel), List.mem_of_getElem? (i := 877) (by decide +kernel)⟩
theorem lw_p37 : lw_okq (⟨"NoonValley$Gossip", "search", "(LNoonValley$Valley;)I"⟩, 3) := ⟨⟨by decide +kernel, by decide +kernel⟩, List.mem_of_getElem? (i := 191) (by decide +kernel), List.mem_of_getElem? (i := 888) (by decide +kernel), List.mem_of_getElem? (i := 889) (by decide +kernel)⟩
theorem lw_p38 : lw_okq (⟨"NoonValley$Gossip", "goOn", "(II)Z"⟩, 3) := ⟨⟨by decide +kernel, by decide +kernel⟩, List.mem_of_getElem? (i := 191) (by decide +kernel), List.mem_of_getElem? (i := 908) (by decide +kernel), List.mem_of_getElem? (i := 909) (by decide +kernel)⟩
theorem lw_p39 : lw_okq (⟨"NoonValley$Gossip", "canEnd", "(I)Z"⟩, 3) := ⟨⟨by decide +kernel, by decide +kernel⟩, List.mem_of_getElem? (i := 191) (by decide +kernel), List.mem_of_getElem? (i := 912) (by decide +kernel), List.mem_of_getElem? (i := 913) (by decide +kernel)⟩
theorem lw_p40 : lw_okq (⟨"NoonValley$Trade", "lookAtLines", "(LNoonValley$Valley;I)V"⟩, 3) := ⟨⟨by decide +kernel, by decide +kernel⟩, List.mem_of_getElem? (i := 207) (by decide +kernel), List.mem_of_getElem? (i := 944) (by decide +kernel), List.mem_of_getElem? (i := 945) (by decide +kernel)⟩
theorem lw_p41 : lw_okq (⟨"NoonValley$Trade", "goOn", "(II)V"⟩, 3) := ⟨⟨by decide +kernel, by decide +kernel⟩, List.mem_of_getElem? (i := 207) (by decide +kernel), List.mem_of_getElem? (i := 964) (by decide +kernel), List.mem_of_getElem? (i := 965) (by decide +kernel)⟩
theorem lw_p42 : lw_okq (⟨"NoonValley$Trade", "improve", "(II)V"⟩, 3) := ⟨⟨by decide +kernel, by decide +kernel⟩, List.mem_of_getElem? (i := 207) (by decide +kernel), List.mem_of_getElem? (i := 971) (by decide +kernel), List.mem_of_getElem? (i := 972) (by decide +kernel)⟩
theorem lw_p43 : lw_okq (⟨"NoonValley$Cards", "callOn", "(I)V"⟩, 7) := ⟨⟨by decide +kernel, by decide +kernel⟩, List.mem_of_getElem? (i := 225) (by decide +kernel), List.mem_of_getElem? (i := 1004) (by decide +kernel), List.mem_of_getElem? (i := 1005) (by decide +kernel)⟩
theorem lw_p44 : lw_okq (⟨"NoonValley$Cards", "timeOf", "(I)I"⟩, 7) := ⟨⟨by decide +kernel, by decide +kernel⟩, List.mem_of_getElem? (i := 225) (by decide +kernel), List.mem_of_getElem? (i := 1029) (by decide +kernel), List.mem_of_getElem? (i := 1030) (by decide +kernel)⟩
theorem lw_p45 : lw_okq (⟨"NoonValley$Cards", "slowest", "(I)I"⟩, 7) := ⟨⟨by decide +kernel, by decide +kernel⟩, List.mem_of_getElem? (i := 225) (by decide +kernel), List.mem_of_getElem? (i := 1033) (by decide +kernel), List.mem_of_getElem? (i := 1034) (by decide +kernel)⟩
theorem lw_p46 : lw_okq (⟨"NoonValley$Carrying", "bears", "(LNoonValley$Plan;JI)Z"⟩, 5) := ⟨⟨by decide +kernel, by decide +kernel⟩, List.mem_of_getElem? (i := 53) (by decide +kernel), List.mem_of_getElem? (i := 1050) (by decide +kernel), List.mem_of_getElem? (i := 1051) (by decide +kernel)⟩
theorem lw_p47 : lw_okq (⟨"NoonValley$Carrying", "findBreaking", "(LNoonValley$Plan;JII)Z"⟩, 5) := ⟨⟨by decide +kernel, by decide +kernel⟩, List.mem_of_getElem? (i := 53) (by decide +kernel), List.mem_of_getElem? (i := 1055) (by decide +kernel), List.mem_of_getElem? (i := 1056) (by decide +kernel)⟩
def lw_privs_3 : List (MethodName × Nat) := [(⟨"NoonValley$Spreading", "hoursFromFirst", "(I)I"⟩, 17), (⟨"NoonValley$Spreading", "openLine", "(II)V"⟩, 17), (⟨"NoonValley$Shutting", "flood", "(IIII)I"⟩, 5), (⟨"NoonValley$Shutting", "across", "(II)I"⟩, 5), (⟨"NoonValley$Shutting", "choose", "(III)I"⟩, 5), (⟨"NoonValley$Gossip", "search", "(LNoonValley$Valley;)I"⟩, 3), (⟨"NoonValley$Gossip", "goOn", "(II)Z"⟩, 3), (⟨"NoonValley$Gossip", "canEnd", "(I)Z"⟩, 3), (⟨"NoonValley$Trade", "lookAtLines", "(LNoonValley$Valley;I)V"⟩, 3), (⟨"NoonValley$Trade", "goOn", "(II)V"⟩, 3), (⟨"NoonValley$Trade", "improve", "(II)V"⟩, 3), (⟨"NoonValley$Cards", "callOn", "(I)V"⟩, 7), (⟨"NoonValley$Cards", "timeOf", "(I)I"⟩, 7), (⟨"NoonValley$Cards", "slowest", "(I)I"⟩, 7), (⟨"NoonValley$Carrying", "bears", "(LNoonValley$Plan;JI)Z"⟩, 5), (⟨"NoonValley$Carrying", "findBreaking", "(LNoonValley$Plan;JII)Z"⟩, 5)]
theorem lw_r3 : ∀ q ∈ lw_privs_3, lw_okq q := List.forall_mem_cons.mpr ⟨lw_p32, List.forall_mem_cons.mpr ⟨lw_p33, List.forall_mem_cons.mpr ⟨lw_p34, List.forall_mem_cons.mpr ⟨lw_p35, List.forall_mem_cons.mpr ⟨lw_p36, List.forall_mem_cons.mpr ⟨lw_p37, List.forall_mem_cons.mpr ⟨lw_p38, List.forall_mem_cons.mpr ⟨lw_p39, List.forall_mem_cons.mpr ⟨lw_p40, List.forall_mem_cons.mpr ⟨lw_p41, List.forall_mem_cons.mpr ⟨lw_p42, List.forall_mem_cons.mpr ⟨lw_p43, List.forall_mem_cons.mpr ⟨lw_p44, List.forall_mem_cons.mpr ⟨lw_p45, List.forall_mem_cons.mpr ⟨lw_p46, List.forall_mem_cons.mpr ⟨lw_p47, fun _ h => absurd h List.not_mem_nil⟩⟩⟩⟩⟩⟩⟩⟩⟩⟩⟩⟩⟩⟩⟩⟩
theorem lw_p48 : lw_okq (⟨"NoonValley$Chance", "goOn", "(II)V"⟩, 2) := ⟨⟨by decide +kernel, by decide +kernel⟩, List.mem_of_getElem? (i := 254) (by decide +kernel), List.mem_of_getElem? (i := 1084) (by decide +kernel), List.mem_of_getElem? (i := 1085) (by decide +kernel)⟩
theorem lw_p49 : lw_okq (⟨"NoonValley$Spreading", "spreadAsTold", "(IIII)V"⟩, 17) := ⟨⟨by decide +kernel, by decide +kernel⟩, List.mem_of_getElem? (i := 76) (by decide +kernel), List.mem_of_getElem? (i := 1137) (by decide +kernel), List.mem_of_getElem? (i := 1138) (by decide +kernel)⟩
theorem lw_p50 : lw_okq (⟨"java/lang/Throwable", "fillInStackTrace", "(I)Ljava/lang/Throwable;"⟩, 6) := ⟨⟨by decide +kernel, by decide +kernel⟩, List.mem_of_getElem? (i := 1198) (by decide +kernel), List.mem_of_getElem? (i := 1196) (by decide +kernel), List.mem_of_getElem? (i := 1197) (by decide +kernel)⟩
theorem lw_p51 : lw_okq (⟨"NoonValleyModel", "put", "(I)V"⟩, 64) := ⟨⟨by decide +kernel, by decide +kernel⟩, List.mem_of_getElem? (i := 1224) (by decide +kernel), List.mem_of_getElem? (i := 1433) (by decide +kernel), List.mem_of_getElem? (i := 1434) (by decide +kernel)⟩
theorem lw_p52 : lw_okq (⟨"NoonValleyModel", "readValley", "()Z"⟩, 64) := ⟨⟨by decide +kernel, by decide +kernel⟩, List.mem_of_getElem? (i := 1224) (by decide +kernel), List.mem_of_getElem? (i := 1445) (by decide +kernel), List.mem_of_getElem? (i := 1446) (by decide +kernel)⟩
theorem lw_p53 : lw_okq (⟨"NoonValleyModel", "look", "()I"⟩, 64) := ⟨⟨by decide +kernel, by decide +kernel⟩, List.mem_of_getElem? (i := 1224) (by decide +kernel), List.mem_of_getElem? (i := 1449) (by decide +kernel), List.mem_of_getElem? (i := 1450) (by decide +kernel)⟩
theorem lw_p54 : lw_okq (⟨"NoonValleyModel", "here", "()I"⟩, 64) := ⟨⟨by decide +kernel, by decide +kernel⟩, List.mem_of_getElem? (i := 1224) (by decide +kernel), List.mem_of_getElem? (i := 1453) (by decide +kernel), List.mem_of_getElem? (i := 1454) (by decide +kernel)⟩
theorem lw_p55 : lw_okq (⟨"NoonValleyModel", "fails", "(I)Z"⟩, 64) := ⟨⟨by decide +kernel, by decide +kernel⟩, List.mem_of_getElem? (i := 1224) (by decide +kernel), List.mem_of_getElem? (i := 1457) (by decide +kernel), List.mem_of_getElem? (i := 1458) (by decide +kernel)⟩
theorem lw_p56 : lw_okq (⟨"NoonValleyModel", "number", "(III)Z"⟩, 64) := ⟨⟨by decide +kernel, by decide +kernel⟩, List.mem_of_getElem? (i := 1224) (by decide +kernel), List.mem_of_getElem? (i := 1461) (by decide +kernel), List.mem_of_getElem? (i := 1462) (by decide +kernel)⟩
theorem lw_p57 : lw_okq (⟨"NoonValleyModel", "isDigit", "()Z"⟩, 64) := ⟨⟨by decide +kernel, by decide +kernel⟩, List.mem_of_getElem? (i := 1224) (by decide +kernel), List.mem_of_getElem? (i := 1465) (by decide +kernel), List.mem_of_getElem? (i := 1466) (by decide +kernel)⟩
theorem lw_p58 : lw_okq (⟨"NoonValleyModel", "statement", "(I)Z"⟩, 64) := ⟨⟨by decide +kernel, by decide +kernel⟩, List.mem_of_getElem? (i := 1224) (by decide +kernel), List.mem_of_getElem? (i := 1472) (by decide +kernel), List.mem_of_getElem? (i := 1473) (by decide +kernel)⟩
theorem lw_p59 : lw_okq (⟨"NoonValleyModel", "readLine", "(IZ)Z"⟩, 64) := ⟨⟨by decide +kernel, by decide +kernel⟩, List.mem_of_getElem? (i := 1224) (by decide +kernel), List.mem_of_getElem? (i := 1476) (by decide +kernel), List.mem_of_getElem? (i := 1477) (by decide +kernel)⟩
theorem lw_p60 : lw_okq (⟨"NoonValleyModel", "readBit", "(I[IZ)Z"⟩, 64) := ⟨⟨by decide +kernel, by decide +kernel⟩, List.mem_of_getElem? (i := 1224) (by decide +kernel), List.mem_of_getElem? (i := 1480) (by decide +kernel), List.mem_of_getElem? (i := 1481) (by decide +kernel)⟩
theorem lw_p61 : lw_okq (⟨"NoonValleyModel", "isValley", "(I)Z"⟩, 64) := ⟨⟨by decide +kernel, by decide +kernel⟩, List.mem_of_getElem? (i := 1224) (by decide +kernel), List.mem_of_getElem? (i := 1492) (by decide +kernel), List.mem_of_getElem? (i := 1493) (by decide +kernel)⟩
theorem lw_p62 : lw_okq (⟨"NoonValleyModel", "isLine", "(II)Z"⟩, 64) := ⟨⟨by decide +kernel, by decide +kernel⟩, List.mem_of_getElem? (i := 1224) (by decide +kernel), List.mem_of_getElem? (i := 1500) (by decide +kernel), List.mem_of_getElem? (i := 1501) (by decide +kernel)⟩
theorem lw_p63 : lw_okq (⟨"NoonValleyModel", "isPerson", "(II)Z"⟩, 64) := ⟨⟨by decide +kernel, by decide +kernel⟩, List.mem_of_getElem? (i := 1224) (by decide +kernel), List.mem_of_getElem? (i := 1515) (by decide +kernel), List.mem_of_getElem? (i := 1516) (by decide +kernel)⟩
def lw_privs_4 : List (MethodName × Nat) := [(⟨"NoonValley$Chance", "goOn", "(II)V"⟩, 2), (⟨"NoonValley$Spreading", "spreadAsTold", "(IIII)V"⟩, 17), (⟨"java/lang/Throwable", "fillInStackTrace", "(I)Ljava/lang/Throwable;"⟩, 6), (⟨"NoonValleyModel", "put", "(I)V"⟩, 64), (⟨"NoonValleyModel", "readValley", "()Z"⟩, 64), (⟨"NoonValleyModel", "look", "()I"⟩, 64), (⟨"NoonValleyModel", "here", "()I"⟩, 64), (⟨"NoonValleyModel", "fails", "(I)Z"⟩, 64), (⟨"NoonValleyModel", "number", "(III)Z"⟩, 64), (⟨"NoonValleyModel", "isDigit", "()Z"⟩, 64), (⟨"NoonValleyModel", "statement", "(I)Z"⟩, 64), (⟨"NoonValleyModel", "readLine", "(IZ)Z"⟩, 64), (⟨"NoonValleyModel", "readBit", "(I[IZ)Z"⟩, 64), (⟨"NoonValleyModel", "isValley", "(I)Z"⟩, 64), (⟨"NoonValleyModel", "isLine", "(II)Z"⟩, 64), (⟨"NoonValleyModel", "isPerson", "(II)Z"⟩, 64)]
theorem lw_r4 : ∀ q ∈ lw_privs_4, lw_okq q := List.forall_mem_cons.mpr ⟨lw_p48, List.forall_mem_cons.mpr ⟨lw_p49, List.forall_mem_cons.mpr ⟨lw_p50, List.forall_mem_cons.mpr ⟨lw_p51, List.forall_mem_cons.mpr ⟨lw_p52, List.forall_mem_cons.mpr ⟨lw_p53, List.forall_mem_cons.mpr ⟨lw_p54, List.forall_mem_cons.mpr ⟨lw_p55, List.forall_mem_cons.mpr ⟨lw_p56, List.forall_mem_cons.mpr ⟨lw_p57, List.forall_mem_cons.mpr ⟨lw_p58, List.forall_mem_cons.mpr ⟨lw_p59, List.forall_mem_cons.mpr ⟨lw_p60, List.forall_mem_cons.mpr ⟨lw_p61, List.forall_mem_cons.mpr ⟨lw_p62, List.forall_mem_cons.mpr ⟨lw_p63, fun _ h => absurd h List.not_mem_nil⟩⟩⟩⟩⟩⟩⟩⟩⟩⟩⟩⟩⟩⟩⟩⟩
theorem lw_p64 : lw_okq (⟨"NoonValleyModel", "mayCall", "(IIII)Z"⟩, 64) := ⟨⟨by decide +kernel, by decide +kernel⟩, List.mem_of_getElem? (i := 1224) (by decide +kernel), List.mem_of_getElem? (i := 1519) (by decide +kernel), List.mem_of_getElem? (i := 1520) (by decide +kernel)⟩
theorem lw_p65 : lw_okq (⟨"NoonValleyModel", "joins", "(III)Z"⟩, 64) := ⟨⟨by decide +kernel, by decide +kernel⟩, List.mem_of_getElem? (i := 1224) (by decide +kernel), List.mem_of_getElem? (i := 1523) (by decide +kernel), List.mem_of_getElem? (i := 1524) (by decide +kernel)⟩
theorem lw_p66 : lw_okq (⟨"NoonValleyModel", "works", "(II)Z"⟩, 64) := ⟨⟨by decide +kernel, by decide +kernel⟩, List.mem_of_getElem? (i := 1224) (by decide +kernel), List.mem_of_getElem? (i := 1527) (by decide +kernel), List.mem_of_getElem? (i := 1528) (by decide +kernel)⟩
theorem lw_p67 : lw_okq (⟨"NoonValleyModel", "isPlan", "(I)Z"⟩, 64) := ⟨⟨by decide +kernel, by decide +kernel⟩, List.mem_of_getElem? (i := 1224) (by decide +kernel), List.mem_of_getElem? (i := 1539) (by decide +kernel), List.mem_of_getElem? (i := 1540) (by decide +kernel)⟩
theorem lw_p68 : lw_okq (⟨"NoonValleyModel", "isCall", "(II)Z"⟩, 64) := ⟨⟨by decide +kernel, by decide +kernel⟩, List.mem_of_getElem? (i := 1224) (by decide +kernel), List.mem_of_getElem? (i := 1547) (by decide +kernel), List.mem_of_getElem? (i := 1548) (by decide +kernel)⟩
theorem lw_p69 : lw_okq (⟨"NoonValleyModel", "judge", "(I)V"⟩, 64) := ⟨⟨by decide +kernel, by decide +kernel⟩, List.mem_of_getElem? (i := 1224) (by decide +kernel), List.mem_of_getElem? (i := 1551) (by decide +kernel), List.mem_of_getElem? (i := 1552) (by decide +kernel)⟩
theorem lw_p70 : lw_okq (⟨"NoonValleyModel", "reaches", "(II)I"⟩, 64) := ⟨⟨by decide +kernel, by decide +kernel⟩, List.mem_of_getElem? (i := 1224) (by decide +kernel), List.mem_of_getElem? (i := 1555) (by decide +kernel), List.mem_of_getElem? (i := 1556) (by decide +kernel)⟩
theorem lw_p71 : lw_okq (⟨"NoonValleyModel", "carryAll", "(I)V"⟩, 64) := ⟨⟨by decide +kernel, by decide +kernel⟩, List.mem_of_getElem? (i := 1224) (by decide +kernel), List.mem_of_getElem? (i := 1567) (by decide +kernel), List.mem_of_getElem? (i := 1568) (by decide +kernel)⟩
theorem lw_p72 : lw_okq (⟨"NoonValleyModel", "carry", "(IJI)V"⟩, 64) := ⟨⟨by decide +kernel, by decide +kernel⟩, List.mem_of_getElem? (i := 1224) (by decide +kernel), List.mem_of_getElem? (i := 1571) (by decide +kernel), List.mem_of_getElem? (i := 1572) (by decide +kernel)⟩
theorem lw_p73 : lw_okq (⟨"NoonValleyModel", "tells", "(IIII)V"⟩, 64) := ⟨⟨by decide +kernel, by decide +kernel⟩, List.mem_of_getElem? (i := 1224) (by decide +kernel), List.mem_of_getElem? (i := 1575) (by decide +kernel), List.mem_of_getElem? (i := 1576) (by decide +kernel)⟩
theorem lw_p74 : lw_okq (⟨"NoonValleyModel", "notFor", "(II)I"⟩, 64) := ⟨⟨by decide +kernel, by decide +kernel⟩, List.mem_of_getElem? (i := 1224) (by decide +kernel), List.mem_of_getElem? (i := 1579) (by decide +kernel), List.mem_of_getElem? (i := 1580) (by decide +kernel)⟩
theorem lw_p75 : lw_okq (⟨"NoonValleyModel", "everybody", "(I)I"⟩, 64) := ⟨⟨by decide +kernel, by decide +kernel⟩, List.mem_of_getElem? (i := 1224) (by decide +kernel), List.mem_of_getElem? (i := 1587) (by decide +kernel), List.mem_of_getElem? (i := 1588) (by decide +kernel)⟩
theorem lw_p76 : lw_okq (⟨"NoonValleyModel", "allKnow", "(III)Z"⟩, 64) := ⟨⟨by decide +kernel, by decide +kernel⟩, List.mem_of_getElem? (i := 1224) (by decide +kernel), List.mem_of_getElem? (i := 1595) (by decide +kernel), List.mem_of_getElem? (i := 1596) (by decide +kernel)⟩
theorem lw_p77 : lw_okq (⟨"NoonValleyModel", "mustOf", "(II)I"⟩, 64) := ⟨⟨by decide +kernel, by decide +kernel⟩, List.mem_of_getElem? (i := 1224) (by decide +kernel), List.mem_of_getElem? (i := 1599) (by decide +kernel), List.mem_of_getElem? (i := 1600) (by decide +kernel)⟩
theorem lw_p78 : lw_okq (⟨"NoonValleyModel", "isAsked", "(II)Z"⟩, 64) := ⟨⟨by decide +kernel, by decide +kernel⟩, List.mem_of_getElem? (i := 1224) (by decide +kernel), List.mem_of_getElem? (i := 1607) (by decide +kernel), List.mem_of_getElem? (i := 1608) (by decide +kernel)⟩
theorem lw_p79 : lw_okq (⟨"NoonValleyModel", "leastFrom", "(III)I"⟩, 64) := ⟨⟨by decide +kernel, by decide +kernel⟩, List.mem_of_getElem? (i := 1224) (by decide +kernel), List.mem_of_getElem? (i := 1614) (by decide +kernel), List.mem_of_getElem? (i := 1615) (by decide +kernel)⟩
def lw_privs_5 : List (MethodName × Nat) := [(⟨"NoonValleyModel", "mayCall", "(IIII)Z"⟩, 64), (⟨"NoonValleyModel", "joins", "(III)Z"⟩, 64), (⟨"NoonValleyModel", "works", "(II)Z"⟩, 64), (⟨"NoonValleyModel", "isPlan", "(I)Z"⟩, 64), (⟨"NoonValleyModel", "isCall", "(II)Z"⟩, 64), (⟨"NoonValleyModel", "judge", "(I)V"⟩, 64), (⟨"NoonValleyModel", "reaches", "(II)I"⟩, 64), (⟨"NoonValleyModel", "carryAll", "(I)V"⟩, 64), (⟨"NoonValleyModel", "carry", "(IJI)V"⟩, 64), (⟨"NoonValleyModel", "tells", "(IIII)V"⟩, 64), (⟨"NoonValleyModel", "notFor", "(II)I"⟩, 64), (⟨"NoonValleyModel", "everybody", "(I)I"⟩, 64), (⟨"NoonValleyModel", "allKnow", "(III)Z"⟩, 64), (⟨"NoonValleyModel", "mustOf", "(II)I"⟩, 64), (⟨"NoonValleyModel", "isAsked", "(II)Z"⟩, 64), (⟨"NoonValleyModel", "leastFrom", "(III)I"⟩, 64)]
theorem lw_r5 : ∀ q ∈ lw_privs_5, lw_okq q := List.forall_mem_cons.mpr ⟨lw_p64, List.forall_mem_cons.mpr ⟨lw_p65, List.forall_mem_cons.mpr ⟨lw_p66, List.forall_mem_cons.mpr ⟨lw_p67, List.forall_mem_cons.mpr ⟨lw_p68, List.forall_mem_cons.mpr ⟨lw_p69, List.forall_mem_cons.mpr ⟨lw_p70, List.forall_mem_cons.mpr ⟨lw_p71, List.forall_mem_cons.mpr ⟨lw_p72, List.forall_mem_cons.mpr ⟨lw_p73, List.forall_mem_cons.mpr ⟨lw_p74, List.forall_mem_cons.mpr ⟨lw_p75, List.forall_mem_cons.mpr ⟨lw_p76, List.forall_mem_cons.mpr ⟨lw_p77, List.forall_mem_cons.mpr ⟨lw_p78, List.forall_mem_cons.mpr ⟨lw_p79, fun _ h => absurd h List.not_mem_nil⟩⟩⟩⟩⟩⟩⟩⟩⟩⟩⟩⟩⟩⟩⟩⟩
theorem lw_p80 : lw_okq (⟨"NoonValleyModel", "ask", "(II)V"⟩, 64) := ⟨⟨by decide +kernel, by decide +kernel⟩, List.mem_of_getElem? (i := 1224) (by decide +kernel), List.mem_of_getElem? (i := 1618) (by decide +kernel), List.mem_of_getElem? (i := 1619) (by decide +kernel)⟩
theorem lw_p81 : lw_okq (⟨"NoonValleyModel", "needed", "(III)I"⟩, 64) := ⟨⟨by decide +kernel, by decide +kernel⟩, List.mem_of_getElem? (i := 1224) (by decide +kernel), List.mem_of_getElem? (i := 1622) (by decide +kernel), List.mem_of_getElem? (i := 1623) (by decide +kernel)⟩
theorem lw_p82 : lw_okq (⟨"NoonValleyModel", "rowsLeast", "(III)I"⟩, 64) := ⟨⟨by decide +kernel, by decide +kernel⟩, List.mem_of_getElem? (i := 1224) (by decide +kernel), List.mem_of_getElem? (i := 1626) (by decide +kernel), List.mem_of_getElem? (i := 1627) (by decide +kernel)⟩
theorem lw_p83 : lw_okq (⟨"NoonValleyModel", "tryRow", "(IIIIII)I"⟩, 64) := ⟨⟨by decide +kernel, by decide +kernel⟩, List.mem_of_getElem? (i := 1224) (by decide +kernel), List.mem_of_getElem? (i := 1630) (by decide +kernel), List.mem_of_getElem? (i := 1631) (by decide +kernel)⟩
theorem lw_p84 : lw_okq (⟨"NoonValleyModel", "lowest", "(IIIIIII)Z"⟩, 64) := ⟨⟨by decide +kernel, by decide +kernel⟩, List.mem_of_getElem? (i := 1224) (by decide +kernel), List.mem_of_getElem? (i := 1639) (by decide +kernel), List.mem_of_getElem? (i := 1640) (by decide +kernel)⟩
theorem lw_p85 : lw_okq (⟨"NoonValleyModel", "hasLine", "(III)Z"⟩, 64) := ⟨⟨by decide +kernel, by decide +kernel⟩, List.mem_of_getElem? (i := 1224) (by decide +kernel), List.mem_of_getElem? (i := 1651) (by decide +kernel), List.mem_of_getElem? (i := 1652) (by decide +kernel)⟩
theorem lw_p86 : lw_okq (⟨"NoonValleyModel", "spread", "(IIIIII)I"⟩, 64) := ⟨⟨by decide +kernel, by decide +kernel⟩, List.mem_of_getElem? (i := 1224) (by decide +kernel), List.mem_of_getElem? (i := 1660) (by decide +kernel), List.mem_of_getElem? (i := 1661) (by decide +kernel)⟩
theorem lw_p87 : lw_okq (⟨"NoonValleyModel", "comesTo", "(IIIIII)Z"⟩, 64) := ⟨⟨by decide +kernel, by decide +kernel⟩, List.mem_of_getElem? (i := 1224) (by decide +kernel), List.mem_of_getElem? (i := 1668) (by decide +kernel), List.mem_of_getElem? (i := 1669) (by decide +kernel)⟩
theorem lw_p88 : lw_okq (⟨"NoonValleyModel", "fewestOf", "(I)I"⟩, 64) := ⟨⟨by decide +kernel, by decide +kernel⟩, List.mem_of_getElem? (i := 1224) (by decide +kernel), List.mem_of_getElem? (i := 1676) (by decide +kernel), List.mem_of_getElem? (i := 1677) (by decide +kernel)⟩
theorem lw_p89 : lw_okq (⟨"NoonValleyModel", "holdsAll", "(I)Z"⟩, 64) := ⟨⟨by decide +kernel, by decide +kernel⟩, List.mem_of_getElem? (i := 1224) (by decide +kernel), List.mem_of_getElem? (i := 1680) (by decide +kernel), List.mem_of_getElem? (i := 1681) (by decide +kernel)⟩
theorem lw_p90 : lw_okq (⟨"NoonValleyModel", "gossips", "(III)Z"⟩, 64) := ⟨⟨by decide +kernel, by decide +kernel⟩, List.mem_of_getElem? (i := 1224) (by decide +kernel), List.mem_of_getElem? (i := 1684) (by decide +kernel), List.mem_of_getElem? (i := 1685) (by decide +kernel)⟩
theorem lw_p91 : lw_okq (⟨"NoonValleyModel", "layTrades", "(I)V"⟩, 64) := ⟨⟨by decide +kernel, by decide +kernel⟩, List.mem_of_getElem? (i := 1224) (by decide +kernel), List.mem_of_getElem? (i := 1700) (by decide +kernel), List.mem_of_getElem? (i := 1701) (by decide +kernel)⟩
theorem lw_p92 : lw_okq (⟨"NoonValleyModel", "mayTrade", "(IIII)Z"⟩, 64) := ⟨⟨by decide +kernel, by decide +kernel⟩, List.mem_of_getElem? (i := 1224) (by decide +kernel), List.mem_of_getElem? (i := 1704) (by decide +kernel), List.mem_of_getElem? (i := 1705) (by decide +kernel)⟩
theorem lw_p93 : lw_okq (⟨"NoonValleyModel", "meet", "(II)V"⟩, 64) := ⟨⟨by decide +kernel, by decide +kernel⟩, List.mem_of_getElem? (i := 1224) (by decide +kernel), List.mem_of_getElem? (i := 1711) (by decide +kernel), List.mem_of_getElem? (i := 1712) (by decide +kernel)⟩
theorem lw_p94 : lw_okq (⟨"NoonValleyModel", "isTree", "(I)Z"⟩, 64) := ⟨⟨by decide +kernel, by decide +kernel⟩, List.mem_of_getElem? (i := 1224) (by decide +kernel), List.mem_of_getElem? (i := 1731) (by decide +kernel), List.mem_of_getElem? (i := 1732) (by decide +kernel)⟩
theorem lw_p95 : lw_okq (⟨"NoonValleyModel", "layTree", "(III)V"⟩, 64) := ⟨⟨by decide +kernel, by decide +kernel⟩, List.mem_of_getElem? (i := 1224) (by decide +kernel), List.mem_of_getElem? (i := 1735) (by decide +kernel), List.mem_of_getElem? (i := 1736) (by decide +kernel)⟩
def lw_privs_6 : List (MethodName × Nat) := [(⟨"NoonValleyModel", "ask", "(II)V"⟩, 64), (⟨"NoonValleyModel", "needed", "(III)I"⟩, 64), (⟨"NoonValleyModel", "rowsLeast", "(III)I"⟩, 64), (⟨"NoonValleyModel", "tryRow", "(IIIIII)I"⟩, 64), (⟨"NoonValleyModel", "lowest", "(IIIIIII)Z"⟩, 64), (⟨"NoonValleyModel", "hasLine", "(III)Z"⟩, 64), (⟨"NoonValleyModel", "spread", "(IIIIII)I"⟩, 64), (⟨"NoonValleyModel", "comesTo", "(IIIIII)Z"⟩, 64), (⟨"NoonValleyModel", "fewestOf", "(I)I"⟩, 64), (⟨"NoonValleyModel", "holdsAll", "(I)Z"⟩, 64), (⟨"NoonValleyModel", "gossips", "(III)Z"⟩, 64), (⟨"NoonValleyModel", "layTrades", "(I)V"⟩, 64), (⟨"NoonValleyModel", "mayTrade", "(IIII)Z"⟩, 64), (⟨"NoonValleyModel", "meet", "(II)V"⟩, 64), (⟨"NoonValleyModel", "isTree", "(I)Z"⟩, 64), (⟨"NoonValleyModel", "layTree", "(III)V"⟩, 64)]
theorem lw_r6 : ∀ q ∈ lw_privs_6, lw_okq q := List.forall_mem_cons.mpr ⟨lw_p80, List.forall_mem_cons.mpr ⟨lw_p81, List.forall_mem_cons.mpr ⟨lw_p82, List.forall_mem_cons.mpr ⟨lw_p83, List.forall_mem_cons.mpr ⟨lw_p84, List.forall_mem_cons.mpr ⟨lw_p85, List.forall_mem_cons.mpr ⟨lw_p86, List.forall_mem_cons.mpr ⟨lw_p87, List.forall_mem_cons.mpr ⟨lw_p88, List.forall_mem_cons.mpr ⟨lw_p89, List.forall_mem_cons.mpr ⟨lw_p90, List.forall_mem_cons.mpr ⟨lw_p91, List.forall_mem_cons.mpr ⟨lw_p92, List.forall_mem_cons.mpr ⟨lw_p93, List.forall_mem_cons.mpr ⟨lw_p94, List.forall_mem_cons.mpr ⟨lw_p95, fun _ h => absurd h List.not_mem_nil⟩⟩⟩⟩⟩⟩⟩⟩⟩⟩⟩⟩⟩⟩⟩⟩
theorem lw_p96 : lw_okq (⟨"NoonValleyModel", "isBeside", "(III)Z"⟩, 64) := ⟨⟨by decide +kernel, by decide +kernel⟩, List.mem_of_getElem? (i := 1224) (by decide +kernel), List.mem_of_getElem? (i := 1739) (by decide +kernel), List.mem_of_getElem? (i := 1740) (by decide +kernel)⟩
theorem lw_p97 : lw_okq (⟨"NoonValleyModel", "breaksBy", "(IIIIJ)Z"⟩, 64) := ⟨⟨by decide +kernel, by decide +kernel⟩, List.mem_of_getElem? (i := 1224) (by decide +kernel), List.mem_of_getElem? (i := 1748) (by decide +kernel), List.mem_of_getElem? (i := 1749) (by decide +kernel)⟩
theorem lw_p98 : lw_okq (⟨"NoonValleyModel", "bears", "(IJI)Z"⟩, 64) := ⟨⟨by decide +kernel, by decide +kernel⟩, List.mem_of_getElem? (i := 1224) (by decide +kernel), List.mem_of_getElem? (i := 1752) (by decide +kernel), List.mem_of_getElem? (i := 1753) (by decide +kernel)⟩
theorem lw_p99 : lw_okq (⟨"NoonValleyModel", "choose", "(IIIIJ)V"⟩, 64) := ⟨⟨by decide +kernel, by decide +kernel⟩, List.mem_of_getElem? (i := 1224) (by decide +kernel), List.mem_of_getElem? (i := 1765) (by decide +kernel), List.mem_of_getElem? (i := 1766) (by decide +kernel)⟩
theorem lw_p100 : lw_okq (⟨"NoonValleyModel", "canBegin", "(III)Z"⟩, 64) := ⟨⟨by decide +kernel, by decide +kernel⟩, List.mem_of_getElem? (i := 1224) (by decide +kernel), List.mem_of_getElem? (i := 1783) (by decide +kernel), List.mem_of_getElem? (i := 1784) (by decide +kernel)⟩
theorem lw_p101 : lw_okq (⟨"NoonValleyModel", "isAsTold", "(IIII)Z"⟩, 64) := ⟨⟨by decide +kernel, by decide +kernel⟩, List.mem_of_getElem? (i := 1224) (by decide +kernel), List.mem_of_getElem? (i := 1787) (by decide +kernel), List.mem_of_getElem? (i := 1788) (by decide +kernel)⟩
theorem lw_p102 : lw_okq (⟨"NoonValleyModel", "taleOf", "(III)I"⟩, 64) := ⟨⟨by decide +kernel, by decide +kernel⟩, List.mem_of_getElem? (i := 1224) (by decide +kernel), List.mem_of_getElem? (i := 1791) (by decide +kernel), List.mem_of_getElem? (i := 1792) (by decide +kernel)⟩
theorem lw_p103 : lw_okq (⟨"NoonValleyModel", "goRows", "(IIIIIIII)V"⟩, 64) := ⟨⟨by decide +kernel, by decide +kernel⟩, List.mem_of_getElem? (i := 1224) (by decide +kernel), List.mem_of_getElem? (i := 1795) (by decide +kernel), List.mem_of_getElem? (i := 1796) (by decide +kernel)⟩
def lw_privs_7 : List (MethodName × Nat) := [(⟨"NoonValleyModel", "isBeside", "(III)Z"⟩, 64), (⟨"NoonValleyModel", "breaksBy", "(IIIIJ)Z"⟩, 64), (⟨"NoonValleyModel", "bears", "(IJI)Z"⟩, 64), (⟨"NoonValleyModel", "choose", "(IIIIJ)V"⟩, 64), (⟨"NoonValleyModel", "canBegin", "(III)Z"⟩, 64), (⟨"NoonValleyModel", "isAsTold", "(IIII)Z"⟩, 64), (⟨"NoonValleyModel", "taleOf", "(III)I"⟩, 64), (⟨"NoonValleyModel", "goRows", "(IIIIIIII)V"⟩, 64)]
theorem lw_r7 : ∀ q ∈ lw_privs_7, lw_okq q := List.forall_mem_cons.mpr ⟨lw_p96, List.forall_mem_cons.mpr ⟨lw_p97, List.forall_mem_cons.mpr ⟨lw_p98, List.forall_mem_cons.mpr ⟨lw_p99, List.forall_mem_cons.mpr ⟨lw_p100, List.forall_mem_cons.mpr ⟨lw_p101, List.forall_mem_cons.mpr ⟨lw_p102, List.forall_mem_cons.mpr ⟨lw_p103, fun _ h => absurd h List.not_mem_nil⟩⟩⟩⟩⟩⟩⟩⟩
def lw_privs : List (MethodName × Nat) := lw_privs_1 ++ (lw_privs_2 ++ (lw_privs_3 ++ (lw_privs_4 ++ (lw_privs_5 ++ (lw_privs_6 ++ (lw_privs_7))))))
def lw_tbl : List Cond := k2_sels lw_privs ++ tables_1
theorem lw_privs_ok : ∀ q ∈ lw_privs, lw_okq q := by
  show ∀ q ∈ lw_privs_1 ++ (lw_privs_2 ++ (lw_privs_3 ++ (lw_privs_4 ++ (lw_privs_5 ++ (lw_privs_6 ++ (lw_privs_7)))))), lw_okq q
  exact List.forall_mem_append.mpr ⟨lw_r1, List.forall_mem_append.mpr ⟨lw_r2, List.forall_mem_append.mpr ⟨lw_r3, List.forall_mem_append.mpr ⟨lw_r4, List.forall_mem_append.mpr ⟨lw_r5, List.forall_mem_append.mpr ⟨lw_r6, lw_r7⟩⟩⟩⟩⟩⟩
def RX0 : String := "NoonValley$Cards"
def TX0 : u_T := fun k => match k with
  | 0 => ("NoonValley$Cards", "valley", "LNoonValley$Valley;", false)
  | 1 => ("NoonValley$Cards", "known", "I", false)
  | 2 => ("NoonValley$Cards", "once", "I", false)
  | 3 => ("NoonValley$Cards", "called", "[I", true)
  | 4 => ("NoonValley$Cards", "time", "[I", true)
  | 5 => ("NoonValley$Cards", "children", "[I", true)
  | _ => ("NoonValley$Cards", "order", "[I", true)
def tyX0 : Nat → FieldType := fun k => match k with
  | 0 => .object "NoonValley$Valley"
  | 1 => .int
  | 2 => .int
  | 3 => .array .int
  | 4 => .array .int
  | 5 => .array .int
  | _ => .array .int
abbrev wsX00 : List Cond := u_ws RX0 TX0 7
theorem nmX0 : ∀ a, a < 7 → ∀ b, b < 7 → a ≠ b → (TX0 a).2.1 ≠ (TX0 b).2.1 := by decide +kernel
theorem tyX0_ok : ∀ k, k < 7 → parseFieldDescriptor (TX0 k).2.2.1 = some (tyX0 k) := by decide +kernel
abbrev cX0_init : ByteArray := prog_2_method_1_code
def yX0_init : MethodName := ⟨RX0, "<init>", "()V"⟩
abbrev cX0_hoursTillAllKnow : ByteArray := prog_2_method_2_code
def yX0_hoursTillAllKnow : MethodName := ⟨RX0, "hoursTillAllKnow", "(LNoonValley$Valley;I)I"⟩
abbrev cX0_callOn : ByteArray := prog_2_method_3_code
def yX0_callOn : MethodName := ⟨RX0, "callOn", "(I)V"⟩
abbrev cX0_growTree : ByteArray := prog_2_method_4_code
def yX0_growTree : MethodName := ⟨RX0, "growTree", "(LNoonValley$Valley;I)Z"⟩
abbrev cX0_timeOf : ByteArray := prog_2_method_5_code
def yX0_timeOf : MethodName := ⟨RX0, "timeOf", "(I)I"⟩
abbrev cX0_below : ByteArray := prog_2_method_6_code
def yX0_below : MethodName := ⟨RX0, "below", "(II)I"⟩
abbrev cX0_slowest : ByteArray := prog_2_method_7_code
def yX0_slowest : MethodName := ⟨RX0, "slowest", "(I)I"⟩
def RX1 : String := "NoonValley$Carrying"
def TX1 : u_T := fun k => match k with
  | 0 => ("NoonValley$Carrying", "known", "[I", true)
  | 1 => ("NoonValley$Carrying", "toldOnce", "[I", true)
  | 2 => ("NoonValley$Carrying", "deaf", "I", false)
  | 3 => ("NoonValley$Carrying", "useful", "J", false)
  | _ => ("NoonValley$Carrying", "breaking", "J", false)
def tyX1 : Nat → FieldType := fun k => match k with
  | 0 => .array .int
  | 1 => .array .int
  | 2 => .int
  | 3 => .long
  | _ => .long
abbrev wsX10 : List Cond := u_ws RX1 TX1 5
theorem nmX1 : ∀ a, a < 5 → ∀ b, b < 5 → a ≠ b → (TX1 a).2.1 ≠ (TX1 b).2.1 := by decide +kernel
theorem tyX1_ok : ∀ k, k < 5 → parseFieldDescriptor (TX1 k).2.2.1 = some (tyX1 k) := by decide +kernel
abbrev cX1_init : ByteArray := prog_3_method_1_code
def yX1_init : MethodName := ⟨RX1, "<init>", "()V"⟩
abbrev cX1_carryAll : ByteArray := prog_3_method_2_code
def yX1_carryAll : MethodName := ⟨RX1, "carryAll", "(LNoonValley$Plan;I)V"⟩
abbrev cX1_carry : ByteArray := prog_3_method_3_code
def yX1_carry : MethodName := ⟨RX1, "carry", "(LNoonValley$Plan;IJI)V"⟩
abbrev cX1_carryCall : ByteArray := prog_3_method_4_code
def yX1_carryCall : MethodName := ⟨RX1, "carryCall", "(LNoonValley$Plan;II)Z"⟩
abbrev cX1_shout : ByteArray := prog_3_method_5_code
def yX1_shout : MethodName := ⟨RX1, "shout", "(III)Z"⟩
abbrev cX1_tell : ByteArray := prog_3_method_6_code
def yX1_tell : MethodName := ⟨RX1, "tell", "(II)Z"⟩
abbrev cX1_whoKnows : ByteArray := prog_3_method_7_code
def yX1_whoKnows : MethodName := ⟨RX1, "whoKnows", "(I)I"⟩
abbrev cX1_whoIsToldOnce : ByteArray := prog_3_method_8_code
def yX1_whoIsToldOnce : MethodName := ⟨RX1, "whoIsToldOnce", "(I)I"⟩
abbrev cX1_peopleOfNews : ByteArray := prog_3_method_9_code
def yX1_peopleOfNews : MethodName := ⟨RX1, "peopleOfNews", "([II)I"⟩
abbrev cX1_isBroken : ByteArray := prog_3_method_10_code
def yX1_isBroken : MethodName := ⟨RX1, "isBroken", "(LNoonValley$Valley;)Z"⟩
abbrev cX1_isDone : ByteArray := prog_3_method_11_code
def yX1_isDone : MethodName := ⟨RX1, "isDone", "(LNoonValley$Valley;I)Z"⟩
abbrev cX1_bears : ByteArray := prog_3_method_12_code
def yX1_bears : MethodName := ⟨RX1, "bears", "(LNoonValley$Plan;JI)Z"⟩
abbrev cX1_fewestToBreak : ByteArray := prog_3_method_13_code
def yX1_fewestToBreak : MethodName := ⟨RX1, "fewestToBreak", "(LNoonValley$Plan;)I"⟩
abbrev cX1_findBreaking : ByteArray := prog_3_method_14_code
def yX1_findBreaking : MethodName := ⟨RX1, "findBreaking", "(LNoonValley$Plan;JII)Z"⟩
abbrev cX1_breakingCall : ByteArray := prog_3_method_15_code
def yX1_breakingCall : MethodName := ⟨RX1, "breakingCall", "(I)I"⟩
abbrev cX1_lowestBreaker : ByteArray := prog_3_method_16_code
def yX1_lowestBreaker : MethodName := ⟨RX1, "lowestBreaker", "(LNoonValley$Plan;)I"⟩
def RX2 : String := "NoonValley$Chance"
def TX2 : u_T := fun k => match k with
  | 0 => ("NoonValley$Chance", "now", "[J", false)
  | _ => ("NoonValley$Chance", "next", "[J", false)
def tyX2 : Nat → FieldType := fun k => match k with
  | 0 => .array .long
  | _ => .array .long
abbrev wsX20 : List Cond := u_ws RX2 TX2 2
theorem nmX2 : ∀ a, a < 2 → ∀ b, b < 2 → a ≠ b → (TX2 a).2.1 ≠ (TX2 b).2.1 := by decide +kernel
theorem tyX2_ok : ∀ k, k < 2 → parseFieldDescriptor (TX2 k).2.2.1 = some (tyX2 k) := by decide +kernel
abbrev cX2_init : ByteArray := prog_4_method_1_code
def yX2_init : MethodName := ⟨RX2, "<init>", "()V"⟩
abbrev cX2_countWays : ByteArray := prog_4_method_2_code
def yX2_countWays : MethodName := ⟨RX2, "countWays", "(III)J"⟩
abbrev cX2_goOn : ByteArray := prog_4_method_3_code
def yX2_goOn : MethodName := ⟨RX2, "goOn", "(II)V"⟩
abbrev cX2_power : ByteArray := prog_4_method_4_code
def yX2_power : MethodName := ⟨RX2, "power", "(II)J"⟩
abbrev cX2_other : ByteArray := prog_4_method_5_code
def yX2_other : MethodName := ⟨RX2, "other", "(II)I"⟩
abbrev cX2_drawHours : ByteArray := prog_4_method_6_code
def yX2_drawHours : MethodName := ⟨RX2, "drawHours", "(IIJ)I"⟩
def RX3 : String := "NoonValley$Gossip"
def TX3 : u_T := fun k => match k with
  | 0 => ("NoonValley$Gossip", "valley", "LNoonValley$Valley;", false)
  | 1 => ("NoonValley$Gossip", "all", "I", false)
  | _ => ("NoonValley$Gossip", "knows", "[I", true)
def tyX3 : Nat → FieldType := fun k => match k with
  | 0 => .object "NoonValley$Valley"
  | 1 => .int
  | _ => .array .int
abbrev wsX30 : List Cond := u_ws RX3 TX3 3
theorem nmX3 : ∀ a, a < 3 → ∀ b, b < 3 → a ≠ b → (TX3 a).2.1 ≠ (TX3 b).2.1 := by decide +kernel
theorem tyX3_ok : ∀ k, k < 3 → parseFieldDescriptor (TX3 k).2.2.1 = some (tyX3 k) := by decide +kernel
abbrev cX3_init : ByteArray := prog_5_method_1_code
def yX3_init : MethodName := ⟨RX3, "<init>", "()V"⟩
abbrev cX3_lowerEnd : ByteArray := prog_5_method_2_code
def yX3_lowerEnd : MethodName := ⟨RX3, "lowerEnd", "(I)I"⟩
abbrev cX3_upperEnd : ByteArray := prog_5_method_3_code
def yX3_upperEnd : MethodName := ⟨RX3, "upperEnd", "(I)I"⟩
abbrev cX3_fewestCalls : ByteArray := prog_5_method_4_code
def yX3_fewestCalls : MethodName := ⟨RX3, "fewestCalls", "(LNoonValley$Valley;)I"⟩
abbrev cX3_search : ByteArray := prog_5_method_5_code
def yX3_search : MethodName := ⟨RX3, "search", "(LNoonValley$Valley;)I"⟩
abbrev cX3_goOn : ByteArray := prog_5_method_6_code
def yX3_goOn : MethodName := ⟨RX3, "goOn", "(II)Z"⟩
abbrev cX3_canEnd : ByteArray := prog_5_method_7_code
def yX3_canEnd : MethodName := ⟨RX3, "canEnd", "(I)Z"⟩
def RX4 : String := "NoonValley$Plan"
def TX4 : u_T := fun k => match k with
  | 0 => ("NoonValley$Plan", "valley", "LNoonValley$Valley;", true)
  | 1 => ("NoonValley$Plan", "count", "I", false)
  | 2 => ("NoonValley$Plan", "hours", "[I", true)
  | 3 => ("NoonValley$Plan", "kinds", "[I", true)
  | 4 => ("NoonValley$Plan", "callers", "[I", true)
  | 5 => ("NoonValley$Plan", "called", "[I", true)
  | 6 => ("NoonValley$Plan", "order", "[I", true)
  | 7 => ("NoonValley$Plan", "verdict", "[I", true)
  | _ => ("NoonValley$Plan", "others", "[I", true)
def tyX4 : Nat → FieldType := fun k => match k with
  | 0 => .object "NoonValley$Valley"
  | 1 => .int
  | 2 => .array .int
  | 3 => .array .int
  | 4 => .array .int
  | 5 => .array .int
  | 6 => .array .int
  | 7 => .array .int
  | _ => .array .int
abbrev wsX40 : List Cond := u_ws RX4 TX4 9
theorem nmX4 : ∀ a, a < 9 → ∀ b, b < 9 → a ≠ b → (TX4 a).2.1 ≠ (TX4 b).2.1 := by decide +kernel
theorem tyX4_ok : ∀ k, k < 9 → parseFieldDescriptor (TX4 k).2.2.1 = some (tyX4 k) := by decide +kernel
abbrev cX4_init : ByteArray := prog_6_method_1_code
def yX4_init : MethodName := ⟨RX4, "<init>", "(LNoonValley$Valley;)V"⟩
abbrev cX4_hasRoom : ByteArray := prog_6_method_2_code
def yX4_hasRoom : MethodName := ⟨RX4, "hasRoom", "()Z"⟩
abbrev cX4_append : ByteArray := prog_6_method_3_code
def yX4_append : MethodName := ⟨RX4, "append", "(IIII)I"⟩
abbrev cX4_judge : ByteArray := prog_6_method_4_code
def yX4_judge : MethodName := ⟨RX4, "judge", "()V"⟩
abbrev cX4_verdictOf : ByteArray := prog_6_method_5_code
def yX4_verdictOf : MethodName := ⟨RX4, "verdictOf", "(III)I"⟩
def RX5 : String := "NoonValley$Rows"
def TX5 : u_T := fun k => match k with
  | 0 => ("NoonValley$Rows", "sets", "[I", true)
  | 1 => ("NoonValley$Rows", "rows", "[I", true)
  | 2 => ("NoonValley$Rows", "met", "[Z", true)
  | 3 => ("NoonValley$Rows", "count", "I", false)
  | 4 => ("NoonValley$Rows", "choices", "[I", true)
  | _ => ("NoonValley$Rows", "people", "I", false)
def tyX5 : Nat → FieldType := fun k => match k with
  | 0 => .array .int
  | 1 => .array .int
  | 2 => .array .boolean
  | 3 => .int
  | 4 => .array .int
  | _ => .int
abbrev wsX50 : List Cond := u_ws RX5 TX5 6
theorem nmX5 : ∀ a, a < 6 → ∀ b, b < 6 → a ≠ b → (TX5 a).2.1 ≠ (TX5 b).2.1 := by decide +kernel
theorem tyX5_ok : ∀ k, k < 6 → parseFieldDescriptor (TX5 k).2.2.1 = some (tyX5 k) := by decide +kernel
abbrev cX5_init : ByteArray := prog_7_method_1_code
def yX5_init : MethodName := ⟨RX5, "<init>", "()V"⟩
abbrev cX5_calledIn : ByteArray := prog_7_method_2_code
def yX5_calledIn : MethodName := ⟨RX5, "calledIn", "(II)I"⟩
abbrev cX5_forget : ByteArray := prog_7_method_3_code
def yX5_forget : MethodName := ⟨RX5, "forget", "()V"⟩
abbrev cX5_append : ByteArray := prog_7_method_4_code
def yX5_append : MethodName := ⟨RX5, "append", "(I)V"⟩
abbrev cX5_findAll : ByteArray := prog_7_method_5_code
def yX5_findAll : MethodName := ⟨RX5, "findAll", "(IIII)V"⟩
abbrev cX5_take : ByteArray := prog_7_method_6_code
def yX5_take : MethodName := ⟨RX5, "take", "(III)V"⟩
def RX6 : String := "NoonValley$Shutting"
def TX6 : u_T := fun k => match k with
  | 0 => ("NoonValley$Shutting", "valley", "LNoonValley$Valley;", false)
  | 1 => ("NoonValley$Shutting", "goal", "I", false)
  | 2 => ("NoonValley$Shutting", "hour", "I", false)
  | 3 => ("NoonValley$Shutting", "before", "I", false)
  | _ => ("NoonValley$Shutting", "used", "I", false)
def tyX6 : Nat → FieldType := fun k => match k with
  | 0 => .object "NoonValley$Valley"
  | 1 => .int
  | 2 => .int
  | 3 => .int
  | _ => .int
abbrev wsX60 : List Cond := u_ws RX6 TX6 5
theorem nmX6 : ∀ a, a < 5 → ∀ b, b < 5 → a ≠ b → (TX6 a).2.1 ≠ (TX6 b).2.1 := by decide +kernel
theorem tyX6_ok : ∀ k, k < 5 → parseFieldDescriptor (TX6 k).2.2.1 = some (tyX6 k) := by decide +kernel
abbrev cX6_init : ByteArray := prog_8_method_1_code
def yX6_init : MethodName := ⟨RX6, "<init>", "()V"⟩
abbrev cX6_fewestLines : ByteArray := prog_8_method_2_code
def yX6_fewestLines : MethodName := ⟨RX6, "fewestLines", "(LNoonValley$Valley;III)I"⟩
abbrev cX6_choose : ByteArray := prog_8_method_3_code
def yX6_choose : MethodName := ⟨RX6, "choose", "(III)I"⟩
abbrev cX6_flood : ByteArray := prog_8_method_4_code
def yX6_flood : MethodName := ⟨RX6, "flood", "(IIII)I"⟩
abbrev cX6_across : ByteArray := prog_8_method_5_code
def yX6_across : MethodName := ⟨RX6, "across", "(II)I"⟩
def RX7 : String := "NoonValley$Spreading"
def TX7 : u_T := fun k => match k with
  | 0 => ("NoonValley$Spreading", "rows", "LNoonValley$Rows;", true)
  | 1 => ("NoonValley$Spreading", "people", "I", false)
  | 2 => ("NoonValley$Spreading", "deaf", "I", false)
  | 3 => ("NoonValley$Spreading", "takingPart", "I", false)
  | 4 => ("NoonValley$Spreading", "must", "I", false)
  | 5 => ("NoonValley$Spreading", "callable", "[I", true)
  | 6 => ("NoonValley$Spreading", "powers", "[I", true)
  | 7 => ("NoonValley$Spreading", "stateAt", "[I", true)
  | 8 => ("NoonValley$Spreading", "comeTo", "[I", true)
  | 9 => ("NoonValley$Spreading", "good", "[I", true)
  | 10 => ("NoonValley$Spreading", "now", "[I", false)
  | 11 => ("NoonValley$Spreading", "next", "[I", false)
  | 12 => ("NoonValley$Spreading", "nowCount", "I", false)
  | 13 => ("NoonValley$Spreading", "nextCount", "I", false)
  | 14 => ("NoonValley$Spreading", "addedA", "I", false)
  | 15 => ("NoonValley$Spreading", "addedB", "I", false)
  | _ => ("NoonValley$Spreading", "spared", "I", false)
def tyX7 : Nat → FieldType := fun k => match k with
  | 0 => .object "NoonValley$Rows"
  | 1 => .int
  | 2 => .int
  | 3 => .int
  | 4 => .int
  | 5 => .array .int
  | 6 => .array .int
  | 7 => .array .int
  | 8 => .array .int
  | 9 => .array .int
  | 10 => .array .int
  | 11 => .array .int
  | 12 => .int
  | 13 => .int
  | 14 => .int
  | 15 => .int
  | _ => .int
abbrev wsX70 : List Cond := u_ws RX7 TX7 17
theorem nmX7 : ∀ a, a < 17 → ∀ b, b < 17 → a ≠ b → (TX7 a).2.1 ≠ (TX7 b).2.1 := by decide +kernel
theorem tyX7_ok : ∀ k, k < 17 → parseFieldDescriptor (TX7 k).2.2.1 = some (tyX7 k) := by decide +kernel
abbrev cX7_init : ByteArray := prog_9_method_1_code
def yX7_init : MethodName := ⟨RX7, "<init>", "()V"⟩
abbrev cX7_state : ByteArray := prog_9_method_2_code
def yX7_state : MethodName := ⟨RX7, "state", "(II)I"⟩
abbrev cX7_knownIn : ByteArray := prog_9_method_3_code
def yX7_knownIn : MethodName := ⟨RX7, "knownIn", "(I)I"⟩
abbrev cX7_onceIn : ByteArray := prog_9_method_4_code
def yX7_onceIn : MethodName := ⟨RX7, "onceIn", "(I)I"⟩
abbrev cX7_placeOf : ByteArray := prog_9_method_5_code
def yX7_placeOf : MethodName := ⟨RX7, "placeOf", "(I)I"⟩
abbrev cX7_prepare : ByteArray := prog_9_method_6_code
def yX7_prepare : MethodName := ⟨RX7, "prepare", "(LNoonValley$Valley;I)V"⟩
abbrev cX7_openLine : ByteArray := prog_9_method_7_code
def yX7_openLine : MethodName := ⟨RX7, "openLine", "(II)V"⟩
abbrev cX7_leastHours : ByteArray := prog_9_method_8_code
def yX7_leastHours : MethodName := ⟨RX7, "leastHours", "(III)I"⟩
abbrev cX7_isDone : ByteArray := prog_9_method_9_code
def yX7_isDone : MethodName := ⟨RX7, "isDone", "(I)Z"⟩
abbrev cX7_isDoneInOne : ByteArray := prog_9_method_10_code
def yX7_isDoneInOne : MethodName := ⟨RX7, "isDoneInOne", "()Z"⟩
abbrev cX7_begin : ByteArray := prog_9_method_11_code
def yX7_begin : MethodName := ⟨RX7, "begin", "(II)V"⟩
abbrev cX7_swap : ByteArray := prog_9_method_12_code
def yX7_swap : MethodName := ⟨RX7, "swap", "()V"⟩
abbrev cX7_arrive : ByteArray := prog_9_method_13_code
def yX7_arrive : MethodName := ⟨RX7, "arrive", "(II)V"⟩
abbrev cX7_arriveByAll : ByteArray := prog_9_method_14_code
def yX7_arriveByAll : MethodName := ⟨RX7, "arriveByAll", "(III)V"⟩
abbrev cX7_findRows : ByteArray := prog_9_method_15_code
def yX7_findRows : MethodName := ⟨RX7, "findRows", "(III)V"⟩
abbrev cX7_stateAfter : ByteArray := prog_9_method_16_code
def yX7_stateAfter : MethodName := ⟨RX7, "stateAfter", "(II)I"⟩
abbrev cX7_understands : ByteArray := prog_9_method_17_code
def yX7_understands : MethodName := ⟨RX7, "understands", "(I)I"⟩
abbrev cX7_comeToBy : ByteArray := prog_9_method_18_code
def yX7_comeToBy : MethodName := ⟨RX7, "comeToBy", "(III)I"⟩
abbrev cX7_comeToAfter : ByteArray := prog_9_method_19_code
def yX7_comeToAfter : MethodName := ⟨RX7, "comeToAfter", "(II)I"⟩
abbrev cX7_upperEnd : ByteArray := prog_9_method_20_code
def yX7_upperEnd : MethodName := ⟨RX7, "upperEnd", "(III)I"⟩
abbrev cX7_lowestRow : ByteArray := prog_9_method_21_code
def yX7_lowestRow : MethodName := ⟨RX7, "lowestRow", "(III)I"⟩
abbrev cX7_markGood : ByteArray := prog_9_method_22_code
def yX7_markGood : MethodName := ⟨RX7, "markGood", "(II)V"⟩
abbrev cX7_lowestGood : ByteArray := prog_9_method_23_code
def yX7_lowestGood : MethodName := ⟨RX7, "lowestGood", "(III)I"⟩
abbrev cX7_findAdded : ByteArray := prog_9_method_24_code
def yX7_findAdded : MethodName := ⟨RX7, "findAdded", "(LNoonValley$Valley;I)Z"⟩
abbrev cX7_hoursFromFirst : ByteArray := prog_9_method_25_code
def yX7_hoursFromFirst : MethodName := ⟨RX7, "hoursFromFirst", "(I)I"⟩
abbrev cX7_canHaveBegun : ByteArray := prog_9_method_26_code
def yX7_canHaveBegun : MethodName := ⟨RX7, "canHaveBegun", "(LNoonValley$Valley;II)Z"⟩
abbrev cX7_spreadAsTold : ByteArray := prog_9_method_27_code
def yX7_spreadAsTold : MethodName := ⟨RX7, "spreadAsTold", "(IIII)V"⟩
def RX8 : String := "NoonValley$Tape"
def TX8 : u_T := fun k => match k with
  | 0 => ("NoonValley$Tape", "bytes", "[I", true)
  | 1 => ("NoonValley$Tape", "length", "I", false)
  | _ => ("NoonValley$Tape", "place", "I", false)
def tyX8 : Nat → FieldType := fun k => match k with
  | 0 => .array .int
  | 1 => .int
  | _ => .int
abbrev wsX80 : List Cond := u_ws RX8 TX8 3
theorem nmX8 : ∀ a, a < 3 → ∀ b, b < 3 → a ≠ b → (TX8 a).2.1 ≠ (TX8 b).2.1 := by decide +kernel
theorem tyX8_ok : ∀ k, k < 3 → parseFieldDescriptor (TX8 k).2.2.1 = some (tyX8 k) := by decide +kernel
abbrev cX8_init : ByteArray := prog_10_method_1_code
def yX8_init : MethodName := ⟨RX8, "<init>", "()V"⟩
abbrev cX8_append : ByteArray := prog_10_method_2_code
def yX8_append : MethodName := ⟨RX8, "append", "(IIIII)I"⟩
abbrev cX8_cut : ByteArray := prog_10_method_3_code
def yX8_cut : MethodName := ⟨RX8, "cut", "(I)Z"⟩
abbrev cX8_at : ByteArray := prog_10_method_4_code
def yX8_at : MethodName := ⟨RX8, "at", "(I)I"⟩
abbrev cX8_bytesIn : ByteArray := prog_10_method_5_code
def yX8_bytesIn : MethodName := ⟨RX8, "bytesIn", "(I)I"⟩
abbrev cX8_appendNumber : ByteArray := prog_10_method_6_code
def yX8_appendNumber : MethodName := ⟨RX8, "appendNumber", "(I)V"⟩
abbrev cX8_read : ByteArray := prog_10_method_7_code
def yX8_read : MethodName := ⟨RX8, "read", "(LNoonValley$Valley;)I"⟩
abbrev cX8_skipBlanks : ByteArray := prog_10_method_8_code
def yX8_skipBlanks : MethodName := ⟨RX8, "skipBlanks", "()V"⟩
abbrev cX8_statement : ByteArray := prog_10_method_9_code
def yX8_statement : MethodName := ⟨RX8, "statement", "(LNoonValley$Valley;)Z"⟩
abbrev cX8_lineOf : ByteArray := prog_10_method_10_code
def yX8_lineOf : MethodName := ⟨RX8, "lineOf", "(LNoonValley$Valley;I)Z"⟩
abbrev cX8_newsOf : ByteArray := prog_10_method_11_code
def yX8_newsOf : MethodName := ⟨RX8, "newsOf", "(LNoonValley$Valley;[I)Z"⟩
abbrev cX8_deafOne : ByteArray := prog_10_method_12_code
def yX8_deafOne : MethodName := ⟨RX8, "deafOne", "(LNoonValley$Valley;)Z"⟩
abbrev cX8_number : ByteArray := prog_10_method_13_code
def yX8_number : MethodName := ⟨RX8, "number", "(III)I"⟩
abbrev cX8_isDigit : ByteArray := prog_10_method_14_code
def yX8_isDigit : MethodName := ⟨RX8, "isDigit", "(I)Z"⟩
def RX9 : String := "NoonValley$Trade"
def TX9 : u_T := fun k => match k with
  | 0 => ("NoonValley$Trade", "now", "[I", false)
  | 1 => ("NoonValley$Trade", "next", "[I", false)
  | _ => ("NoonValley$Trade", "open", "[Z", true)
def tyX9 : Nat → FieldType := fun k => match k with
  | 0 => .array .int
  | 1 => .array .int
  | _ => .array .boolean
abbrev wsX90 : List Cond := u_ws RX9 TX9 3
theorem nmX9 : ∀ a, a < 3 → ∀ b, b < 3 → a ≠ b → (TX9 a).2.1 ≠ (TX9 b).2.1 := by decide +kernel
theorem tyX9_ok : ∀ k, k < 3 → parseFieldDescriptor (TX9 k).2.2.1 = some (tyX9 k) := by decide +kernel
abbrev cX9_init : ByteArray := prog_11_method_1_code
def yX9_init : MethodName := ⟨RX9, "<init>", "()V"⟩
abbrev cX9_fewestCalls : ByteArray := prog_11_method_2_code
def yX9_fewestCalls : MethodName := ⟨RX9, "fewestCalls", "(LNoonValley$Valley;I)I"⟩
abbrev cX9_lookAtLines : ByteArray := prog_11_method_3_code
def yX9_lookAtLines : MethodName := ⟨RX9, "lookAtLines", "(LNoonValley$Valley;I)V"⟩
abbrev cX9_goOn : ByteArray := prog_11_method_4_code
def yX9_goOn : MethodName := ⟨RX9, "goOn", "(II)V"⟩
abbrev cX9_improve : ByteArray := prog_11_method_5_code
def yX9_improve : MethodName := ⟨RX9, "improve", "(II)V"⟩
abbrev cX9_join : ByteArray := prog_11_method_6_code
def yX9_join : MethodName := ⟨RX9, "join", "(II)I"⟩
abbrev cX9_goal : ByteArray := prog_11_method_7_code
def yX9_goal : MethodName := ⟨RX9, "goal", "(LNoonValley$Valley;)I"⟩
abbrev cX9_placeOf : ByteArray := prog_11_method_8_code
def yX9_placeOf : MethodName := ⟨RX9, "placeOf", "(I)I"⟩
abbrev cX9_stateAt : ByteArray := prog_11_method_9_code
def yX9_stateAt : MethodName := ⟨RX9, "stateAt", "(I)I"⟩
def RX10 : String := "NoonValley$Valley"
def TX10 : u_T := fun k => match k with
  | 0 => ("NoonValley$Valley", "people", "I", false)
  | 1 => ("NoonValley$Valley", "lineCount", "I", false)
  | 2 => ("NoonValley$Valley", "deaf", "I", false)
  | 3 => ("NoonValley$Valley", "knows", "[I", true)
  | 4 => ("NoonValley$Valley", "must", "[I", true)
  | 5 => ("NoonValley$Valley", "mustNot", "[I", true)
  | 6 => ("NoonValley$Valley", "firstNews", "[I", true)
  | 7 => ("NoonValley$Valley", "mustNews", "[I", true)
  | 8 => ("NoonValley$Valley", "mustNotNews", "[I", true)
  | 9 => ("NoonValley$Valley", "lines", "[I", true)
  | 10 => ("NoonValley$Valley", "callable", "[I", true)
  | 11 => ("NoonValley$Valley", "cards", "[I", true)
  | 12 => ("NoonValley$Valley", "cardLength", "[I", true)
  | 13 => ("NoonValley$Valley", "tales", "[I", true)
  | 14 => ("NoonValley$Valley", "gossipLength", "I", false)
  | _ => ("NoonValley$Valley", "gossipLines", "[I", true)
def tyX10 : Nat → FieldType := fun k => match k with
  | 0 => .int
  | 1 => .int
  | 2 => .int
  | 3 => .array .int
  | 4 => .array .int
  | 5 => .array .int
  | 6 => .array .int
  | 7 => .array .int
  | 8 => .array .int
  | 9 => .array .int
  | 10 => .array .int
  | 11 => .array .int
  | 12 => .array .int
  | 13 => .array .int
  | 14 => .int
  | _ => .array .int
abbrev wsX100 : List Cond := u_ws RX10 TX10 16
theorem nmX10 : ∀ a, a < 16 → ∀ b, b < 16 → a ≠ b → (TX10 a).2.1 ≠ (TX10 b).2.1 := by decide +kernel
theorem tyX10_ok : ∀ k, k < 16 → parseFieldDescriptor (TX10 k).2.2.1 = some (tyX10 k) := by decide +kernel
abbrev cX10_init : ByteArray := prog_12_method_1_code
def yX10_init : MethodName := ⟨RX10, "<init>", "()V"⟩
abbrev cX10_forget : ByteArray := prog_12_method_2_code
def yX10_forget : MethodName := ⟨RX10, "forget", "()V"⟩
abbrev cX10_settle : ByteArray := prog_12_method_3_code
def yX10_settle : MethodName := ⟨RX10, "settle", "()V"⟩
abbrev cX10_newsOfOne : ByteArray := prog_12_method_4_code
def yX10_newsOfOne : MethodName := ⟨RX10, "newsOfOne", "([II)I"⟩
abbrev cX10_hasPerson : ByteArray := prog_12_method_5_code
def yX10_hasPerson : MethodName := ⟨RX10, "hasPerson", "(I)Z"⟩
abbrev cX10_hasCouple : ByteArray := prog_12_method_6_code
def yX10_hasCouple : MethodName := ⟨RX10, "hasCouple", "(II)Z"⟩
abbrev cX10_everyone : ByteArray := prog_12_method_7_code
def yX10_everyone : MethodName := ⟨RX10, "everyone", "()I"⟩
abbrev cX10_hasRoomForLine : ByteArray := prog_12_method_8_code
def yX10_hasRoomForLine : MethodName := ⟨RX10, "hasRoomForLine", "()Z"⟩
abbrev cX10_appendLine : ByteArray := prog_12_method_9_code
def yX10_appendLine : MethodName := ⟨RX10, "appendLine", "(IIIII)V"⟩
abbrev cX10_hasLine : ByteArray := prog_12_method_10_code
def yX10_hasLine : MethodName := ⟨RX10, "hasLine", "(I)Z"⟩
abbrev cX10_lineFact : ByteArray := prog_12_method_11_code
def yX10_lineFact : MethodName := ⟨RX10, "lineFact", "(II)I"⟩
abbrev cX10_lineA : ByteArray := prog_12_method_12_code
def yX10_lineA : MethodName := ⟨RX10, "lineA", "(I)I"⟩
abbrev cX10_lineB : ByteArray := prog_12_method_13_code
def yX10_lineB : MethodName := ⟨RX10, "lineB", "(I)I"⟩
abbrev cX10_isOneWay : ByteArray := prog_12_method_14_code
def yX10_isOneWay : MethodName := ⟨RX10, "isOneWay", "(I)Z"⟩
abbrev cX10_isOpen : ByteArray := prog_12_method_15_code
def yX10_isOpen : MethodName := ⟨RX10, "isOpen", "(II)Z"⟩
abbrev cX10_works : ByteArray := prog_12_method_16_code
def yX10_works : MethodName := ⟨RX10, "works", "(II)Z"⟩
abbrev cX10_setDown : ByteArray := prog_12_method_17_code
def yX10_setDown : MethodName := ⟨RX10, "setDown", "(II)V"⟩
abbrev cX10_lookAtLines : ByteArray := prog_12_method_18_code
def yX10_lookAtLines : MethodName := ⟨RX10, "lookAtLines", "()V"⟩
abbrev cX10_callable : ByteArray := prog_12_method_19_code
def yX10_callable : MethodName := ⟨RX10, "callable", "(II)I"⟩
abbrev cX10_hasLineBetween : ByteArray := prog_12_method_20_code
def yX10_hasLineBetween : MethodName := ⟨RX10, "hasLineBetween", "(II)Z"⟩
abbrev cX10_neighbours : ByteArray := prog_12_method_21_code
def yX10_neighbours : MethodName := ⟨RX10, "neighbours", "(I)I"⟩
abbrev cX10_twoWayLines : ByteArray := prog_12_method_22_code
def yX10_twoWayLines : MethodName := ⟨RX10, "twoWayLines", "()I"⟩
abbrev cX10_holdsTogether : ByteArray := prog_12_method_23_code
def yX10_holdsTogether : MethodName := ⟨RX10, "holdsTogether", "()Z"⟩
abbrev cX10_appendToCard : ByteArray := prog_12_method_24_code
def yX10_appendToCard : MethodName := ⟨RX10, "appendToCard", "(II)I"⟩
abbrev cX10_emptyCards : ByteArray := prog_12_method_25_code
def yX10_emptyCards : MethodName := ⟨RX10, "emptyCards", "()V"⟩
abbrev cX10_nextOnCard : ByteArray := prog_12_method_26_code
def yX10_nextOnCard : MethodName := ⟨RX10, "nextOnCard", "(II)I"⟩
abbrev cX10_setTale : ByteArray := prog_12_method_27_code
def yX10_setTale : MethodName := ⟨RX10, "setTale", "(III)V"⟩
abbrev cX10_taleOf : ByteArray := prog_12_method_28_code
def yX10_taleOf : MethodName := ⟨RX10, "taleOf", "(II)I"⟩
abbrev cX10_whoseTaleIs : ByteArray := prog_12_method_29_code
def yX10_whoseTaleIs : MethodName := ⟨RX10, "whoseTaleIs", "(II)I"⟩
abbrev cX10_whoHasTale : ByteArray := prog_12_method_30_code
def yX10_whoHasTale : MethodName := ⟨RX10, "whoHasTale", "(I)I"⟩
def RX11 : String := "NoonValley"
def TX11 : u_T := fun k => match k with
  | 0 => ("NoonValley", "tape", "LNoonValley$Tape;", true)
  | 1 => ("NoonValley", "valleys", "[LNoonValley$Valley;", true)
  | 2 => ("NoonValley", "plans", "[LNoonValley$Plan;", true)
  | 3 => ("NoonValley", "carrying", "LNoonValley$Carrying;", true)
  | 4 => ("NoonValley", "spreading", "LNoonValley$Spreading;", true)
  | 5 => ("NoonValley", "shutting", "LNoonValley$Shutting;", true)
  | 6 => ("NoonValley", "gossip", "LNoonValley$Gossip;", true)
  | 7 => ("NoonValley", "trade", "LNoonValley$Trade;", true)
  | 8 => ("NoonValley", "cards", "LNoonValley$Cards;", true)
  | 9 => ("NoonValley", "chance", "LNoonValley$Chance;", true)
  | 10 => ("NoonValley", "spare", "LNoonValley$Valley;", false)
  | 11 => ("NoonValley", "valleyCount", "I", false)
  | 12 => ("NoonValley", "planCount", "I", false)
  | _ => ("NoonValley", "callCount", "I", false)
def tyX11 : Nat → FieldType := fun k => match k with
  | 0 => .object "NoonValley$Tape"
  | 1 => .array (.object "NoonValley$Valley")
  | 2 => .array (.object "NoonValley$Plan")
  | 3 => .object "NoonValley$Carrying"
  | 4 => .object "NoonValley$Spreading"
  | 5 => .object "NoonValley$Shutting"
  | 6 => .object "NoonValley$Gossip"
  | 7 => .object "NoonValley$Trade"
  | 8 => .object "NoonValley$Cards"
  | 9 => .object "NoonValley$Chance"
  | 10 => .object "NoonValley$Valley"
  | 11 => .int
  | 12 => .int
  | _ => .int
abbrev wsX110 : List Cond := u_ws RX11 TX11 14
theorem nmX11 : ∀ a, a < 14 → ∀ b, b < 14 → a ≠ b → (TX11 a).2.1 ≠ (TX11 b).2.1 := by decide +kernel
theorem tyX11_ok : ∀ k, k < 14 → parseFieldDescriptor (TX11 k).2.2.1 = some (tyX11 k) := by decide +kernel
abbrev cX11_init : ByteArray := prog_1_method_1_code
def yX11_init : MethodName := ⟨RX11, "<init>", "()V"⟩
abbrev cX11_feed : ByteArray := prog_1_method_2_code
def yX11_feed : MethodName := ⟨RX11, "feed", "(IIIII)I"⟩
abbrev cX11_end : ByteArray := prog_1_method_3_code
def yX11_end : MethodName := ⟨RX11, "end", "(I)Z"⟩
abbrev cX11_fault : ByteArray := prog_1_method_4_code
def yX11_fault : MethodName := ⟨RX11, "fault", "()I"⟩
abbrev cX11_valley : ByteArray := prog_1_method_5_code
def yX11_valley : MethodName := ⟨RX11, "valley", "()I"⟩
abbrev cX11_told : ByteArray := prog_1_method_6_code
def yX11_told : MethodName := ⟨RX11, "told", "(II)I"⟩
abbrev cX11_line : ByteArray := prog_1_method_7_code
def yX11_line : MethodName := ⟨RX11, "line", "(III)I"⟩
abbrev cX11_down : ByteArray := prog_1_method_8_code
def yX11_down : MethodName := ⟨RX11, "down", "(III)Z"⟩
abbrev cX11_may : ByteArray := prog_1_method_9_code
def yX11_may : MethodName := ⟨RX11, "may", "(IIII)I"⟩
abbrev cX11_plan : ByteArray := prog_1_method_10_code
def yX11_plan : MethodName := ⟨RX11, "plan", "(I)I"⟩
abbrev cX11_call : ByteArray := prog_1_method_11_code
def yX11_call : MethodName := ⟨RX11, "call", "(IIIII)I"⟩
abbrev cX11_lawful : ByteArray := prog_1_method_12_code
def yX11_lawful : MethodName := ⟨RX11, "lawful", "(II)I"⟩
abbrev cX11_unlawful : ByteArray := prog_1_method_13_code
def yX11_unlawful : MethodName := ⟨RX11, "unlawful", "(I)I"⟩
abbrev cX11_known : ByteArray := prog_1_method_14_code
def yX11_known : MethodName := ⟨RX11, "known", "(III)I"⟩
abbrev cX11_together : ByteArray := prog_1_method_15_code
def yX11_together : MethodName := ⟨RX11, "together", "(III)I"⟩
abbrev cX11_when : ByteArray := prog_1_method_16_code
def yX11_when : MethodName := ⟨RX11, "when", "(II)I"⟩
abbrev cX11_least : ByteArray := prog_1_method_17_code
def yX11_least : MethodName := ⟨RX11, "least", "(III)I"⟩
abbrev cX11_found : ByteArray := prog_1_method_18_code
def yX11_found : MethodName := ⟨RX11, "found", "(IIIII)I"⟩
abbrev cX11_reach : ByteArray := prog_1_method_19_code
def yX11_reach : MethodName := ⟨RX11, "reach", "(IIII)I"⟩
abbrev cX11_from : ByteArray := prog_1_method_20_code
def yX11_from : MethodName := ⟨RX11, "from", "(III)I"⟩
abbrev cX11_added : ByteArray := prog_1_method_21_code
def yX11_added : MethodName := ⟨RX11, "added", "(III)I"⟩
abbrev cX11_shut : ByteArray := prog_1_method_22_code
def yX11_shut : MethodName := ⟨RX11, "shut", "(IIII)I"⟩
abbrev cX11_fewest : ByteArray := prog_1_method_23_code
def yX11_fewest : MethodName := ⟨RX11, "fewest", "(I)I"⟩
abbrev cX11_gossip : ByteArray := prog_1_method_24_code
def yX11_gossip : MethodName := ⟨RX11, "gossip", "(II)I"⟩
abbrev cX11_ends : ByteArray := prog_1_method_25_code
def yX11_ends : MethodName := ⟨RX11, "ends", "(II)I"⟩
abbrev cX11_trade : ByteArray := prog_1_method_26_code
def yX11_trade : MethodName := ⟨RX11, "trade", "(III)I"⟩
abbrev cX11_card : ByteArray := prog_1_method_27_code
def yX11_card : MethodName := ⟨RX11, "card", "(III)I"⟩
abbrev cX11_blank : ByteArray := prog_1_method_28_code
def yX11_blank : MethodName := ⟨RX11, "blank", "(I)Z"⟩
abbrev cX11_kept : ByteArray := prog_1_method_29_code
def yX11_kept : MethodName := ⟨RX11, "kept", "(II)I"⟩
abbrev cX11_tree : ByteArray := prog_1_method_30_code
def yX11_tree : MethodName := ⟨RX11, "tree", "(IIII)I"⟩
abbrev cX11_breaks : ByteArray := prog_1_method_31_code
def yX11_breaks : MethodName := ⟨RX11, "breaks", "(II)I"⟩
abbrev cX11_breaker : ByteArray := prog_1_method_32_code
def yX11_breaker : MethodName := ⟨RX11, "breaker", "(I)I"⟩
abbrev cX11_ways : ByteArray := prog_1_method_33_code
def yX11_ways : MethodName := ⟨RX11, "ways", "(III)J"⟩
abbrev cX11_drawn : ByteArray := prog_1_method_34_code
def yX11_drawn : MethodName := ⟨RX11, "drawn", "(IIJ)I"⟩
abbrev cX11_tale : ByteArray := prog_1_method_35_code
def yX11_tale : MethodName := ⟨RX11, "tale", "(IIII)Z"⟩
abbrev cX11_who : ByteArray := prog_1_method_36_code
def yX11_who : MethodName := ⟨RX11, "who", "(II)I"⟩
abbrev cX11_fits : ByteArray := prog_1_method_37_code
def yX11_fits : MethodName := ⟨RX11, "fits", "(II)I"⟩
abbrev cX11_count : ByteArray := prog_1_method_38_code
def yX11_count : MethodName := ⟨RX11, "count", "(I)I"⟩
abbrev cX11_valleyAt : ByteArray := prog_1_method_39_code
def yX11_valleyAt : MethodName := ⟨RX11, "valleyAt", "(I)LNoonValley$Valley;"⟩
abbrev cX11_planAt : ByteArray := prog_1_method_40_code
def yX11_planAt : MethodName := ⟨RX11, "planAt", "(I)LNoonValley$Plan;"⟩
abbrev cX11_isHour : ByteArray := prog_1_method_41_code
def yX11_isHour : MethodName := ⟨RX11, "isHour", "(I)Z"⟩
abbrev cX11_isHourOrFirst : ByteArray := prog_1_method_42_code
def yX11_isHourOrFirst : MethodName := ⟨RX11, "isHourOrFirst", "(I)Z"⟩
abbrev cX11_isNews : ByteArray := prog_1_method_43_code
def yX11_isNews : MethodName := ⟨RX11, "isNews", "(I)Z"⟩
abbrev cX11_has : ByteArray := prog_1_method_44_code
def yX11_has : MethodName := ⟨RX11, "has", "(II)Z"⟩
abbrev cX11_lowestOf : ByteArray := prog_1_method_45_code
def yX11_lowestOf : MethodName := ⟨RX11, "lowestOf", "(I)I"⟩
def RX12 : String := "NoonValleyModel"
def TX12 : u_T := fun k => match k with
  | 0 => ("NoonValleyModel", "thrown", "I", false)
  | 1 => ("NoonValleyModel", "tape", "[B", true)
  | 2 => ("NoonValleyModel", "length", "I", false)
  | 3 => ("NoonValleyModel", "at", "I", false)
  | 4 => ("NoonValleyModel", "fault", "I", false)
  | 5 => ("NoonValleyModel", "number", "I", false)
  | 6 => ("NoonValleyModel", "people", "[I", true)
  | 7 => ("NoonValleyModel", "lines", "[I", true)
  | 8 => ("NoonValleyModel", "deaf", "[I", true)
  | 9 => ("NoonValleyModel", "knows", "[I", true)
  | 10 => ("NoonValleyModel", "musts", "[I", true)
  | 11 => ("NoonValleyModel", "mustNots", "[I", true)
  | 12 => ("NoonValleyModel", "lineA", "[I", true)
  | 13 => ("NoonValleyModel", "lineB", "[I", true)
  | 14 => ("NoonValleyModel", "lineF", "[I", true)
  | 15 => ("NoonValleyModel", "lineT", "[I", true)
  | 16 => ("NoonValleyModel", "lineDown", "[I", true)
  | 17 => ("NoonValleyModel", "isOne", "[Z", true)
  | 18 => ("NoonValleyModel", "valleys", "I", false)
  | 19 => ("NoonValleyModel", "moreA", "I", false)
  | 20 => ("NoonValleyModel", "moreB", "I", false)
  | 21 => ("NoonValleyModel", "planOf", "[I", true)
  | 22 => ("NoonValleyModel", "calls", "[I", true)
  | 23 => ("NoonValleyModel", "callHour", "[I", true)
  | 24 => ("NoonValleyModel", "callKind", "[I", true)
  | 25 => ("NoonValleyModel", "callOne", "[I", true)
  | 26 => ("NoonValleyModel", "callOther", "[I", true)
  | 27 => ("NoonValleyModel", "plans", "I", false)
  | 28 => ("NoonValleyModel", "law", "[I", true)
  | 29 => ("NoonValleyModel", "reached", "[I", true)
  | 30 => ("NoonValleyModel", "after", "[I", true)
  | 31 => ("NoonValleyModel", "once", "[I", true)
  | 32 => ("NoonValleyModel", "fresh", "[I", true)
  | 33 => ("NoonValleyModel", "twice", "[I", true)
  | 34 => ("NoonValleyModel", "need", "[B", true)
  | 35 => ("NoonValleyModel", "row", "[I", true)
  | 36 => ("NoonValleyModel", "lowRow", "[I", true)
  | 37 => ("NoonValleyModel", "askValley", "I", false)
  | 38 => ("NoonValleyModel", "askMust", "I", false)
  | 39 => ("NoonValleyModel", "askNot", "I", false)
  | 40 => ("NoonValleyModel", "bestNeed", "I", false)
  | 41 => ("NoonValleyModel", "askHour", "I", false)
  | 42 => ("NoonValleyModel", "askWanted", "I", false)
  | 43 => ("NoonValleyModel", "findsRow", "Z", false)
  | 44 => ("NoonValleyModel", "nextKnow", "I", false)
  | 45 => ("NoonValleyModel", "nextOnce", "I", false)
  | 46 => ("NoonValleyModel", "things", "[I", true)
  | 47 => ("NoonValleyModel", "gossipRow", "[I", true)
  | 48 => ("NoonValleyModel", "isLower", "[Z", true)
  | 49 => ("NoonValleyModel", "cost", "[I", true)
  | 50 => ("NoonValleyModel", "costNext", "[I", true)
  | 51 => ("NoonValleyModel", "tradeCosts", "[I", true)
  | 52 => ("NoonValleyModel", "cards", "[I", true)
  | 53 => ("NoonValleyModel", "cardLong", "[I", true)
  | 54 => ("NoonValleyModel", "gone", "[I", true)
  | 55 => ("NoonValleyModel", "below", "[I", true)
  | 56 => ("NoonValleyModel", "belowMany", "[I", true)
  | 57 => ("NoonValleyModel", "time", "[I", true)
  | 58 => ("NoonValleyModel", "broken", "[I", true)
  | 59 => ("NoonValleyModel", "ways", "[J", true)
  | 60 => ("NoonValleyModel", "waysNext", "[J", true)
  | 61 => ("NoonValleyModel", "tales", "[I", true)
  | 62 => ("NoonValleyModel", "can", "[Z", true)
  | _ => ("NoonValleyModel", "canNext", "[Z", true)
def tyX12 : Nat → FieldType := fun k => match k with
  | 0 => .int
  | 1 => .array .byte
  | 2 => .int
  | 3 => .int
  | 4 => .int
  | 5 => .int
  | 6 => .array .int
  | 7 => .array .int
  | 8 => .array .int
  | 9 => .array .int
  | 10 => .array .int
  | 11 => .array .int
  | 12 => .array .int
  | 13 => .array .int
  | 14 => .array .int
  | 15 => .array .int
  | 16 => .array .int
  | 17 => .array .boolean
  | 18 => .int
  | 19 => .int
  | 20 => .int
  | 21 => .array .int
  | 22 => .array .int
  | 23 => .array .int
  | 24 => .array .int
  | 25 => .array .int
  | 26 => .array .int
  | 27 => .int
  | 28 => .array .int
  | 29 => .array .int
  | 30 => .array .int
  | 31 => .array .int
  | 32 => .array .int
  | 33 => .array .int
  | 34 => .array .byte
  | 35 => .array .int
  | 36 => .array .int
  | 37 => .int
  | 38 => .int
  | 39 => .int
  | 40 => .int
  | 41 => .int
  | 42 => .int
  | 43 => .boolean
  | 44 => .int
  | 45 => .int
  | 46 => .array .int
  | 47 => .array .int
  | 48 => .array .boolean
  | 49 => .array .int
  | 50 => .array .int
  | 51 => .array .int
  | 52 => .array .int
  | 53 => .array .int
  | 54 => .array .int
  | 55 => .array .int
  | 56 => .array .int
  | 57 => .array .int
  | 58 => .array .int
  | 59 => .array .long
  | 60 => .array .long
  | 61 => .array .int
  | 62 => .array .boolean
  | _ => .array .boolean
abbrev wsX120 : List Cond := u_ws RX12 TX12 64
theorem nmX12 : ∀ a, a < 64 → ∀ b, b < 64 → a ≠ b → (TX12 a).2.1 ≠ (TX12 b).2.1 := by decide +kernel
theorem tyX12_ok : ∀ k, k < 64 → parseFieldDescriptor (TX12 k).2.2.1 = some (tyX12 k) := by decide +kernel
abbrev cX12_init : ByteArray := prog_14_method_1_code
def yX12_init : MethodName := ⟨RX12, "<init>", "()V"⟩
abbrev cX12_thrown : ByteArray := prog_14_method_2_code
def yX12_thrown : MethodName := ⟨RX12, "thrown", "()I"⟩
abbrev cX12_isIn : ByteArray := prog_14_method_3_code
def yX12_isIn : MethodName := ⟨RX12, "isIn", "(III)Z"⟩
abbrev cX12_bytesIn : ByteArray := prog_14_method_4_code
def yX12_bytesIn : MethodName := ⟨RX12, "bytesIn", "(I)I"⟩
abbrev cX12_put : ByteArray := prog_14_method_5_code
def yX12_put : MethodName := ⟨RX12, "put", "(I)V"⟩
abbrev cX12_feed : ByteArray := prog_14_method_6_code
def yX12_feed : MethodName := ⟨RX12, "feed", "(IIIII)I"⟩
abbrev cX12_end : ByteArray := prog_14_method_7_code
def yX12_end : MethodName := ⟨RX12, "end", "(I)Z"⟩
abbrev cX12_here : ByteArray := prog_14_method_8_code
def yX12_here : MethodName := ⟨RX12, "here", "()I"⟩
abbrev cX12_look : ByteArray := prog_14_method_9_code
def yX12_look : MethodName := ⟨RX12, "look", "()I"⟩
abbrev cX12_fails : ByteArray := prog_14_method_10_code
def yX12_fails : MethodName := ⟨RX12, "fails", "(I)Z"⟩
abbrev cX12_isDigit : ByteArray := prog_14_method_11_code
def yX12_isDigit : MethodName := ⟨RX12, "isDigit", "()Z"⟩
abbrev cX12_number : ByteArray := prog_14_method_12_code
def yX12_number : MethodName := ⟨RX12, "number", "(III)Z"⟩
abbrev cX12_readLine : ByteArray := prog_14_method_13_code
def yX12_readLine : MethodName := ⟨RX12, "readLine", "(IZ)Z"⟩
abbrev cX12_readBit : ByteArray := prog_14_method_14_code
def yX12_readBit : MethodName := ⟨RX12, "readBit", "(I[IZ)Z"⟩
abbrev cX12_statement : ByteArray := prog_14_method_15_code
def yX12_statement : MethodName := ⟨RX12, "statement", "(I)Z"⟩
abbrev cX12_readValley : ByteArray := prog_14_method_16_code
def yX12_readValley : MethodName := ⟨RX12, "readValley", "()Z"⟩
abbrev cX12_fault : ByteArray := prog_14_method_17_code
def yX12_fault : MethodName := ⟨RX12, "fault", "()I"⟩
abbrev cX12_valley : ByteArray := prog_14_method_18_code
def yX12_valley : MethodName := ⟨RX12, "valley", "()I"⟩
abbrev cX12_isValley : ByteArray := prog_14_method_19_code
def yX12_isValley : MethodName := ⟨RX12, "isValley", "(I)Z"⟩
abbrev cX12_isPerson : ByteArray := prog_14_method_20_code
def yX12_isPerson : MethodName := ⟨RX12, "isPerson", "(II)Z"⟩
abbrev cX12_isNews : ByteArray := prog_14_method_21_code
def yX12_isNews : MethodName := ⟨RX12, "isNews", "(I)Z"⟩
abbrev cX12_isHour : ByteArray := prog_14_method_22_code
def yX12_isHour : MethodName := ⟨RX12, "isHour", "(I)Z"⟩
abbrev cX12_everybody : ByteArray := prog_14_method_23_code
def yX12_everybody : MethodName := ⟨RX12, "everybody", "(I)I"⟩
abbrev cX12_told : ByteArray := prog_14_method_24_code
def yX12_told : MethodName := ⟨RX12, "told", "(II)I"⟩
abbrev cX12_isLine : ByteArray := prog_14_method_25_code
def yX12_isLine : MethodName := ⟨RX12, "isLine", "(II)Z"⟩
abbrev cX12_line : ByteArray := prog_14_method_26_code
def yX12_line : MethodName := ⟨RX12, "line", "(III)I"⟩
abbrev cX12_down : ByteArray := prog_14_method_27_code
def yX12_down : MethodName := ⟨RX12, "down", "(III)Z"⟩
abbrev cX12_works : ByteArray := prog_14_method_28_code
def yX12_works : MethodName := ⟨RX12, "works", "(II)Z"⟩
abbrev cX12_joins : ByteArray := prog_14_method_29_code
def yX12_joins : MethodName := ⟨RX12, "joins", "(III)Z"⟩
abbrev cX12_mayCall : ByteArray := prog_14_method_30_code
def yX12_mayCall : MethodName := ⟨RX12, "mayCall", "(IIII)Z"⟩
abbrev cX12_may : ByteArray := prog_14_method_31_code
def yX12_may : MethodName := ⟨RX12, "may", "(IIII)I"⟩
abbrev cX12_isPlan : ByteArray := prog_14_method_32_code
def yX12_isPlan : MethodName := ⟨RX12, "isPlan", "(I)Z"⟩
abbrev cX12_plan : ByteArray := prog_14_method_33_code
def yX12_plan : MethodName := ⟨RX12, "plan", "(I)I"⟩
abbrev cX12_call : ByteArray := prog_14_method_34_code
def yX12_call : MethodName := ⟨RX12, "call", "(IIIII)I"⟩
abbrev cX12_reaches : ByteArray := prog_14_method_35_code
def yX12_reaches : MethodName := ⟨RX12, "reaches", "(II)I"⟩
abbrev cX12_judge : ByteArray := prog_14_method_36_code
def yX12_judge : MethodName := ⟨RX12, "judge", "(I)V"⟩
abbrev cX12_isCall : ByteArray := prog_14_method_37_code
def yX12_isCall : MethodName := ⟨RX12, "isCall", "(II)Z"⟩
abbrev cX12_lawful : ByteArray := prog_14_method_38_code
def yX12_lawful : MethodName := ⟨RX12, "lawful", "(II)I"⟩
abbrev cX12_unlawful : ByteArray := prog_14_method_39_code
def yX12_unlawful : MethodName := ⟨RX12, "unlawful", "(I)I"⟩
abbrev cX12_tells : ByteArray := prog_14_method_40_code
def yX12_tells : MethodName := ⟨RX12, "tells", "(IIII)V"⟩
abbrev cX12_carry : ByteArray := prog_14_method_41_code
def yX12_carry : MethodName := ⟨RX12, "carry", "(IJI)V"⟩
abbrev cX12_notFor : ByteArray := prog_14_method_42_code
def yX12_notFor : MethodName := ⟨RX12, "notFor", "(II)I"⟩
abbrev cX12_mustOf : ByteArray := prog_14_method_43_code
def yX12_mustOf : MethodName := ⟨RX12, "mustOf", "(II)I"⟩
abbrev cX12_carryAll : ByteArray := prog_14_method_44_code
def yX12_carryAll : MethodName := ⟨RX12, "carryAll", "(I)V"⟩
abbrev cX12_known : ByteArray := prog_14_method_45_code
def yX12_known : MethodName := ⟨RX12, "known", "(III)I"⟩
abbrev cX12_together : ByteArray := prog_14_method_46_code
def yX12_together : MethodName := ⟨RX12, "together", "(III)I"⟩
abbrev cX12_allKnow : ByteArray := prog_14_method_47_code
def yX12_allKnow : MethodName := ⟨RX12, "allKnow", "(III)Z"⟩
abbrev cX12_when : ByteArray := prog_14_method_48_code
def yX12_when : MethodName := ⟨RX12, "when", "(II)I"⟩
abbrev cX12_ask : ByteArray := prog_14_method_49_code
def yX12_ask : MethodName := ⟨RX12, "ask", "(II)V"⟩
abbrev cX12_needed : ByteArray := prog_14_method_50_code
def yX12_needed : MethodName := ⟨RX12, "needed", "(III)I"⟩
abbrev cX12_rowsLeast : ByteArray := prog_14_method_51_code
def yX12_rowsLeast : MethodName := ⟨RX12, "rowsLeast", "(III)I"⟩
abbrev cX12_tryRow : ByteArray := prog_14_method_52_code
def yX12_tryRow : MethodName := ⟨RX12, "tryRow", "(IIIIII)I"⟩
abbrev cX12_isAsked : ByteArray := prog_14_method_53_code
def yX12_isAsked : MethodName := ⟨RX12, "isAsked", "(II)Z"⟩
abbrev cX12_leastFrom : ByteArray := prog_14_method_54_code
def yX12_leastFrom : MethodName := ⟨RX12, "leastFrom", "(III)I"⟩
abbrev cX12_least : ByteArray := prog_14_method_55_code
def yX12_least : MethodName := ⟨RX12, "least", "(III)I"⟩
abbrev cX12_lowest : ByteArray := prog_14_method_56_code
def yX12_lowest : MethodName := ⟨RX12, "lowest", "(IIIIIII)Z"⟩
abbrev cX12_found : ByteArray := prog_14_method_57_code
def yX12_found : MethodName := ⟨RX12, "found", "(IIIII)I"⟩
abbrev cX12_from : ByteArray := prog_14_method_58_code
def yX12_from : MethodName := ⟨RX12, "from", "(III)I"⟩
abbrev cX12_hasLine : ByteArray := prog_14_method_59_code
def yX12_hasLine : MethodName := ⟨RX12, "hasLine", "(III)Z"⟩
abbrev cX12_added : ByteArray := prog_14_method_60_code
def yX12_added : MethodName := ⟨RX12, "added", "(III)I"⟩
abbrev cX12_spread : ByteArray := prog_14_method_61_code
def yX12_spread : MethodName := ⟨RX12, "spread", "(IIIIII)I"⟩
abbrev cX12_reach : ByteArray := prog_14_method_62_code
def yX12_reach : MethodName := ⟨RX12, "reach", "(IIII)I"⟩
abbrev cX12_comesTo : ByteArray := prog_14_method_63_code
def yX12_comesTo : MethodName := ⟨RX12, "comesTo", "(IIIIII)Z"⟩
abbrev cX12_shut : ByteArray := prog_14_method_64_code
def yX12_shut : MethodName := ⟨RX12, "shut", "(IIII)I"⟩
abbrev cX12_holdsAll : ByteArray := prog_14_method_65_code
def yX12_holdsAll : MethodName := ⟨RX12, "holdsAll", "(I)Z"⟩
abbrev cX12_gossips : ByteArray := prog_14_method_66_code
def yX12_gossips : MethodName := ⟨RX12, "gossips", "(III)Z"⟩
abbrev cX12_fewestOf : ByteArray := prog_14_method_67_code
def yX12_fewestOf : MethodName := ⟨RX12, "fewestOf", "(I)I"⟩
abbrev cX12_fewest : ByteArray := prog_14_method_68_code
def yX12_fewest : MethodName := ⟨RX12, "fewest", "(I)I"⟩
abbrev cX12_gossip : ByteArray := prog_14_method_69_code
def yX12_gossip : MethodName := ⟨RX12, "gossip", "(II)I"⟩
abbrev cX12_ends : ByteArray := prog_14_method_70_code
def yX12_ends : MethodName := ⟨RX12, "ends", "(II)I"⟩
abbrev cX12_mayTrade : ByteArray := prog_14_method_71_code
def yX12_mayTrade : MethodName := ⟨RX12, "mayTrade", "(IIII)Z"⟩
abbrev cX12_traded : ByteArray := prog_14_method_72_code
def yX12_traded : MethodName := ⟨RX12, "traded", "(III)I"⟩
abbrev cX12_meet : ByteArray := prog_14_method_73_code
def yX12_meet : MethodName := ⟨RX12, "meet", "(II)V"⟩
abbrev cX12_layTrades : ByteArray := prog_14_method_74_code
def yX12_layTrades : MethodName := ⟨RX12, "layTrades", "(I)V"⟩
abbrev cX12_trade : ByteArray := prog_14_method_75_code
def yX12_trade : MethodName := ⟨RX12, "trade", "(III)I"⟩
abbrev cX12_card : ByteArray := prog_14_method_76_code
def yX12_card : MethodName := ⟨RX12, "card", "(III)I"⟩
abbrev cX12_blank : ByteArray := prog_14_method_77_code
def yX12_blank : MethodName := ⟨RX12, "blank", "(I)Z"⟩
abbrev cX12_kept : ByteArray := prog_14_method_78_code
def yX12_kept : MethodName := ⟨RX12, "kept", "(II)I"⟩
abbrev cX12_isTree : ByteArray := prog_14_method_79_code
def yX12_isTree : MethodName := ⟨RX12, "isTree", "(I)Z"⟩
abbrev cX12_isBeside : ByteArray := prog_14_method_80_code
def yX12_isBeside : MethodName := ⟨RX12, "isBeside", "(III)Z"⟩
abbrev cX12_layTree : ByteArray := prog_14_method_81_code
def yX12_layTree : MethodName := ⟨RX12, "layTree", "(III)V"⟩
abbrev cX12_tree : ByteArray := prog_14_method_82_code
def yX12_tree : MethodName := ⟨RX12, "tree", "(IIII)I"⟩
abbrev cX12_bears : ByteArray := prog_14_method_83_code
def yX12_bears : MethodName := ⟨RX12, "bears", "(IJI)Z"⟩
abbrev cX12_breaksBy : ByteArray := prog_14_method_84_code
def yX12_breaksBy : MethodName := ⟨RX12, "breaksBy", "(IIIIJ)Z"⟩
abbrev cX12_breaks : ByteArray := prog_14_method_85_code
def yX12_breaks : MethodName := ⟨RX12, "breaks", "(II)I"⟩
abbrev cX12_breaker : ByteArray := prog_14_method_86_code
def yX12_breaker : MethodName := ⟨RX12, "breaker", "(I)I"⟩
abbrev cX12_choose : ByteArray := prog_14_method_87_code
def yX12_choose : MethodName := ⟨RX12, "choose", "(IIIIJ)V"⟩
abbrev cX12_ways : ByteArray := prog_14_method_88_code
def yX12_ways : MethodName := ⟨RX12, "ways", "(III)J"⟩
abbrev cX12_drawn : ByteArray := prog_14_method_89_code
def yX12_drawn : MethodName := ⟨RX12, "drawn", "(IIJ)I"⟩
abbrev cX12_tale : ByteArray := prog_14_method_90_code
def yX12_tale : MethodName := ⟨RX12, "tale", "(IIII)Z"⟩
abbrev cX12_taleOf : ByteArray := prog_14_method_91_code
def yX12_taleOf : MethodName := ⟨RX12, "taleOf", "(III)I"⟩
abbrev cX12_isAsTold : ByteArray := prog_14_method_92_code
def yX12_isAsTold : MethodName := ⟨RX12, "isAsTold", "(IIII)Z"⟩
abbrev cX12_goRows : ByteArray := prog_14_method_93_code
def yX12_goRows : MethodName := ⟨RX12, "goRows", "(IIIIIIII)V"⟩
abbrev cX12_canBegin : ByteArray := prog_14_method_94_code
def yX12_canBegin : MethodName := ⟨RX12, "canBegin", "(III)Z"⟩
abbrev cX12_who : ByteArray := prog_14_method_95_code
def yX12_who : MethodName := ⟨RX12, "who", "(II)I"⟩
abbrev cX12_fits : ByteArray := prog_14_method_96_code
def yX12_fits : MethodName := ⟨RX12, "fits", "(II)I"⟩
abbrev cX12_count : ByteArray := prog_14_method_97_code
def yX12_count : MethodName := ⟨RX12, "count", "(I)I"⟩
def RJx145de : String := "java/io/Serializable"
def TJx145de : u_T := fun k => match k with
  | _ => ("", "", "", false)
def tyJx145de : Nat → FieldType := fun k => match k with
  | _ => .int
theorem nmJx145de : ∀ a, a < 0 → ∀ b, b < 0 → a ≠ b → (TJx145de a).2.1 ≠ (TJx145de b).2.1 := by decide +kernel
theorem tyJx145de_ok : ∀ k, k < 0 → parseFieldDescriptor (TJx145de k).2.2.1 = some (tyJx145de k) := by decide +kernel
def RJ6 : String := "java/lang/Integer"
def TJ6 : u_T := fun k => match k with
  | _ => ("", "", "", false)
def tyJ6 : Nat → FieldType := fun k => match k with
  | _ => .int
abbrev wsJ60 : List Cond := u_ws RJ6 TJ6 0
theorem nmJ6 : ∀ a, a < 0 → ∀ b, b < 0 → a ≠ b → (TJ6 a).2.1 ≠ (TJ6 b).2.1 := by decide +kernel
theorem tyJ6_ok : ∀ k, k < 0 → parseFieldDescriptor (TJ6 k).2.2.1 = some (tyJ6 k) := by decide +kernel
abbrev cJ6_bitCount_0f7a4 : ByteArray := prog_17_method_49_code
def yJ6_bitCount_0f7a4 : MethodName := ⟨RJ6, "bitCount", "(I)I"⟩
def RJ9 : String := "java/lang/Math"
def TJ9 : u_T := fun k => match k with
  | _ => ("", "", "", false)
def tyJ9 : Nat → FieldType := fun k => match k with
  | _ => .int
abbrev wsJ90 : List Cond := u_ws RJ9 TJ9 0
theorem nmJ9 : ∀ a, a < 0 → ∀ b, b < 0 → a ≠ b → (TJ9 a).2.1 ≠ (TJ9 b).2.1 := by decide +kernel
theorem tyJ9_ok : ∀ k, k < 0 → parseFieldDescriptor (TJ9 k).2.2.1 = some (tyJ9 k) := by decide +kernel
abbrev cJ9_max_7cf53 : ByteArray := prog_18_method_65_code
def yJ9_max_7cf53 : MethodName := ⟨RJ9, "max", "(II)I"⟩
abbrev cJ9_min_7cf53 : ByteArray := prog_18_method_69_code
def yJ9_min_7cf53 : MethodName := ⟨RJ9, "min", "(II)I"⟩
def RJ10 : String := "java/lang/System"
def TJ10 : u_T := fun k => match k with
  | _ => ("", "", "", false)
def tyJ10 : Nat → FieldType := fun k => match k with
  | _ => .int
abbrev wsJ100 : List Cond := u_ws RJ10 TJ10 0
theorem nmJ10 : ∀ a, a < 0 → ∀ b, b < 0 → a ≠ b → (TJ10 a).2.1 ≠ (TJ10 b).2.1 := by decide +kernel
theorem tyJ10_ok : ∀ k, k < 0 → parseFieldDescriptor (TJ10 k).2.2.1 = some (tyJ10 k) := by decide +kernel
def RJ7 : String := "java/util/Arrays"
def TJ7 : u_T := fun k => match k with
  | _ => ("", "", "", false)
def tyJ7 : Nat → FieldType := fun k => match k with
  | _ => .int
abbrev wsJ70 : List Cond := u_ws RJ7 TJ7 0
theorem nmJ7 : ∀ a, a < 0 → ∀ b, b < 0 → a ≠ b → (TJ7 a).2.1 ≠ (TJ7 b).2.1 := by decide +kernel
theorem tyJ7_ok : ∀ k, k < 0 → parseFieldDescriptor (TJ7 k).2.2.1 = some (tyJ7 k) := by decide +kernel
abbrev cJ7_fill_d0a16 : ByteArray := prog_22_method_101_code
def yJ7_fill_d0a16 : MethodName := ⟨RJ7, "fill", "([JJ)V"⟩
abbrev cJ7_fill_53178 : ByteArray := prog_22_method_103_code
def yJ7_fill_53178 : MethodName := ⟨RJ7, "fill", "([II)V"⟩
def RL : String := "NoonValleyLaw"
abbrev cL_line : ByteArray := method_3_code
def yL_line : MethodName := ⟨RL, "line", "(LNoonValley;III[J)I"⟩
abbrev cL_law : ByteArray := code
def yL_law : MethodName := ⟨RL, "law", "([I)Z"⟩
end
section
/-! rows of this proof alone: one list of words for every contract, one context, one world -/
abbrev CLS : List vw_C := [(RX0, TX0, 7), (RX1, TX1, 5), (RX2, TX2, 2), (RX3, TX3, 3), (RX4, TX4, 9), (RX5, TX5, 6), (RX6, TX6, 5), (RX7, TX7, 17), (RX8, TX8, 3), (RX9, TX9, 3), (RX10, TX10, 16), (RX11, TX11, 14), (RX12, TX12, 64)]
/-- the tables' words that hold on warmed tables too -/
def BW : List Cond := lw_tbl.filter goodWord
/-- the links between nest mates -/
def isNest : Cond → Bool
  | .fieldLinkNest .. => true
  | .methodLinkNest .. => true
  | _ => false
def NWS : List Cond := lw_tbl.filter isNest
theorem BW_good {w : Cond} (h : w ∈ BW) : goodWord w = true := (List.mem_filter.mp h).2
theorem BW_tbl {w : Cond} (h : w ∈ BW) : w ∈ lw_tbl := (List.mem_filter.mp h).1
theorem bw {w : Cond} (h : w ∈ lw_tbl) (g : goodWord w = true) : w ∈ BW := List.mem_filter.mpr ⟨h, g⟩
theorem nw {w : Cond} (h : w ∈ lw_tbl) (g : isNest w = true) : w ∈ NWS := List.mem_filter.mpr ⟨h, g⟩
theorem tb1 {w : Cond} (i : Nat) (h : tables_1_1[i]? = some w) : w ∈ lw_tbl := List.mem_append_right _ (List.mem_append_left _ (List.mem_of_getElem? h))
theorem tb2 {w : Cond} (i : Nat) (h : tables_1_2[i]? = some w) : w ∈ lw_tbl := List.mem_append_right _ (List.mem_append_right _ (List.mem_append_left _ (List.mem_of_getElem? h)))
theorem tb3 {w : Cond} (i : Nat) (h : tables_1_3[i]? = some w) : w ∈ lw_tbl := List.mem_append_right _ (List.mem_append_right _ (List.mem_append_right _ (List.mem_append_left _ (List.mem_of_getElem? h))))
theorem tb4 {w : Cond} (i : Nat) (h : tables_1_4[i]? = some w) : w ∈ lw_tbl := List.mem_append_right _ (List.mem_append_right _ (List.mem_append_right _ (List.mem_append_right _ (List.mem_append_left _ (List.mem_of_getElem? h)))))
theorem tb5 {w : Cond} (i : Nat) (h : tables_1_5[i]? = some w) : w ∈ lw_tbl := List.mem_append_right _ (List.mem_append_right _ (List.mem_append_right _ (List.mem_append_right _ (List.mem_append_right _ (List.mem_append_left _ (List.mem_of_getElem? h))))))
theorem tb6 {w : Cond} (i : Nat) (h : tables_1_6[i]? = some w) : w ∈ lw_tbl := List.mem_append_right _ (List.mem_append_right _ (List.mem_append_right _ (List.mem_append_right _ (List.mem_append_right _ (List.mem_append_right _ (List.mem_append_left _ (List.mem_of_getElem? h)))))))
theorem tb7 {w : Cond} (i : Nat) (h : tables_1_7[i]? = some w) : w ∈ lw_tbl := List.mem_append_right _ (List.mem_append_right _ (List.mem_append_right _ (List.mem_append_right _ (List.mem_append_right _ (List.mem_append_right _ (List.mem_append_right _ (List.mem_append_left _ (List.mem_of_getElem? h))))))))
theorem tb8 {w : Cond} (i : Nat) (h : tables_1_8[i]? = some w) : w ∈ lw_tbl := List.mem_append_right _ (List.mem_append_right _ (List.mem_append_right _ (List.mem_append_right _ (List.mem_append_right _ (List.mem_append_right _ (List.mem_append_right _ (List.mem_append_right _ (List.mem_of_getElem? h))))))))
theorem sl {y : MethodName} (n : Nat) (h : (y, n) ∈ lw_privs) : Cond.selects y.cls y y ∈ lw_tbl := List.mem_append_left _ (List.mem_map.mpr ⟨(y, n), h, rfl⟩)
theorem sl1 {y : MethodName} {n : Nat} (i : Nat) (h : lw_privs_1[i]? = some (y, n)) : Cond.selects y.cls y y ∈ lw_tbl := sl n (List.mem_append_left _ (List.mem_of_getElem? h))
theorem sl2 {y : MethodName} {n : Nat} (i : Nat) (h : lw_privs_2[i]? = some (y, n)) : Cond.selects y.cls y y ∈ lw_tbl := sl n (List.mem_append_right _ (List.mem_append_left _ (List.mem_of_getElem? h)))
theorem sl3 {y : MethodName} {n : Nat} (i : Nat) (h : lw_privs_3[i]? = some (y, n)) : Cond.selects y.cls y y ∈ lw_tbl := sl n (List.mem_append_right _ (List.mem_append_right _ (List.mem_append_left _ (List.mem_of_getElem? h))))
theorem sl4 {y : MethodName} {n : Nat} (i : Nat) (h : lw_privs_4[i]? = some (y, n)) : Cond.selects y.cls y y ∈ lw_tbl := sl n (List.mem_append_right _ (List.mem_append_right _ (List.mem_append_right _ (List.mem_append_left _ (List.mem_of_getElem? h)))))
theorem sl5 {y : MethodName} {n : Nat} (i : Nat) (h : lw_privs_5[i]? = some (y, n)) : Cond.selects y.cls y y ∈ lw_tbl := sl n (List.mem_append_right _ (List.mem_append_right _ (List.mem_append_right _ (List.mem_append_right _ (List.mem_append_left _ (List.mem_of_getElem? h))))))
theorem sl6 {y : MethodName} {n : Nat} (i : Nat) (h : lw_privs_6[i]? = some (y, n)) : Cond.selects y.cls y y ∈ lw_tbl := sl n (List.mem_append_right _ (List.mem_append_right _ (List.mem_append_right _ (List.mem_append_right _ (List.mem_append_right _ (List.mem_append_left _ (List.mem_of_getElem? h)))))))
theorem sl7 {y : MethodName} {n : Nat} (i : Nat) (h : lw_privs_7[i]? = some (y, n)) : Cond.selects y.cls y y ∈ lw_tbl := sl n (List.mem_append_right _ (List.mem_append_right _ (List.mem_append_right _ (List.mem_append_right _ (List.mem_append_right _ (List.mem_append_right _ (List.mem_of_getElem? h)))))))
/-- what every contract knows of the machine: the classes' slots, the arrays' classes, the tables' addresses -/
abbrev GG : Type := va_G × (Nat → ClassId) × Nat × Nat
abbrev TYS (g : GG) : List (ClassId × FieldType) := [(g.2.1 0, .byte), (g.2.1 1, .int), (g.2.1 2, .long), (g.2.1 3, .boolean), (g.2.1 4, .object RX10), (g.2.1 5, .object RX4)]
def KX (g : GG) (U : State) : Prop := va_K g.1 CLS (TYS g) U ∧ (∀ w ∈ NWS, va_Nw w U) ∧ va_AO RX10 U ∧ va_AO RX4 U
theorem KX.warm {g : GG} {s U : State} (hW : s.WarmedH U.vm) (h : KX g s) : KX g U := by
  refine ⟨va_K.moved hW.alike h.1, fun w hw => ?_, va_AO.moved hW.alike h.2.2.1, va_AO.moved hW.alike h.2.2.2⟩
  have h1 := h.2.1 w hw
  have h2 : isNest w = true := (List.mem_filter.mp hw).2
  cases w <;> first | exact va_Nw.warmF hW h1 | exact va_Nw.warmM hW h1 | cases h2
theorem KX.calling {g : GG} {U : State} {f : JFrame} {mk : MethodId} {a : Array Value} (h : KX g U) : KX g (U.calling f mk a) := by
  refine ⟨va_K.moved (u := U) (U := U.calling f mk a) (Vm.Alike.refl U.vm) h.1, fun w hw => ?_, va_AO.moved (u := U) (U := U.calling f mk a) (Vm.Alike.refl U.vm) h.2.2.1, va_AO.moved (u := U) (U := U.calling f mk a) (Vm.Alike.refl U.vm) h.2.2.2⟩
  have h1 := h.2.1 w hw
  have h2 : isNest w = true := (List.mem_filter.mp hw).2
  cases w <;> first | exact va_Nw.same rfl rfl h1 | cases h2
/-- the two tables of the class Trade -/
def fCA (j : Nat) : Value := .int (if j = 3 then 1 else if j = 4 then 1 else if j = 5 then 2 else 0)
def fCB (j : Nat) : Value := .int (if j = 0 then 1 else if j = 1 then 2 else if j = 2 then 3 else if j = 3 then 2 else 3)
def TB (g : GG) (A : Nat → Prop) (U : State) (H : Heap) : Prop :=
  (va_Z RX9 "COUPLE_A" "[I" (.ref g.2.2.1) A U H ∧ va_T .int g.2.2.1 6 fCA A U H) ∧ (va_Z RX9 "COUPLE_B" "[I" (.ref g.2.2.2) A U H ∧ va_T .int g.2.2.2 6 fCB A U H)
theorem TB.moved {g : GG} {A : Nat → Prop} {u U : State} {H : Heap} (hvm : u.vm.Alike U.vm) (h : TB g A u H) : TB g A U H := ⟨⟨h.1.1.moved hvm, h.1.2.moved hvm⟩, h.2.1.moved hvm, h.2.2.moved hvm⟩
theorem TB.kept {g : GG} {A : Nat → Prop} {U : State} {H H1 : Heap} (h : TB g A U H) (hq : ∀ a : Nat, a < H.size → ¬ A a → H1[a]? = H[a]?) : TB g A U H1 := ⟨⟨h.1.1.kept hq, h.1.2.kept hq⟩, h.2.1.kept hq, h.2.2.kept hq⟩
theorem TB.narrow {g : GG} {A B : Nat → Prop} {U : State} {H : Heap} (h : TB g A U H) (hAB : ∀ q, B q → A q) : TB g B U H := ⟨⟨h.1.1.narrow hAB, h.1.2.narrow hAB⟩, h.2.1.narrow hAB, h.2.2.narrow hAB⟩
/-- a method's start -/
def PRE (g : GG) (ws : va_W) (sz : Nat) : State → Prop := fun U => U.heap.size = sz ∧ va_P g.1 CLS ws U.heap ∧ KX g U ∧ va_D (fun _ => True) ws ∧ TB g (va_A ws sz) U U.heap
theorem PRE.blind {g : GG} {ws : va_W} {sz : Nat} {As : List Value} : FrameBlind (va_Pc As (PRE g ws sz)) := by
  intro a U f mk q
  obtain ⟨q0, q1, qP, qK, qD, qT⟩ := q
  exact ⟨q0, q1, qP, qK.calling, qD, TB.moved (u := U) (U := U.calling f mk a) (Vm.Alike.refl U.vm) qT⟩
/-- a method's end: the world behind it -/
abbrev BO (g : GG) (A : Nat → Prop) : va_W → State → Prop := fun u t => va_P g.1 CLS u t.heap ∧ va_D A u
abbrev RM (d mc ms : Nat) : Room := { frames := d, cells := mc, slots := ms, locals := 40 * d }
abbrev WW (y : MethodName) (c : ByteArray) (n : Nat) (r : Option FieldType) : List Cond := Cond.code y c n r :: BW
def MetI (l : Launch) (g : GG) (y : MethodName) (c : ByteArray) (n : Nat) (r : Option FieldType) (d mc ms : Nat) (As : List Value) (ws : va_W) (post : Int32 → va_W → Prop) : Prop :=
  ∀ sz, Met l y (WW y c n r) (RM d mc ms) (va_Pc As (PRE g ws sz)) (va_Qi post (BO g (va_A ws sz)) (va_A ws sz)) mc ms (va_A ws sz)
def MetL (l : Launch) (g : GG) (y : MethodName) (c : ByteArray) (n : Nat) (r : Option FieldType) (d mc ms : Nat) (As : List Value) (ws : va_W) (post : Int64 → va_W → Prop) : Prop :=
  ∀ sz, Met l y (WW y c n r) (RM d mc ms) (va_Pc As (PRE g ws sz)) (va_Ql post (BO g (va_A ws sz)) (va_A ws sz)) mc ms (va_A ws sz)
def MetV (l : Launch) (g : GG) (y : MethodName) (c : ByteArray) (n : Nat) (r : Option FieldType) (d mc ms : Nat) (As : List Value) (ws : va_W) (post : va_W → Prop) : Prop :=
  ∀ sz, Met l y (WW y c n r) (RM d mc ms) (va_Pc As (PRE g ws sz)) (va_Qv post (BO g (va_A ws sz)) (va_A ws sz)) mc ms (va_A ws sz)
def MetQ (l : Launch) (g : GG) (y : MethodName) (c : ByteArray) (n : Nat) (r : Option FieldType) (d mc ms : Nat) (As : List Value) (ws : va_W) (post : Option Nat → va_W → Prop) : Prop :=
  ∀ sz, Met l y (WW y c n r) (RM d mc ms) (va_Pc As (PRE g ws sz)) (va_Qq post (BO g (va_A ws sz)) (va_A ws sz)) mc ms (va_A ws sz)
/-- a method's frame and what it knows -/
def CTX (p : Program) (l : Launch) (m : MethodId) (meth : Method) (c : Code) (cc : ByteArray) (nL : Nat) (s : State) (args : Array Value) (own : String) (g : GG) (A : Nat → Prop) : Prop :=
  p.tables.exec = Jvm.exec ∧ c.code = cc ∧ c.maxLocals = nL ∧ s.vm.findClass own = some m.cls ∧ (∀ w ∈ BW, w.before args s = true) ∧ KX g s ∧ TB g A s s.heap ∧ (∀ q : Nat, s.heap.size ≤ q → A q) ∧ meth.locks = false
/-- the world: what the cells hold, that they are apart and the method's own, what has changed -/
def WD (g : GG) (A : Nat → Prop) (s : State) (H : Heap) (locs : List Loc) (ws : va_W) : Prop := va_P g.1 CLS ws H ∧ va_D A ws ∧ va_S A s.heap H locs
theorem WD.pick {g : GG} {A : Nat → Prop} {s : State} {H : Heap} {locs : List Loc} {ws ws' : va_W} (h : WD g A s H locs ws) (is : List Nat) (hn : va_nd is = true) (hs : is.map (fun i => ws[i]?) = ws'.map some) : WD g A s H locs ws' := by
  refine ⟨fun k q hk => ?_, h.2.1.sub is hn hs, h.2.2⟩
  have h1 : (is.map (fun i => ws[i]?))[k]? = some (some q) := by rw [hs, List.getElem?_map, hk]; rfl
  rw [List.getElem?_map] at h1
  cases hi : is[k]? with
  | none => rw [hi] at h1; cases h1
  | some i => rw [hi] at h1; exact h.1 i q (Option.some.inj h1)
/-- a class by its place in CLS: its words, its types -/
def CI (ci : Nat) (C : String) (T : u_T) (N : Nat) (ty : Nat → FieldType) : Prop := CLS[ci]? = some (C, T, N) ∧ (∀ w ∈ u_ws C T N, w ∈ BW) ∧ (∀ k, k < N → parseFieldDescriptor (T k).2.2.1 = some (ty k)) ∧ (∀ a, a < N → ∀ b, b < N → a ≠ b → (T a).2.1 ≠ (T b).2.1)
/-- the words of a call -/
def LV (own : String) (idx : Nat) (C : String) (y : MethodName) (c : ByteArray) (n : Nat) (r : Option FieldType) (k : Nat) : Prop :=
  Cond.methodLink own idx y ∈ BW ∧ Cond.instanceMethod y ∈ BW ∧ Cond.selects C y y ∈ BW ∧ Cond.initialized C ∈ BW ∧ Cond.code y c n r ∈ BW ∧ y.cls = C ∧ y.cls ≠ "java/lang/invoke/MethodHandle" ∧ y.cls ≠ "java/lang/invoke/VarHandle" ∧ (parseMethodDescriptor y.desc).map (fun d => d.parameters.length) = some k
def LST (own : String) (idx : Nat) (y : MethodName) (c : ByteArray) (n : Nat) (r : Option FieldType) (k : Nat) : Prop :=
  Cond.methodLink own idx y ∈ BW ∧ Cond.static y ∈ BW ∧ Cond.initialized y.cls ∈ BW ∧ Cond.code y c n r ∈ BW ∧ y.cls ≠ "java/lang/invoke/MethodHandle" ∧ y.cls ≠ "java/lang/invoke/VarHandle" ∧ (parseMethodDescriptor y.desc).map (fun d => d.parameters.length) = some k
def LSN (own : String) (idx : Nat) (host : String) (y : MethodName) (c : ByteArray) (n : Nat) (r : Option FieldType) (k : Nat) : Prop :=
  Cond.methodLinkNest own idx y host ∈ NWS ∧ Cond.static y ∈ BW ∧ Cond.initialized y.cls ∈ BW ∧ Cond.code y c n r ∈ BW ∧ y.cls ≠ "java/lang/invoke/MethodHandle" ∧ y.cls ≠ "java/lang/invoke/VarHandle" ∧ (parseMethodDescriptor y.desc).map (fun d => d.parameters.length) = some k
def LI (own : String) (idx : Nat) (y : MethodName) (c : ByteArray) (n : Nat) (k : Nat) : Prop :=
  Cond.methodLink own idx y ∈ BW ∧ Cond.instanceMethod y ∈ BW ∧ Cond.initialized y.cls ∈ BW ∧ Cond.code y c n none ∈ BW ∧ y.name = "<init>" ∧ y.cls ≠ "java/lang/invoke/MethodHandle" ∧ y.cls ≠ "java/lang/invoke/VarHandle" ∧ (parseMethodDescriptor y.desc).map (fun d => d.parameters.length) = some k
def LIN (own : String) (idx : Nat) (host : String) (y : MethodName) (c : ByteArray) (n : Nat) (k : Nat) : Prop :=
  Cond.methodLinkNest own idx y host ∈ NWS ∧ Cond.instanceMethod y ∈ BW ∧ Cond.initialized y.cls ∈ BW ∧ Cond.code y c n none ∈ BW ∧ y.name = "<init>" ∧ y.cls ≠ "java/lang/invoke/MethodHandle" ∧ y.cls ≠ "java/lang/invoke/VarHandle" ∧ (parseMethodDescriptor y.desc).map (fun d => d.parameters.length) = some k
theorem good_in {ws : List Cond} (h : ∀ w ∈ ws, w ∈ BW) : GoodIn BW ws := fun w hw => ⟨h w hw, good_of_word (BW_good (h w hw))⟩
theorem good_ww {y : MethodName} {c : ByteArray} {n : Nat} {r : Option FieldType} (h : Cond.code y c n r ∈ BW) : GoodIn BW (WW y c n r) := good_in fun w hw => by
  rcases List.mem_cons.mp hw with rfl | hw
  · exact h
  · exact hw
section
variable {p : Program} {l : Launch} {e : Env} {R : Room} {s : State} {m : MethodId} {args : Array Value} {below : List Frame} {meth : Method} {c : Code} {H : Heap} {locs : List Loc} {cells slots : Nat} {Q : State → Prop}
variable {cc : ByteArray} {pc nL : Nat} {ls : Array Slot} {rest : List Value} {own : String} {g : GG} {A : Nat → Prop} {ws ws' : va_W} {a : Nat}
-- fields
theorem r_get (X : CTX p l m meth c cc nL s args own g A) (hW : WD g A s H locs ws) (q0 : Nat) {ci : Nat} {C ref : String} {T : u_T} {N index : Nat} {ty : Nat → FieldType} (hc : CI ci C T N ty) (k : Nat) {fs : List Value} (he : ws[q0]? = some (a, .inr (ci, fs))) (hk : k < N) (hl : Cond.fieldLink own index ref (T k).2.1 (T k).2.2.1 ∈ BW) (href : (T k).1 = ref) {v : Value} (hv : fs[k]? = some v) (hdg : decode cc pc = .ok (.getfield index, 3))
    (kk : W p l e R s m args below meth c H locs cells slots Q (F0 m (pc + 3) ls (v :: rest))) : W p l e R s m args below meth c H locs cells slots Q (F0 m pc ls (.ref a :: rest)) :=
  va_get X.1 X.2.1 X.2.2.2.2.1 hc.2.1 X.2.2.2.1 X.2.2.2.2.2.1.1 hW.1 q0 he hc.1 k hk (X.2.2.2.2.1 _ hl) (fun _ h => by rw [← href]; exact h) hv hdg kk
theorem r_getN (X : CTX p l m meth c cc nL s args own g A) (hW : WD g A s H locs ws) (q0 : Nat) {ci : Nat} {C ref host : String} {T : u_T} {N index : Nat} {ty : Nat → FieldType} (hc : CI ci C T N ty) (k : Nat) {fs : List Value} (he : ws[q0]? = some (a, .inr (ci, fs))) (hk : k < N) (hl : Cond.fieldLinkNest own index ref (T k).2.1 (T k).2.2.1 host ∈ NWS) (href : (T k).1 = ref) {v : Value} (hv : fs[k]? = some v) (hdg : decode cc pc = .ok (.getfield index, 3))
    (kk : W p l e R s m args below meth c H locs cells slots Q (F0 m (pc + 3) ls (v :: rest))) : W p l e R s m args below meth c H locs cells slots Q (F0 m pc ls (.ref a :: rest)) :=
  va_getN X.1 X.2.1 X.2.2.2.2.1 hc.2.1 X.2.2.2.1 X.2.2.2.2.2.1.1 hW.1 q0 he hc.1 k hk (va_Nw.use rfl (X.2.2.2.2.2.1.2.1 _ hl)) (fun _ h => by rw [← href]; exact h) hv hdg kk
theorem r_put (X : CTX p l m meth c cc nL s args own g A) (hW : WD g A s H locs ws) (q0 : Nat) {ci : Nat} {C ref : String} {T : u_T} {N index : Nat} {ty : Nat → FieldType} (hc : CI ci C T N ty) (k : Nat) {fs : List Value} (he : ws[q0]? = some (a, .inr (ci, fs))) (hk : k < N) (hl : Cond.fieldLink own index ref (T k).2.1 (T k).2.2.1 ∈ BW) (href : (T k).1 = ref) (hfin : (T k).2.2.2 = false) {v : Value} (hn : narrow (ty k) v = v) (hfit : fits (ty k) v = true) (hlt : k < fs.length) (hws : ws.set q0 (a, .inr (ci, fs.set k v)) = ws') (hdg : decode cc pc = .ok (.putfield index, 3))
    (kk : ∀ (H1 : Heap) (locs1 : List Loc), WD g A s H1 locs1 ws' → W p l e R s m args below meth c H1 locs1 cells slots Q (F0 m (pc + 3) ls rest)) : W p l e R s m args below meth c H locs cells slots Q (F0 m pc ls (v :: .ref a :: rest)) := by
  subst hws
  exact va_put X.1 X.2.1 X.2.2.2.2.1 hc.2.1 ty hc.2.2.1 hc.2.2.2 X.2.2.2.1 X.2.2.2.2.2.1.1 hW.1 hW.2.1 hW.2.2 q0 he hc.1 k hk (X.2.2.2.2.1 _ hl) (fun _ h => by rw [← href]; exact h) hfin (hc.2.2.1 k hk) hn hfit hlt hdg (fun H1 locs1 h1 h2 h3 => kk H1 locs1 ⟨h1, h2, h3⟩)
theorem r_putN (X : CTX p l m meth c cc nL s args own g A) (hW : WD g A s H locs ws) (q0 : Nat) {ci : Nat} {C ref host : String} {T : u_T} {N index : Nat} {ty : Nat → FieldType} (hc : CI ci C T N ty) (k : Nat) {fs : List Value} (he : ws[q0]? = some (a, .inr (ci, fs))) (hk : k < N) (hl : Cond.fieldLinkNest own index ref (T k).2.1 (T k).2.2.1 host ∈ NWS) (href : (T k).1 = ref) (hfin : (T k).2.2.2 = false) {v : Value} (hn : narrow (ty k) v = v) (hfit : fits (ty k) v = true) (hlt : k < fs.length) (hws : ws.set q0 (a, .inr (ci, fs.set k v)) = ws') (hdg : decode cc pc = .ok (.putfield index, 3))
    (kk : ∀ (H1 : Heap) (locs1 : List Loc), WD g A s H1 locs1 ws' → W p l e R s m args below meth c H1 locs1 cells slots Q (F0 m (pc + 3) ls rest)) : W p l e R s m args below meth c H locs cells slots Q (F0 m pc ls (v :: .ref a :: rest)) := by
  subst hws
  exact va_putN X.1 X.2.1 X.2.2.2.2.1 hc.2.1 ty hc.2.2.1 hc.2.2.2 X.2.2.2.1 X.2.2.2.2.2.1.1 hW.1 hW.2.1 hW.2.2 q0 he hc.1 k hk (va_Nw.use rfl (X.2.2.2.2.2.1.2.1 _ hl)) (fun _ h => by rw [← href]; exact h) hfin (hc.2.2.1 k hk) hn hfit hlt hdg (fun H1 locs1 h1 h2 h3 => kk H1 locs1 ⟨h1, h2, h3⟩)
theorem r_putF (X : CTX p l m meth c cc nL s args own g A) (hin : meth.name = "<init>") (hW : WD g A s H locs ws) (q0 : Nat) {ci : Nat} {C ref : String} {T : u_T} {N index : Nat} {ty : Nat → FieldType} (hc : CI ci C T N ty) (k : Nat) {fs : List Value} (he : ws[q0]? = some (a, .inr (ci, fs))) (hk : k < N) (hl : Cond.fieldLink own index ref (T k).2.1 (T k).2.2.1 ∈ BW) (href : (T k).1 = ref) (hfin : (T k).2.2.2 = true) (hdecl : (T k).1 = own) {v : Value} (hn : narrow (ty k) v = v) (hfit : fits (ty k) v = true) (hlt : k < fs.length) (hws : ws.set q0 (a, .inr (ci, fs.set k v)) = ws') (hdg : decode cc pc = .ok (.putfield index, 3))
    (kk : ∀ (H1 : Heap) (locs1 : List Loc), WD g A s H1 locs1 ws' → W p l e R s m args below meth c H1 locs1 cells slots Q (F0 m (pc + 3) ls rest)) : W p l e R s m args below meth c H locs cells slots Q (F0 m pc ls (v :: .ref a :: rest)) := by
  subst hws
  exact va_putF X.1 X.2.1 X.2.2.2.2.1 hc.2.1 ty hc.2.2.1 hc.2.2.2 X.2.2.2.1 X.2.2.2.2.2.1.1 hW.1 hW.2.1 hW.2.2 q0 he hc.1 k hk (X.2.2.2.2.1 _ hl) (fun _ h => by rw [← href]; exact h) hfin hin hdecl (hc.2.2.1 k hk) hn hfit hlt hdg (fun H1 locs1 h1 h2 h3 => kk H1 locs1 ⟨h1, h2, h3⟩)
-- new objects and arrays
theorem r_new (X : CTX p l m meth c cc nL s args own g A) (hW : WD g A s H locs ws) {ci : Nat} {C : String} {T : u_T} {N index : Nat} {ty : Nat → FieldType} (hc : CI ci C T N ty) (h1 : Cond.classLink own index C ∈ BW) (h2 : Cond.instantiable C N ∈ BW) (h3 : Cond.initialized C ∈ BW) {fs : List Value} (hfs : (List.range N).all (fun j => decide (defaultValue (ty j) = vp_V fs j)) = true) (hf : cells + 1 ≤ R.cells ∧ slots + N ≤ R.slots) (hdg : decode cc pc = .ok (.new index, 3))
    (kk : ∀ (q : Nat) (H1 : Heap), WD g A s H1 locs (ws ++ [(q, .inr (ci, fs))]) → W p l e R s m args below meth c H1 locs (cells + 1) (slots + N) Q (F0 m (pc + 3) ls (.ref q :: rest))) : W p l e R s m args below meth c H locs cells slots Q (F0 m pc ls rest) :=
  va_new X.1 X.2.1 X.2.2.2.2.1 hc.2.1 ty hc.2.2.1 X.2.2.2.1 (X.2.2.2.2.1 _ h1) (X.2.2.2.2.1 _ h2) (X.2.2.2.2.1 _ h3) X.2.2.2.2.2.1.1 hW.1 hW.2.1 hW.2.2 X.2.2.2.2.2.2.2.1 hc.1 (fun j hj => of_decide_eq_true (List.all_eq_true.mp hfs j (List.mem_range.mpr hj))) hf.1 hf.2 hdg (fun q H1 a1 a2 a3 => kk q H1 ⟨a1, a2, a3⟩)
theorem tys_one {D : va_G} {cl : List vw_C} {tys : List (ClassId × FieldType)} {U : State} {k : Nat} {c1 c2 : ClassId} {ty : FieldType} (hK : va_K D cl (tys ++ [(c1, ty)]) U) (hk : tys[k]? = some (c2, ty)) (hty : ∀ C, ty ≠ .object C) : c1 = c2 := by
  have h1 := (hK.2 tys.length (c1, ty) (by simp)).2
  have hlt : k < tys.length := (List.getElem?_eq_some_iff.mp hk).1
  have h2 := (hK.2 k (c2, ty) (by rw [List.getElem?_append_left hlt]; exact hk)).2
  cases ty <;> first | exact Option.some.inj (h1.symm.trans h2) | exact absurd rfl (hty _)
theorem tys_oneO {D : va_G} {cl : List vw_C} {tys : List (ClassId × FieldType)} {U : State} {k : Nat} {c1 c2 : ClassId} {C : String} (hK : va_K D cl (tys ++ [(c1, .object C)]) U) (hk : tys[k]? = some (c2, .object C)) : c1 = c2 := by
  obtain ⟨-, -, -, -, -, h1⟩ := (hK.2 tys.length (c1, .object C) (by simp)).2
  have hlt : k < tys.length := (List.getElem?_eq_some_iff.mp hk).1
  obtain ⟨-, -, -, -, -, h2⟩ := (hK.2 k (c2, .object C) (by rw [List.getElem?_append_left hlt]; exact hk)).2
  exact Option.some.inj (h1.symm.trans h2)
theorem r_newa (X : CTX p l m meth c cc nL s args own g A) (hW : WD g A s H locs ws) (atype : ArrayType) {ty : FieldType} (hty : newarray.typeOf atype = ty) (harr : Cond.arrayClass ty ∈ BW) (t0 : Nat) {cA : ClassId} (ht : (TYS g)[t0]? = some (cA, ty)) (hto : ∀ C, ty ≠ .object C) {n : Int32} {N : Nat} {a0 : vp_A} (ha : ∀ cA : ClassId, vp_cell cA a0 = arrV cA N (fun _ => defaultValue ty)) (hn : ¬ n < 0) (hN : n.toNatClampNeg = N) (hb9 : N * componentBytes ty ≤ 536870912) (hf : cells + 1 ≤ R.cells ∧ slots + N ≤ R.slots) (hdg : decode cc pc = .ok (.newarray atype, 2))
    (kk : ∀ (q : Nat) (H1 : Heap), WD g A s H1 locs (ws ++ [(q, .inl (cA, a0))]) → W p l e R s m args below meth c H1 locs (cells + 1) (slots + N) Q (F0 m (pc + 2) ls (.ref q :: rest))) : W p l e R s m args below meth c H locs cells slots Q (F0 m pc ls (.int n :: rest)) := by
  refine va_newa X.1 X.2.1 (atype := atype) (by rw [hty]; exact X.2.2.2.2.1 _ harr) hty X.2.2.2.2.2.1.1 hW.1 hW.2.1 hW.2.2 X.2.2.2.2.2.2.2.1 ha hn hN hb9 hf.1 hf.2 hdg (fun q cA' H1 h1 h2 h3 h4 => ?_)
  obtain rfl := tys_one h1 ht hto
  exact kk q H1 ⟨h2, h3, h4⟩
theorem r_newq (X : CTX p l m meth c cc nL s args own g A) (hW : WD g A s H locs ws) {C : String} {index : Nat} (hcl : Cond.classLink own index C ∈ BW) (hao : KX g s → va_AO C s) (t0 : Nat) {cA : ClassId} (ht : (TYS g)[t0]? = some (cA, .object C)) {n : Int32} {N : Nat} (hn : ¬ n < 0) (hN : n.toNatClampNeg = N) (hb9 : N * 4 ≤ 536870912) (hf : cells + 1 ≤ R.cells ∧ slots + N ≤ R.slots) (hdg : decode cc pc = .ok (.anewarray index, 3))
    (kk : ∀ (q : Nat) (H1 : Heap), WD g A s H1 locs (ws ++ [(q, .inl (cA, N, .inr (.inr (.inr (.inr (fun _ => none))))))]) → W p l e R s m args below meth c H1 locs (cells + 1) (slots + N) Q (F0 m (pc + 3) ls (.ref q :: rest))) : W p l e R s m args below meth c H locs cells slots Q (F0 m pc ls (.int n :: rest)) := by
  refine va_newq X.1 X.2.1 X.2.2.2.1 (X.2.2.2.2.1 _ hcl) (hao X.2.2.2.2.2.1) X.2.2.2.2.2.1.1 hW.1 hW.2.1 hW.2.2 X.2.2.2.2.2.2.2.1 hn hN hb9 hf.1 hf.2 hdg (fun q cA' H1 h1 h2 h3 h4 => ?_)
  obtain rfl := tys_oneO h1 ht
  exact kk q H1 ⟨h2, h3, h4⟩
-- arrays
theorem r_iald (X : CTX p l m meth c cc nL s args own g A) (hW : WD g A s H locs ws) (q0 : Nat) {n : Nat} {f : Nat → Int32} (ha : ws[q0]? = some (a, .inl (g.2.1 1, n, .inl f))) {i : Int32} (hin : vp_in i n) (hdg : decode cc pc = .ok (.iaload, 1))
    (kk : W p l e R s m args below meth c H locs cells slots Q (F0 m (pc + 1) ls (.int (f i.toNatClampNeg) :: rest))) : W p l e R s m args below meth c H locs cells slots Q (F0 m pc ls (.int i :: .ref a :: rest)) :=
  va_iald X.1 X.2.1 X.2.2.2.2.2.1.1 hW.1 q0 1 ha rfl hin hdg kk
theorem r_bald (X : CTX p l m meth c cc nL s args own g A) (hW : WD g A s H locs ws) (q0 : Nat) {n : Nat} {f : Nat → Int32} (ha : ws[q0]? = some (a, .inl (g.2.1 0, n, .inl f))) {i : Int32} (hin : vp_in i n) (hdg : decode cc pc = .ok (.baload, 1))
    (kk : W p l e R s m args below meth c H locs cells slots Q (F0 m (pc + 1) ls (.int (f i.toNatClampNeg) :: rest))) : W p l e R s m args below meth c H locs cells slots Q (F0 m pc ls (.int i :: .ref a :: rest)) :=
  va_bald X.1 X.2.1 X.2.2.2.2.2.1.1 hW.1 q0 0 ha rfl hin hdg kk
theorem r_lald (X : CTX p l m meth c cc nL s args own g A) (hW : WD g A s H locs ws) (q0 : Nat) {n : Nat} {f : Nat → Int64} (ha : ws[q0]? = some (a, .inl (g.2.1 2, n, .inr (.inl f)))) {i : Int32} (hin : vp_in i n) (hdg : decode cc pc = .ok (.laload, 1))
    (kk : W p l e R s m args below meth c H locs cells slots Q (F0 m (pc + 1) ls (.long (f i.toNatClampNeg) :: rest))) : W p l e R s m args below meth c H locs cells slots Q (F0 m pc ls (.int i :: .ref a :: rest)) :=
  va_lald X.1 X.2.1 X.2.2.2.2.2.1.1 hW.1 q0 2 ha rfl hin hdg kk
theorem r_zald (X : CTX p l m meth c cc nL s args own g A) (hW : WD g A s H locs ws) (q0 : Nat) {n : Nat} {f : Nat → Int32} (ha : ws[q0]? = some (a, .inl (g.2.1 3, n, .inl f))) {i : Int32} (hin : vp_in i n) (hdg : decode cc pc = .ok (.baload, 1))
    (kk : W p l e R s m args below meth c H locs cells slots Q (F0 m (pc + 1) ls (.int (f i.toNatClampNeg) :: rest))) : W p l e R s m args below meth c H locs cells slots Q (F0 m pc ls (.int i :: .ref a :: rest)) :=
  va_zald X.1 X.2.1 X.2.2.2.2.2.1.1 hW.1 q0 3 ha rfl hin hdg kk
theorem r_iast (X : CTX p l m meth c cc nL s args own g A) (hW : WD g A s H locs ws) (q0 : Nat) {n : Nat} {f : Nat → Int32} (ha : ws[q0]? = some (a, .inl (g.2.1 1, n, .inl f))) {i x : Int32} (hin : vp_in i n) {f' : Nat → Int32} (hf' : upd f i.toNatClampNeg x = f') (hws : ws.set q0 (a, .inl (g.2.1 1, n, .inl f')) = ws') (hdg : decode cc pc = .ok (.iastore, 1))
    (kk : ∀ (H1 : Heap) (locs1 : List Loc), WD g A s H1 locs1 ws' → W p l e R s m args below meth c H1 locs1 cells slots Q (F0 m (pc + 1) ls rest)) : W p l e R s m args below meth c H locs cells slots Q (F0 m pc ls (.int x :: .int i :: .ref a :: rest)) := by
  subst hf' hws
  exact va_iast X.1 X.2.1 X.2.2.2.2.2.1.1 hW.1 hW.2.1 hW.2.2 q0 1 ha rfl hin hdg (fun H1 locs1 h1 h2 h3 => kk H1 locs1 ⟨h1, h2, h3⟩)
theorem r_bast (X : CTX p l m meth c cc nL s args own g A) (hW : WD g A s H locs ws) (q0 : Nat) {n : Nat} {f : Nat → Int32} (ha : ws[q0]? = some (a, .inl (g.2.1 0, n, .inl f))) {i x : Int32} (hin : vp_in i n) {f' : Nat → Int32} (hf' : upd f i.toNatClampNeg (vp_nar .byte x) = f') (hws : ws.set q0 (a, .inl (g.2.1 0, n, .inl f')) = ws') (hdg : decode cc pc = .ok (.bastore, 1))
    (kk : ∀ (H1 : Heap) (locs1 : List Loc), WD g A s H1 locs1 ws' → W p l e R s m args below meth c H1 locs1 cells slots Q (F0 m (pc + 1) ls rest)) : W p l e R s m args below meth c H locs cells slots Q (F0 m pc ls (.int x :: .int i :: .ref a :: rest)) := by
  subst hf' hws
  exact va_bast X.1 X.2.1 X.2.2.2.2.2.1.1 hW.1 hW.2.1 hW.2.2 q0 0 ha rfl hin hdg (fun H1 locs1 h1 h2 h3 => kk H1 locs1 ⟨h1, h2, h3⟩)
theorem r_zast (X : CTX p l m meth c cc nL s args own g A) (hW : WD g A s H locs ws) (q0 : Nat) {n : Nat} {f : Nat → Int32} (ha : ws[q0]? = some (a, .inl (g.2.1 3, n, .inl f))) {i x : Int32} (hin : vp_in i n) {f' : Nat → Int32} (hf' : upd f i.toNatClampNeg (vp_nar .boolean x) = f') (hws : ws.set q0 (a, .inl (g.2.1 3, n, .inl f')) = ws') (hdg : decode cc pc = .ok (.bastore, 1))
    (kk : ∀ (H1 : Heap) (locs1 : List Loc), WD g A s H1 locs1 ws' → W p l e R s m args below meth c H1 locs1 cells slots Q (F0 m (pc + 1) ls rest)) : W p l e R s m args below meth c H locs cells slots Q (F0 m pc ls (.int x :: .int i :: .ref a :: rest)) := by
  subst hf' hws
  exact va_zast X.1 X.2.1 X.2.2.2.2.2.1.1 hW.1 hW.2.1 hW.2.2 q0 3 ha rfl hin hdg (fun H1 locs1 h1 h2 h3 => kk H1 locs1 ⟨h1, h2, h3⟩)
theorem r_last (X : CTX p l m meth c cc nL s args own g A) (hW : WD g A s H locs ws) (q0 : Nat) {n : Nat} {f : Nat → Int64} (ha : ws[q0]? = some (a, .inl (g.2.1 2, n, .inr (.inl f)))) {i : Int32} {x : Int64} (hin : vp_in i n) {f' : Nat → Int64} (hf' : vp_updL f i.toNatClampNeg x = f') (hws : ws.set q0 (a, .inl (g.2.1 2, n, .inr (.inl f'))) = ws') (hdg : decode cc pc = .ok (.lastore, 1))
    (kk : ∀ (H1 : Heap) (locs1 : List Loc), WD g A s H1 locs1 ws' → W p l e R s m args below meth c H1 locs1 cells slots Q (F0 m (pc + 1) ls rest)) : W p l e R s m args below meth c H locs cells slots Q (F0 m pc ls (.long x :: .int i :: .ref a :: rest)) := by
  subst hf' hws
  exact va_last X.1 X.2.1 X.2.2.2.2.2.1.1 hW.1 hW.2.1 hW.2.2 q0 2 ha rfl hin hdg (fun H1 locs1 h1 h2 h3 => kk H1 locs1 ⟨h1, h2, h3⟩)
theorem r_alen (X : CTX p l m meth c cc nL s args own g A) (hW : WD g A s H locs ws) (q0 t0 : Nat) {cA : ClassId} {x : vp_A} (ha : ws[q0]? = some (a, .inl (cA, x))) {ty : FieldType} (ht : (TYS g)[t0]? = some (cA, ty)) {v : Int32} (hv : Int32.ofNat x.1 = v) (hdg : decode cc pc = .ok (.arraylength, 1))
    (kk : W p l e R s m args below meth c H locs cells slots Q (F0 m (pc + 1) ls (.int v :: rest))) : W p l e R s m args below meth c H locs cells slots Q (F0 m pc ls (.ref a :: rest)) :=
  va_alen X.1 X.2.1 X.2.2.2.2.2.1.1 hW.1 q0 t0 ha ht hv hdg kk
-- calls: the callee's cells are cut out, what comes back stands behind the rest
section
variable {y : MethodName} {bytes : ByteArray} {maxL n d mc ms index : Nat} {ret : Option FieldType} {wc wr : va_W} {As : List Value} {C host : String} {b : Addr} {stk : List Value}
theorem k_pre (X : CTX p l m meth c cc nL s args own g A) (hW : WD g A s H locs ws) (isC : List Nat) (hC : isC.map (fun i => ws[i]?) = wc.map some) (hnC : va_nd isC = true) (U : State) (hU : U.heap = H) (hWm : s.WarmedH U.vm) : PRE g wc H.size U := by
  have hF : ∀ q, va_A wc H.size q → A q := va_free hW.2.1 hW.2.2 X.2.2.2.2.2.2.2.1 isC hC
  have hP := (hW.pick isC hnC hC).1
  refine ⟨by rw [hU], by rw [hU]; exact hP, X.2.2.2.2.2.1.warm hWm, (hW.2.1.sub isC hnC hC).weaken (fun _ _ _ _ => trivial), ?_⟩
  rw [hU]
  exact ((X.2.2.2.2.2.2.1.moved hWm.alike).kept hW.2.2.2.1).narrow hF
theorem k_back (X : CTX p l m meth c cc nL s args own g A) (hW : WD g A s H locs ws) (isC isR : List Nat) (hC : isC.map (fun i => ws[i]?) = wc.map some) (hR : isR.map (fun i => ws[i]?) = wr.map some) (hn : va_nd isR = true) (hdis : isR.all (fun i => decide (i ∉ isC)) = true) {u : va_W} {t : State} {H1 : Heap} {locs1 : List Loc} (ht : t.heap = H1) (hB : BO g (va_A wc H.size) u t) (hk1 : ∀ q : Nat, q < H.size → ¬ va_A wc H.size q → H1[q]? = H[q]?) (hS : va_S A s.heap H1 locs1) : WD g A s H1 locs1 (wr ++ u) := by
  have hF : ∀ q, va_A wc H.size q → A q := va_free hW.2.1 hW.2.2 X.2.2.2.2.2.2.2.1 isC hC
  obtain ⟨h1, h2⟩ := hB
  rw [ht] at h1
  obtain ⟨h3, h4⟩ := va_join (wr := wr) (w1 := u) hW.1 hW.2.1 isC isR hC hR hn (fun i hi => of_decide_eq_true (List.all_eq_true.mp hdis i hi)) hk1 hF h1 h2
  exact ⟨h3, h4, hS⟩
theorem k_cwV (X : CTX p l m meth c cc nL s args own g A) (hV : LV own index C y bytes maxL ret n) (hR : d + 1 ≤ R.frames ∧ 8 + (maxL + 11) + 40 * d ≤ R.locals) : CallW R s args own C index y bytes maxL ret (WW y bytes maxL ret) (RM d mc ms) mc ms n := by
  obtain ⟨h1, h2, h3, h4, h5, h6, h7, h8, h9⟩ := hV
  exact cwV n X.2.2.2.2.1 (good_in fun w hw => by
    rcases List.mem_append.mp hw with hw | hw
    · simp only [List.mem_cons, List.not_mem_nil, or_false] at hw
      rcases hw with rfl | rfl | rfl | rfl <;> assumption
    · exact ((good_ww h5) w hw).1) rfl rfl rfl ⟨h6, h7, h8, h9⟩ hR
theorem k_cwS (X : CTX p l m meth c cc nL s args own g A) (hV : LST own index y bytes maxL ret n) (hR : d + 1 ≤ R.frames ∧ 8 + (maxL + 11) + 40 * d ≤ R.locals) : CallB R s args own index y bytes maxL ret (WW y bytes maxL ret) (RM d mc ms) mc ms n ∧ (Cond.static y).before args s = true := by
  obtain ⟨h1, h2, h3, h4, h6, h7, h8⟩ := hV
  exact va_cwS n X.2.2.2.2.1 (good_in fun w hw => by
    rcases List.mem_append.mp hw with hw | hw
    · simp only [List.mem_cons, List.not_mem_nil, or_false] at hw
      rcases hw with rfl | rfl | rfl <;> assumption
    · exact ((good_ww h4) w hw).1) rfl rfl rfl ⟨h6, h7, h8⟩ hR
theorem k_cwSN (X : CTX p l m meth c cc nL s args own g A) (hV : LSN own index host y bytes maxL ret n) (hR : d + 1 ≤ R.frames ∧ 8 + (maxL + 11) + 40 * d ≤ R.locals) : va_CN R s args own index y host bytes maxL ret (WW y bytes maxL ret) (RM d mc ms) mc ms n ∧ (Cond.static y).before args s = true ∧ True := by
  obtain ⟨h1, h2, h3, h4, h6, h7, h8⟩ := hV
  exact ⟨va_cnB n X.2.2.2.2.1 (good_ww h4) rfl rfl rfl (X.2.2.2.2.2.1.2.1 _ h1) (X.2.2.2.2.1 _ h3) ⟨h6, h7, h8⟩ hR, X.2.2.2.2.1 _ h2, trivial⟩
theorem k_cwI (X : CTX p l m meth c cc nL s args own g A) (hV : LI own index y bytes maxL n) (hR : d + 1 ≤ R.frames ∧ 8 + (maxL + 11) + 40 * d ≤ R.locals) : CallB R s args own index y bytes maxL none (WW y bytes maxL none) (RM d mc ms) mc ms n ∧ y.name = "<init>" ∧ (Cond.instanceMethod y).before args s = true := by
  obtain ⟨h1, h2, h3, h4, h5, h6, h7, h8⟩ := hV
  exact cwI n X.2.2.2.2.1 (good_ww h4) rfl rfl rfl (X.2.2.2.2.1 _ h3) (X.2.2.2.2.1 _ h1) (X.2.2.2.2.1 _ h2) h5 ⟨h6, h7, h8⟩ hR
theorem k_cwIN (X : CTX p l m meth c cc nL s args own g A) (hV : LIN own index host y bytes maxL n) (hR : d + 1 ≤ R.frames ∧ 8 + (maxL + 11) + 40 * d ≤ R.locals) : va_CN R s args own index y host bytes maxL none (WW y bytes maxL none) (RM d mc ms) mc ms n ∧ y.name = "<init>" ∧ (Cond.instanceMethod y).before args s = true := by
  obtain ⟨h1, h2, h3, h4, h5, h6, h7, h8⟩ := hV
  exact ⟨va_cnB n X.2.2.2.2.1 (good_ww h4) rfl rfl rfl (X.2.2.2.2.2.1.2.1 _ h1) (X.2.2.2.2.1 _ h3) ⟨h6, h7, h8⟩ hR, h5, X.2.2.2.2.1 _ h2⟩
theorem k_recv (X : CTX p l m meth c cc nL s args own g A) (hW : WD g A s H locs ws) (q0 : Nat) {ci : Nat} {fs : List Value} {T : u_T} {N : Nat} {ty : Nat → FieldType} (hc : CI ci C T N ty) (he : ws[q0]? = some (b, .inr (ci, fs))) : ∃ cell : Cell, H[b]? = some cell ∧ cell.vm.isStatics = false ∧ s.vm.findClass C = some cell.cls := va_recv X.2.2.2.2.2.1.1 hW.1 hc.1 he
theorem c_Vi (X : CTX p l m meth c cc nL s args own g A) (hW : WD g A s H locs ws) (q0 : Nat) {ci : Nat} {fs : List Value} {T : u_T} {N : Nat} {ty : Nat → FieldType} (hc : CI ci C T N ty) (he : ws[q0]? = some (b, .inr (ci, fs))) {post : Int32 → va_W → Prop} (hM : MetI l g y bytes maxL ret d mc ms (.ref b :: As) wc post) (hV : LV own index C y bytes maxL ret n) (isC isR : List Nat) (hC : isC.map (fun i => ws[i]?) = wc.map some) (hnC : va_nd isC = true) (hR : isR.map (fun i => ws[i]?) = wr.map some) (hnR : va_nd isR = true) (hdis : isR.all (fun i => decide (i ∉ isC)) = true) (hn : As.length = n) (hls : ls.size = nL) (hstk : stk = As.reverse ++ .ref b :: rest) (hroom : (rest.map fun v => v.category).sum ≤ 8) (hRm : d + 1 ≤ R.frames ∧ 8 + (maxL + 11) + 40 * d ≤ R.locals) (hf : cells + mc ≤ R.cells ∧ slots + ms ≤ R.slots) (hdg : decode cc pc = .ok (.invokevirtual index, 3))
    (kk : ∀ (r : Int32) (u : va_W) (H1 : Heap) (locs1 : List Loc), post r u → WD g A s H1 locs1 (wr ++ u) → W p l e R s m args below meth c H1 locs1 (cells + mc) (slots + ms) Q (F0 m (pc + 3) ls (.int r :: rest))) : W p l e R s m args below meth c H locs cells slots Q (F0 m pc ls stk) := by
  have hF : ∀ q, va_A wc H.size q → A q := va_free hW.2.1 hW.2.2 X.2.2.2.2.2.2.2.1 isC hC
  exact va_calli (va_runV (As := As) (rest := rest) ⟨X.1, X.2.1, X.2.2.1, X.2.2.2.1, X.2.2.2.2.1⟩ (hM H.size) (k_cwV X hV hRm) ⟨PRE.blind, k_recv X hW q0 hc he, fun U hU hWm => ⟨rfl, k_pre X hW isC hC hnC U hU hWm⟩⟩ rfl hn hls hstk (lv_room hroom) hdg hf) hW.2.2 (fun q _ h => hF q h) hF (fun r u t H1 locs1 ht _ hp hB _ hk1 hS => kk r u H1 locs1 hp (k_back X hW isC isR hC hR hnR hdis ht hB hk1 hS))
theorem c_Si (X : CTX p l m meth c cc nL s args own g A) (hW : WD g A s H locs ws) {post : Int32 → va_W → Prop} (hM : MetI l g y bytes maxL ret d mc ms As wc post) (hV : LST own index y bytes maxL ret n) (isC isR : List Nat) (hC : isC.map (fun i => ws[i]?) = wc.map some) (hnC : va_nd isC = true) (hR : isR.map (fun i => ws[i]?) = wr.map some) (hnR : va_nd isR = true) (hdis : isR.all (fun i => decide (i ∉ isC)) = true) (hn : As.length = n) (hls : ls.size = nL) (hstk : stk = As.reverse ++ rest) (hroom : (rest.map fun v => v.category).sum ≤ 8) (hRm : d + 1 ≤ R.frames ∧ 8 + (maxL + 11) + 40 * d ≤ R.locals) (hf : cells + mc ≤ R.cells ∧ slots + ms ≤ R.slots) (hdg : decode cc pc = .ok (.invokestatic index, 3))
    (kk : ∀ (r : Int32) (u : va_W) (H1 : Heap) (locs1 : List Loc), post r u → WD g A s H1 locs1 (wr ++ u) → W p l e R s m args below meth c H1 locs1 (cells + mc) (slots + ms) Q (F0 m (pc + 3) ls (.int r :: rest))) : W p l e R s m args below meth c H locs cells slots Q (F0 m pc ls stk) := by
  have hF : ∀ q, va_A wc H.size q → A q := va_free hW.2.1 hW.2.2 X.2.2.2.2.2.2.2.1 isC hC
  exact va_calli (va_runS (As := As) (rest := rest) ⟨X.1, X.2.1, X.2.2.1, X.2.2.2.1, X.2.2.2.2.1⟩ (hM H.size) (k_cwS X hV hRm) ⟨PRE.blind, fun U hU hWm => ⟨rfl, k_pre X hW isC hC hnC U hU hWm⟩⟩ rfl hn hls hstk (lv_room hroom) hdg hf) hW.2.2 (fun q _ h => hF q h) hF (fun r u t H1 locs1 ht _ hp hB _ hk1 hS => kk r u H1 locs1 hp (k_back X hW isC isR hC hR hnR hdis ht hB hk1 hS))
theorem c_SNi (X : CTX p l m meth c cc nL s args own g A) (hW : WD g A s H locs ws) {post : Int32 → va_W → Prop} (hM : MetI l g y bytes maxL ret d mc ms As wc post) (hV : LSN own index host y bytes maxL ret n) (isC isR : List Nat) (hC : isC.map (fun i => ws[i]?) = wc.map some) (hnC : va_nd isC = true) (hR : isR.map (fun i => ws[i]?) = wr.map some) (hnR : va_nd isR = true) (hdis : isR.all (fun i => decide (i ∉ isC)) = true) (hn : As.length = n) (hls : ls.size = nL) (hstk : stk = As.reverse ++ rest) (hroom : (rest.map fun v => v.category).sum ≤ 8) (hRm : d + 1 ≤ R.frames ∧ 8 + (maxL + 11) + 40 * d ≤ R.locals) (hf : cells + mc ≤ R.cells ∧ slots + ms ≤ R.slots) (hdg : decode cc pc = .ok (.invokestatic index, 3))
    (kk : ∀ (r : Int32) (u : va_W) (H1 : Heap) (locs1 : List Loc), post r u → WD g A s H1 locs1 (wr ++ u) → W p l e R s m args below meth c H1 locs1 (cells + mc) (slots + ms) Q (F0 m (pc + 3) ls (.int r :: rest))) : W p l e R s m args below meth c H locs cells slots Q (F0 m pc ls stk) := by
  have hF : ∀ q, va_A wc H.size q → A q := va_free hW.2.1 hW.2.2 X.2.2.2.2.2.2.2.1 isC hC
  exact va_calli (va_runSN (As := As) (rest := rest) ⟨X.1, X.2.1, X.2.2.1, X.2.2.2.1, X.2.2.2.2.1⟩ (hM H.size) (k_cwSN X hV hRm) ⟨PRE.blind, fun U hU hWm => ⟨rfl, k_pre X hW isC hC hnC U hU hWm⟩⟩ rfl hn hls hstk (lv_room hroom) hdg hf) hW.2.2 (fun q _ h => hF q h) hF (fun r u t H1 locs1 ht _ hp hB _ hk1 hS => kk r u H1 locs1 hp (k_back X hW isC isR hC hR hnR hdis ht hB hk1 hS))
theorem c_Vl (X : CTX p l m meth c cc nL s args own g A) (hW : WD g A s H locs ws) (q0 : Nat) {ci : Nat} {fs : List Value} {T : u_T} {N : Nat} {ty : Nat → FieldType} (hc : CI ci C T N ty) (he : ws[q0]? = some (b, .inr (ci, fs))) {post : Int64 → va_W → Prop} (hM : MetL l g y bytes maxL ret d mc ms (.ref b :: As) wc post) (hV : LV own index C y bytes maxL ret n) (isC isR : List Nat) (hC : isC.map (fun i => ws[i]?) = wc.map some) (hnC : va_nd isC = true) (hR : isR.map (fun i => ws[i]?) = wr.map some) (hnR : va_nd isR = true) (hdis : isR.all (fun i => decide (i ∉ isC)) = true) (hn : As.length = n) (hls : ls.size = nL) (hstk : stk = As.reverse ++ .ref b :: rest) (hroom : (rest.map fun v => v.category).sum ≤ 8) (hRm : d + 1 ≤ R.frames ∧ 8 + (maxL + 11) + 40 * d ≤ R.locals) (hf : cells + mc ≤ R.cells ∧ slots + ms ≤ R.slots) (hdg : decode cc pc = .ok (.invokevirtual index, 3))
    (kk : ∀ (r : Int64) (u : va_W) (H1 : Heap) (locs1 : List Loc), post r u → WD g A s H1 locs1 (wr ++ u) → W p l e R s m args below meth c H1 locs1 (cells + mc) (slots + ms) Q (F0 m (pc + 3) ls (.long r :: rest))) : W p l e R s m args below meth c H locs cells slots Q (F0 m pc ls stk) := by
  have hF : ∀ q, va_A wc H.size q → A q := va_free hW.2.1 hW.2.2 X.2.2.2.2.2.2.2.1 isC hC
  exact va_calll (va_runV (As := As) (rest := rest) ⟨X.1, X.2.1, X.2.2.1, X.2.2.2.1, X.2.2.2.2.1⟩ (hM H.size) (k_cwV X hV hRm) ⟨PRE.blind, k_recv X hW q0 hc he, fun U hU hWm => ⟨rfl, k_pre X hW isC hC hnC U hU hWm⟩⟩ rfl hn hls hstk (lv_room hroom) hdg hf) hW.2.2 (fun q _ h => hF q h) hF (fun r u t H1 locs1 ht _ hp hB _ hk1 hS => kk r u H1 locs1 hp (k_back X hW isC isR hC hR hnR hdis ht hB hk1 hS))
theorem c_Sl (X : CTX p l m meth c cc nL s args own g A) (hW : WD g A s H locs ws) {post : Int64 → va_W → Prop} (hM : MetL l g y bytes maxL ret d mc ms As wc post) (hV : LST own index y bytes maxL ret n) (isC isR : List Nat) (hC : isC.map (fun i => ws[i]?) = wc.map some) (hnC : va_nd isC = true) (hR : isR.map (fun i => ws[i]?) = wr.map some) (hnR : va_nd isR = true) (hdis : isR.all (fun i => decide (i ∉ isC)) = true) (hn : As.length = n) (hls : ls.size = nL) (hstk : stk = As.reverse ++ rest) (hroom : (rest.map fun v => v.category).sum ≤ 8) (hRm : d + 1 ≤ R.frames ∧ 8 + (maxL + 11) + 40 * d ≤ R.locals) (hf : cells + mc ≤ R.cells ∧ slots + ms ≤ R.slots) (hdg : decode cc pc = .ok (.invokestatic index, 3))
    (kk : ∀ (r : Int64) (u : va_W) (H1 : Heap) (locs1 : List Loc), post r u → WD g A s H1 locs1 (wr ++ u) → W p l e R s m args below meth c H1 locs1 (cells + mc) (slots + ms) Q (F0 m (pc + 3) ls (.long r :: rest))) : W p l e R s m args below meth c H locs cells slots Q (F0 m pc ls stk) := by
  have hF : ∀ q, va_A wc H.size q → A q := va_free hW.2.1 hW.2.2 X.2.2.2.2.2.2.2.1 isC hC
  exact va_calll (va_runS (As := As) (rest := rest) ⟨X.1, X.2.1, X.2.2.1, X.2.2.2.1, X.2.2.2.2.1⟩ (hM H.size) (k_cwS X hV hRm) ⟨PRE.blind, fun U hU hWm => ⟨rfl, k_pre X hW isC hC hnC U hU hWm⟩⟩ rfl hn hls hstk (lv_room hroom) hdg hf) hW.2.2 (fun q _ h => hF q h) hF (fun r u t H1 locs1 ht _ hp hB _ hk1 hS => kk r u H1 locs1 hp (k_back X hW isC isR hC hR hnR hdis ht hB hk1 hS))
theorem c_SNl (X : CTX p l m meth c cc nL s args own g A) (hW : WD g A s H locs ws) {post : Int64 → va_W → Prop} (hM : MetL l g y bytes maxL ret d mc ms As wc post) (hV : LSN own index host y bytes maxL ret n) (isC isR : List Nat) (hC : isC.map (fun i => ws[i]?) = wc.map some) (hnC : va_nd isC = true) (hR : isR.map (fun i => ws[i]?) = wr.map some) (hnR : va_nd isR = true) (hdis : isR.all (fun i => decide (i ∉ isC)) = true) (hn : As.length = n) (hls : ls.size = nL) (hstk : stk = As.reverse ++ rest) (hroom : (rest.map fun v => v.category).sum ≤ 8) (hRm : d + 1 ≤ R.frames ∧ 8 + (maxL + 11) + 40 * d ≤ R.locals) (hf : cells + mc ≤ R.cells ∧ slots + ms ≤ R.slots) (hdg : decode cc pc = .ok (.invokestatic index, 3))
    (kk : ∀ (r : Int64) (u : va_W) (H1 : Heap) (locs1 : List Loc), post r u → WD g A s H1 locs1 (wr ++ u) → W p l e R s m args below meth c H1 locs1 (cells + mc) (slots + ms) Q (F0 m (pc + 3) ls (.long r :: rest))) : W p l e R s m args below meth c H locs cells slots Q (F0 m pc ls stk) := by
  have hF : ∀ q, va_A wc H.size q → A q := va_free hW.2.1 hW.2.2 X.2.2.2.2.2.2.2.1 isC hC
  exact va_calll (va_runSN (As := As) (rest := rest) ⟨X.1, X.2.1, X.2.2.1, X.2.2.2.1, X.2.2.2.2.1⟩ (hM H.size) (k_cwSN X hV hRm) ⟨PRE.blind, fun U hU hWm => ⟨rfl, k_pre X hW isC hC hnC U hU hWm⟩⟩ rfl hn hls hstk (lv_room hroom) hdg hf) hW.2.2 (fun q _ h => hF q h) hF (fun r u t H1 locs1 ht _ hp hB _ hk1 hS => kk r u H1 locs1 hp (k_back X hW isC isR hC hR hnR hdis ht hB hk1 hS))
theorem c_Vv (X : CTX p l m meth c cc nL s args own g A) (hW : WD g A s H locs ws) (q0 : Nat) {ci : Nat} {fs : List Value} {T : u_T} {N : Nat} {ty : Nat → FieldType} (hc : CI ci C T N ty) (he : ws[q0]? = some (b, .inr (ci, fs))) {post : va_W → Prop} (hM : MetV l g y bytes maxL ret d mc ms (.ref b :: As) wc post) (hV : LV own index C y bytes maxL ret n) (isC isR : List Nat) (hC : isC.map (fun i => ws[i]?) = wc.map some) (hnC : va_nd isC = true) (hR : isR.map (fun i => ws[i]?) = wr.map some) (hnR : va_nd isR = true) (hdis : isR.all (fun i => decide (i ∉ isC)) = true) (hn : As.length = n) (hls : ls.size = nL) (hstk : stk = As.reverse ++ .ref b :: rest) (hroom : (rest.map fun v => v.category).sum ≤ 8) (hRm : d + 1 ≤ R.frames ∧ 8 + (maxL + 11) + 40 * d ≤ R.locals) (hf : cells + mc ≤ R.cells ∧ slots + ms ≤ R.slots) (hdg : decode cc pc = .ok (.invokevirtual index, 3))
    (kk : ∀ (u : va_W) (H1 : Heap) (locs1 : List Loc), post u → WD g A s H1 locs1 (wr ++ u) → W p l e R s m args below meth c H1 locs1 (cells + mc) (slots + ms) Q (F0 m (pc + 3) ls (rest))) : W p l e R s m args below meth c H locs cells slots Q (F0 m pc ls stk) := by
  have hF : ∀ q, va_A wc H.size q → A q := va_free hW.2.1 hW.2.2 X.2.2.2.2.2.2.2.1 isC hC
  exact va_callv (va_runV (As := As) (rest := rest) ⟨X.1, X.2.1, X.2.2.1, X.2.2.2.1, X.2.2.2.2.1⟩ (hM H.size) (k_cwV X hV hRm) ⟨PRE.blind, k_recv X hW q0 hc he, fun U hU hWm => ⟨rfl, k_pre X hW isC hC hnC U hU hWm⟩⟩ rfl hn hls hstk (lv_room hroom) hdg hf) hW.2.2 (fun q _ h => hF q h) hF (fun u t H1 locs1 ht _ hp hB _ hk1 hS => kk u H1 locs1 hp (k_back X hW isC isR hC hR hnR hdis ht hB hk1 hS))
theorem c_Sv (X : CTX p l m meth c cc nL s args own g A) (hW : WD g A s H locs ws) {post : va_W → Prop} (hM : MetV l g y bytes maxL ret d mc ms As wc post) (hV : LST own index y bytes maxL ret n) (isC isR : List Nat) (hC : isC.map (fun i => ws[i]?) = wc.map some) (hnC : va_nd isC = true) (hR : isR.map (fun i => ws[i]?) = wr.map some) (hnR : va_nd isR = true) (hdis : isR.all (fun i => decide (i ∉ isC)) = true) (hn : As.length = n) (hls : ls.size = nL) (hstk : stk = As.reverse ++ rest) (hroom : (rest.map fun v => v.category).sum ≤ 8) (hRm : d + 1 ≤ R.frames ∧ 8 + (maxL + 11) + 40 * d ≤ R.locals) (hf : cells + mc ≤ R.cells ∧ slots + ms ≤ R.slots) (hdg : decode cc pc = .ok (.invokestatic index, 3))
    (kk : ∀ (u : va_W) (H1 : Heap) (locs1 : List Loc), post u → WD g A s H1 locs1 (wr ++ u) → W p l e R s m args below meth c H1 locs1 (cells + mc) (slots + ms) Q (F0 m (pc + 3) ls (rest))) : W p l e R s m args below meth c H locs cells slots Q (F0 m pc ls stk) := by
  have hF : ∀ q, va_A wc H.size q → A q := va_free hW.2.1 hW.2.2 X.2.2.2.2.2.2.2.1 isC hC
  exact va_callv (va_runS (As := As) (rest := rest) ⟨X.1, X.2.1, X.2.2.1, X.2.2.2.1, X.2.2.2.2.1⟩ (hM H.size) (k_cwS X hV hRm) ⟨PRE.blind, fun U hU hWm => ⟨rfl, k_pre X hW isC hC hnC U hU hWm⟩⟩ rfl hn hls hstk (lv_room hroom) hdg hf) hW.2.2 (fun q _ h => hF q h) hF (fun u t H1 locs1 ht _ hp hB _ hk1 hS => kk u H1 locs1 hp (k_back X hW isC isR hC hR hnR hdis ht hB hk1 hS))
theorem c_SNv (X : CTX p l m meth c cc nL s args own g A) (hW : WD g A s H locs ws) {post : va_W → Prop} (hM : MetV l g y bytes maxL ret d mc ms As wc post) (hV : LSN own index host y bytes maxL ret n) (isC isR : List Nat) (hC : isC.map (fun i => ws[i]?) = wc.map some) (hnC : va_nd isC = true) (hR : isR.map (fun i => ws[i]?) = wr.map some) (hnR : va_nd isR = true) (hdis : isR.all (fun i => decide (i ∉ isC)) = true) (hn : As.length = n) (hls : ls.size = nL) (hstk : stk = As.reverse ++ rest) (hroom : (rest.map fun v => v.category).sum ≤ 8) (hRm : d + 1 ≤ R.frames ∧ 8 + (maxL + 11) + 40 * d ≤ R.locals) (hf : cells + mc ≤ R.cells ∧ slots + ms ≤ R.slots) (hdg : decode cc pc = .ok (.invokestatic index, 3))
    (kk : ∀ (u : va_W) (H1 : Heap) (locs1 : List Loc), post u → WD g A s H1 locs1 (wr ++ u) → W p l e R s m args below meth c H1 locs1 (cells + mc) (slots + ms) Q (F0 m (pc + 3) ls (rest))) : W p l e R s m args below meth c H locs cells slots Q (F0 m pc ls stk) := by
  have hF : ∀ q, va_A wc H.size q → A q := va_free hW.2.1 hW.2.2 X.2.2.2.2.2.2.2.1 isC hC
  exact va_callv (va_runSN (As := As) (rest := rest) ⟨X.1, X.2.1, X.2.2.1, X.2.2.2.1, X.2.2.2.2.1⟩ (hM H.size) (k_cwSN X hV hRm) ⟨PRE.blind, fun U hU hWm => ⟨rfl, k_pre X hW isC hC hnC U hU hWm⟩⟩ rfl hn hls hstk (lv_room hroom) hdg hf) hW.2.2 (fun q _ h => hF q h) hF (fun u t H1 locs1 ht _ hp hB _ hk1 hS => kk u H1 locs1 hp (k_back X hW isC isR hC hR hnR hdis ht hB hk1 hS))
theorem c_Iv (X : CTX p l m meth c cc nL s args own g A) (hW : WD g A s H locs ws) {post : va_W → Prop} (hM : MetV l g y bytes maxL none d mc ms (.ref b :: As) wc post) (hV : LI own index y bytes maxL n) (isC isR : List Nat) (hC : isC.map (fun i => ws[i]?) = wc.map some) (hnC : va_nd isC = true) (hR : isR.map (fun i => ws[i]?) = wr.map some) (hnR : va_nd isR = true) (hdis : isR.all (fun i => decide (i ∉ isC)) = true) (hn : As.length = n) (hls : ls.size = nL) (hstk : stk = As.reverse ++ .ref b :: rest) (hroom : (rest.map fun v => v.category).sum ≤ 8) (hRm : d + 1 ≤ R.frames ∧ 8 + (maxL + 11) + 40 * d ≤ R.locals) (hf : cells + mc ≤ R.cells ∧ slots + ms ≤ R.slots) (hdg : decode cc pc = .ok (.invokespecial index, 3))
    (kk : ∀ (u : va_W) (H1 : Heap) (locs1 : List Loc), post u → WD g A s H1 locs1 (wr ++ u) → W p l e R s m args below meth c H1 locs1 (cells + mc) (slots + ms) Q (F0 m (pc + 3) ls (rest))) : W p l e R s m args below meth c H locs cells slots Q (F0 m pc ls stk) := by
  have hF : ∀ q, va_A wc H.size q → A q := va_free hW.2.1 hW.2.2 X.2.2.2.2.2.2.2.1 isC hC
  exact va_callv (va_runI (As := As) (rest := rest) ⟨X.1, X.2.1, X.2.2.1, X.2.2.2.1, X.2.2.2.2.1⟩ (hM H.size) (k_cwI X hV hRm) ⟨PRE.blind, fun U hU hWm => ⟨rfl, k_pre X hW isC hC hnC U hU hWm⟩⟩ rfl hn hls hstk (lv_room hroom) hdg hf) hW.2.2 (fun q _ h => hF q h) hF (fun u t H1 locs1 ht _ hp hB _ hk1 hS => kk u H1 locs1 hp (k_back X hW isC isR hC hR hnR hdis ht hB hk1 hS))
theorem c_INv (X : CTX p l m meth c cc nL s args own g A) (hW : WD g A s H locs ws) {post : va_W → Prop} (hM : MetV l g y bytes maxL none d mc ms (.ref b :: As) wc post) (hV : LIN own index host y bytes maxL n) (isC isR : List Nat) (hC : isC.map (fun i => ws[i]?) = wc.map some) (hnC : va_nd isC = true) (hR : isR.map (fun i => ws[i]?) = wr.map some) (hnR : va_nd isR = true) (hdis : isR.all (fun i => decide (i ∉ isC)) = true) (hn : As.length = n) (hls : ls.size = nL) (hstk : stk = As.reverse ++ .ref b :: rest) (hroom : (rest.map fun v => v.category).sum ≤ 8) (hRm : d + 1 ≤ R.frames ∧ 8 + (maxL + 11) + 40 * d ≤ R.locals) (hf : cells + mc ≤ R.cells ∧ slots + ms ≤ R.slots) (hdg : decode cc pc = .ok (.invokespecial index, 3))
    (kk : ∀ (u : va_W) (H1 : Heap) (locs1 : List Loc), post u → WD g A s H1 locs1 (wr ++ u) → W p l e R s m args below meth c H1 locs1 (cells + mc) (slots + ms) Q (F0 m (pc + 3) ls (rest))) : W p l e R s m args below meth c H locs cells slots Q (F0 m pc ls stk) := by
  have hF : ∀ q, va_A wc H.size q → A q := va_free hW.2.1 hW.2.2 X.2.2.2.2.2.2.2.1 isC hC
  exact va_callv (va_runIN (As := As) (rest := rest) ⟨X.1, X.2.1, X.2.2.1, X.2.2.2.1, X.2.2.2.2.1⟩ (hM H.size) (k_cwIN X hV hRm) ⟨PRE.blind, fun U hU hWm => ⟨rfl, k_pre X hW isC hC hnC U hU hWm⟩⟩ rfl hn hls hstk (lv_room hroom) hdg hf) hW.2.2 (fun q _ h => hF q h) hF (fun u t H1 locs1 ht _ hp hB _ hk1 hS => kk u H1 locs1 hp (k_back X hW isC isR hC hR hnR hdis ht hB hk1 hS))
theorem c_Vq (X : CTX p l m meth c cc nL s args own g A) (hW : WD g A s H locs ws) (q0 : Nat) {ci : Nat} {fs : List Value} {T : u_T} {N : Nat} {ty : Nat → FieldType} (hc : CI ci C T N ty) (he : ws[q0]? = some (b, .inr (ci, fs))) {post : Option Nat → va_W → Prop} (hM : MetQ l g y bytes maxL ret d mc ms (.ref b :: As) wc post) (hV : LV own index C y bytes maxL ret n) (isC isR : List Nat) (hC : isC.map (fun i => ws[i]?) = wc.map some) (hnC : va_nd isC = true) (hR : isR.map (fun i => ws[i]?) = wr.map some) (hnR : va_nd isR = true) (hdis : isR.all (fun i => decide (i ∉ isC)) = true) (hn : As.length = n) (hls : ls.size = nL) (hstk : stk = As.reverse ++ .ref b :: rest) (hroom : (rest.map fun v => v.category).sum ≤ 8) (hRm : d + 1 ≤ R.frames ∧ 8 + (maxL + 11) + 40 * d ≤ R.locals) (hf : cells + mc ≤ R.cells ∧ slots + ms ≤ R.slots) (hdg : decode cc pc = .ok (.invokevirtual index, 3))
    (kk : ∀ (r : Option Nat) (u : va_W) (H1 : Heap) (locs1 : List Loc), post r u → WD g A s H1 locs1 (wr ++ u) → W p l e R s m args below meth c H1 locs1 (cells + mc) (slots + ms) Q (F0 m (pc + 3) ls (va_rf r :: rest))) : W p l e R s m args below meth c H locs cells slots Q (F0 m pc ls stk) := by
  have hF : ∀ q, va_A wc H.size q → A q := va_free hW.2.1 hW.2.2 X.2.2.2.2.2.2.2.1 isC hC
  exact va_callq (va_runV (As := As) (rest := rest) ⟨X.1, X.2.1, X.2.2.1, X.2.2.2.1, X.2.2.2.2.1⟩ (hM H.size) (k_cwV X hV hRm) ⟨PRE.blind, k_recv X hW q0 hc he, fun U hU hWm => ⟨rfl, k_pre X hW isC hC hnC U hU hWm⟩⟩ rfl hn hls hstk (lv_room hroom) hdg hf) hW.2.2 (fun q _ h => hF q h) hF (fun r u t H1 locs1 ht _ hp hB _ hk1 hS => kk r u H1 locs1 hp (k_back X hW isC isR hC hR hnR hdis ht hB hk1 hS))
theorem c_Sq (X : CTX p l m meth c cc nL s args own g A) (hW : WD g A s H locs ws) {post : Option Nat → va_W → Prop} (hM : MetQ l g y bytes maxL ret d mc ms As wc post) (hV : LST own index y bytes maxL ret n) (isC isR : List Nat) (hC : isC.map (fun i => ws[i]?) = wc.map some) (hnC : va_nd isC = true) (hR : isR.map (fun i => ws[i]?) = wr.map some) (hnR : va_nd isR = true) (hdis : isR.all (fun i => decide (i ∉ isC)) = true) (hn : As.length = n) (hls : ls.size = nL) (hstk : stk = As.reverse ++ rest) (hroom : (rest.map fun v => v.category).sum ≤ 8) (hRm : d + 1 ≤ R.frames ∧ 8 + (maxL + 11) + 40 * d ≤ R.locals) (hf : cells + mc ≤ R.cells ∧ slots + ms ≤ R.slots) (hdg : decode cc pc = .ok (.invokestatic index, 3))
    (kk : ∀ (r : Option Nat) (u : va_W) (H1 : Heap) (locs1 : List Loc), post r u → WD g A s H1 locs1 (wr ++ u) → W p l e R s m args below meth c H1 locs1 (cells + mc) (slots + ms) Q (F0 m (pc + 3) ls (va_rf r :: rest))) : W p l e R s m args below meth c H locs cells slots Q (F0 m pc ls stk) := by
  have hF : ∀ q, va_A wc H.size q → A q := va_free hW.2.1 hW.2.2 X.2.2.2.2.2.2.2.1 isC hC
  exact va_callq (va_runS (As := As) (rest := rest) ⟨X.1, X.2.1, X.2.2.1, X.2.2.2.1, X.2.2.2.2.1⟩ (hM H.size) (k_cwS X hV hRm) ⟨PRE.blind, fun U hU hWm => ⟨rfl, k_pre X hW isC hC hnC U hU hWm⟩⟩ rfl hn hls hstk (lv_room hroom) hdg hf) hW.2.2 (fun q _ h => hF q h) hF (fun r u t H1 locs1 ht _ hp hB _ hk1 hS => kk r u H1 locs1 hp (k_back X hW isC isR hC hR hnR hdis ht hB hk1 hS))
theorem c_SNq (X : CTX p l m meth c cc nL s args own g A) (hW : WD g A s H locs ws) {post : Option Nat → va_W → Prop} (hM : MetQ l g y bytes maxL ret d mc ms As wc post) (hV : LSN own index host y bytes maxL ret n) (isC isR : List Nat) (hC : isC.map (fun i => ws[i]?) = wc.map some) (hnC : va_nd isC = true) (hR : isR.map (fun i => ws[i]?) = wr.map some) (hnR : va_nd isR = true) (hdis : isR.all (fun i => decide (i ∉ isC)) = true) (hn : As.length = n) (hls : ls.size = nL) (hstk : stk = As.reverse ++ rest) (hroom : (rest.map fun v => v.category).sum ≤ 8) (hRm : d + 1 ≤ R.frames ∧ 8 + (maxL + 11) + 40 * d ≤ R.locals) (hf : cells + mc ≤ R.cells ∧ slots + ms ≤ R.slots) (hdg : decode cc pc = .ok (.invokestatic index, 3))
    (kk : ∀ (r : Option Nat) (u : va_W) (H1 : Heap) (locs1 : List Loc), post r u → WD g A s H1 locs1 (wr ++ u) → W p l e R s m args below meth c H1 locs1 (cells + mc) (slots + ms) Q (F0 m (pc + 3) ls (va_rf r :: rest))) : W p l e R s m args below meth c H locs cells slots Q (F0 m pc ls stk) := by
  have hF : ∀ q, va_A wc H.size q → A q := va_free hW.2.1 hW.2.2 X.2.2.2.2.2.2.2.1 isC hC
  exact va_callq (va_runSN (As := As) (rest := rest) ⟨X.1, X.2.1, X.2.2.1, X.2.2.2.1, X.2.2.2.2.1⟩ (hM H.size) (k_cwSN X hV hRm) ⟨PRE.blind, fun U hU hWm => ⟨rfl, k_pre X hW isC hC hnC U hU hWm⟩⟩ rfl hn hls hstk (lv_room hroom) hdg hf) hW.2.2 (fun q _ h => hF q h) hF (fun r u t H1 locs1 ht _ hp hB _ hk1 hS => kk r u H1 locs1 hp (k_back X hW isC isR hC hR hnR hdis ht hB hk1 hS))
end
-- ends
theorem e_i (X : CTX p l m meth c cc nL s args own g A) {post : Int32 → va_W → Prop} {mc ms : Nat} (hQ : MQ below (va_Qi post (BO g A) A) args s mc ms A = Q) (hr : meth.sig.returnType = some .int) (hW : WD g A s H locs ws) {v : Int32} (is : List Nat) {u : va_W} (hn : va_nd is = true) (hu : is.map (fun i => ws[i]?) = u.map some) (hp : post v u) (hf : cells ≤ mc ∧ slots ≤ ms) (hdg : decode cc pc = .ok (.ireturn, 1)) : W p l e R s m args below meth c H locs cells slots Q (F0 m pc ls [.int v]) := by
  subst hQ
  have h1 := hW.pick is hn hu
  refine W.widen hf.1 hf.2 ?_
  exact W.iret X.1 X.2.1 hr (fun t ht _ => ⟨⟨v, u, rfl, hp, by rw [ht]; exact h1.1, h1.2.1⟩, hW.2.2.F ht⟩) hW.2.2.2.2 hdg X.2.2.2.2.2.2.2.2
theorem e_z (X : CTX p l m meth c cc nL s args own g A) {post : Int32 → va_W → Prop} {mc ms : Nat} (hQ : MQ below (va_Qi post (BO g A) A) args s mc ms A = Q) (hr : meth.sig.returnType = some .boolean) (hW : WD g A s H locs ws) {v : Int32} (hz : narrow .boolean (.int v) = .int v) (is : List Nat) {u : va_W} (hn : va_nd is = true) (hu : is.map (fun i => ws[i]?) = u.map some) (hp : post v u) (hf : cells ≤ mc ∧ slots ≤ ms) (hdg : decode cc pc = .ok (.ireturn, 1)) : W p l e R s m args below meth c H locs cells slots Q (F0 m pc ls [.int v]) := by
  subst hQ
  have h1 := hW.pick is hn hu
  refine W.widen hf.1 hf.2 ?_
  exact W.zret X.1 X.2.1 hr hz (fun t ht _ => ⟨⟨v, u, rfl, hp, by rw [ht]; exact h1.1, h1.2.1⟩, hW.2.2.F ht⟩) hW.2.2.2.2 hdg X.2.2.2.2.2.2.2.2
theorem e_l (X : CTX p l m meth c cc nL s args own g A) {post : Int64 → va_W → Prop} {mc ms : Nat} (hQ : MQ below (va_Ql post (BO g A) A) args s mc ms A = Q) (hr : meth.sig.returnType = some .long) (hW : WD g A s H locs ws) {v : Int64} (is : List Nat) {u : va_W} (hn : va_nd is = true) (hu : is.map (fun i => ws[i]?) = u.map some) (hp : post v u) (hf : cells ≤ mc ∧ slots ≤ ms) (hdg : decode cc pc = .ok (.lreturn, 1)) : W p l e R s m args below meth c H locs cells slots Q (F0 m pc ls [.long v]) := by
  subst hQ
  have h1 := hW.pick is hn hu
  refine W.widen hf.1 hf.2 ?_
  exact W.lret X.1 X.2.1 hr (fun t ht _ => ⟨⟨v, u, rfl, hp, by rw [ht]; exact h1.1, h1.2.1⟩, hW.2.2.F ht⟩) hW.2.2.2.2 hdg X.2.2.2.2.2.2.2.2
theorem e_v (X : CTX p l m meth c cc nL s args own g A) {post : va_W → Prop} {mc ms : Nat} (hQ : MQ below (va_Qv post (BO g A) A) args s mc ms A = Q) (hr : meth.sig.returnType = none) (hW : WD g A s H locs ws) (is : List Nat) {u : va_W} (hn : va_nd is = true) (hu : is.map (fun i => ws[i]?) = u.map some) (hp : post u) (hf : cells ≤ mc ∧ slots ≤ ms) (hdg : decode cc pc = .ok (.return_, 1)) : W p l e R s m args below meth c H locs cells slots Q (F0 m pc ls []) := by
  subst hQ
  have h1 := hW.pick is hn hu
  refine W.widen hf.1 hf.2 ?_
  exact W.vret X.1 X.2.1 hr (fun t ht _ => ⟨⟨u, rfl, hp, by rw [ht]; exact h1.1, h1.2.1⟩, hW.2.2.F ht⟩) hW.2.2.2.2 hdg X.2.2.2.2.2.2.2.2
theorem e_q (X : CTX p l m meth c cc nL s args own g A) {post : Option Nat → va_W → Prop} {mc ms : Nat} (hQ : MQ below (va_Qq post (BO g A) A) args s mc ms A = Q) {rt : FieldType} (hr : meth.sig.returnType = some rt) (hrt : (∃ n, rt = .object n) ∨ ∃ t, rt = .array t) (hW : WD g A s H locs ws) (o : Option Nat) {v : Value} (hv : va_rf o = v) (is : List Nat) {u : va_W} (hn : va_nd is = true) (hu : is.map (fun i => ws[i]?) = u.map some) (hp : post o u) (hf : cells ≤ mc ∧ slots ≤ ms) (hdg : decode cc pc = .ok (.areturn, 1)) : W p l e R s m args below meth c H locs cells slots Q (F0 m pc ls [v]) := by
  subst hQ
  have h1 := hW.pick is hn hu
  subst hv
  refine W.widen hf.1 hf.2 ?_
  exact W.aret X.1 X.2.1 hr hrt (va_rf_or o) (fun t ht _ => ⟨⟨o, u, rfl, hp, by rw [ht]; exact h1.1, h1.2.1⟩, hW.2.2.F ht⟩) hW.2.2.2.2 hdg X.2.2.2.2.2.2.2.2
end
theorem MetI.of {l : Launch} {g : GG} {y : MethodName} {cc : ByteArray} {nL : Nat} {r : Option FieldType} {d mc ms : Nat} {As : List Value} {ws : va_W} {post : Int32 → va_W → Prop} {own : String} (ho : y.cls = own) (hy : plainName y.cls = true) (hA : (lg_sl As).length ≤ nL)
    (body : ∀ (p : Program) (e : Env) (s : State) (m : MethodId) (below : List Frame) (meth : Method) (c : Code) (A : Nat → Prop) (ls : Array Slot) (args : Array Value) (Q : State → Prop), MQ below (va_Qi post (BO g A) A) args s mc ms A = Q → CTX p l m meth c cc nL s args own g A → meth.sig.returnType = r → meth.name = y.name → WD g A s s.heap [] ws → lv_has ls nL (lv_args 0 As) → W p l e (RM d mc ms) s m args below meth c s.heap [] 0 0 Q (F0 m 0 ls [])) : MetI l g y cc nL r d mc ms As ws post := by
  intro sz
  refine Met.ofW (cc := cc) (maxL := nL) (ret := r) hy rfl ?_
  intro p e s m args below meth c s₁ B hml hv
  obtain ⟨rfl, hsz, hP, hK, hD0, hT⟩ := hv
  subst hsz
  have hts := atoms_spec (ws := WW y cc nL r) B.pre
  have hl := lv_entry As (n := nL) hA
  rw [lg_entry_eq]
  exact body p e s m below meth c _ _ _ _ rfl ⟨B.exec, B.bytes, hml, by rw [← ho]; exact findClass_of_methodNamed B.named, fun w h => hts w (List.mem_cons_of_mem _ h), hK, hT, fun q h => Or.inr h, B.notSynchronized⟩ B.returns (name_of_methodNamed B.named B.method).1 ⟨hP, hD0.self, va_S.rf⟩ hl
theorem MetL.of {l : Launch} {g : GG} {y : MethodName} {cc : ByteArray} {nL : Nat} {r : Option FieldType} {d mc ms : Nat} {As : List Value} {ws : va_W} {post : Int64 → va_W → Prop} {own : String} (ho : y.cls = own) (hy : plainName y.cls = true) (hA : (lg_sl As).length ≤ nL)
    (body : ∀ (p : Program) (e : Env) (s : State) (m : MethodId) (below : List Frame) (meth : Method) (c : Code) (A : Nat → Prop) (ls : Array Slot) (args : Array Value) (Q : State → Prop), MQ below (va_Ql post (BO g A) A) args s mc ms A = Q → CTX p l m meth c cc nL s args own g A → meth.sig.returnType = r → meth.name = y.name → WD g A s s.heap [] ws → lv_has ls nL (lv_args 0 As) → W p l e (RM d mc ms) s m args below meth c s.heap [] 0 0 Q (F0 m 0 ls [])) : MetL l g y cc nL r d mc ms As ws post := by
  intro sz
  refine Met.ofW (cc := cc) (maxL := nL) (ret := r) hy rfl ?_
  intro p e s m args below meth c s₁ B hml hv
  obtain ⟨rfl, hsz, hP, hK, hD0, hT⟩ := hv
  subst hsz
  have hts := atoms_spec (ws := WW y cc nL r) B.pre
  have hl := lv_entry As (n := nL) hA
  rw [lg_entry_eq]
  exact body p e s m below meth c _ _ _ _ rfl ⟨B.exec, B.bytes, hml, by rw [← ho]; exact findClass_of_methodNamed B.named, fun w h => hts w (List.mem_cons_of_mem _ h), hK, hT, fun q h => Or.inr h, B.notSynchronized⟩ B.returns (name_of_methodNamed B.named B.method).1 ⟨hP, hD0.self, va_S.rf⟩ hl
theorem MetV.of {l : Launch} {g : GG} {y : MethodName} {cc : ByteArray} {nL : Nat} {r : Option FieldType} {d mc ms : Nat} {As : List Value} {ws : va_W} {post : va_W → Prop} {own : String} (ho : y.cls = own) (hy : plainName y.cls = true) (hA : (lg_sl As).length ≤ nL)
    (body : ∀ (p : Program) (e : Env) (s : State) (m : MethodId) (below : List Frame) (meth : Method) (c : Code) (A : Nat → Prop) (ls : Array Slot) (args : Array Value) (Q : State → Prop), MQ below (va_Qv post (BO g A) A) args s mc ms A = Q → CTX p l m meth c cc nL s args own g A → meth.sig.returnType = r → meth.name = y.name → WD g A s s.heap [] ws → lv_has ls nL (lv_args 0 As) → W p l e (RM d mc ms) s m args below meth c s.heap [] 0 0 Q (F0 m 0 ls [])) : MetV l g y cc nL r d mc ms As ws post := by
  intro sz
  refine Met.ofW (cc := cc) (maxL := nL) (ret := r) hy rfl ?_
  intro p e s m args below meth c s₁ B hml hv
  obtain ⟨rfl, hsz, hP, hK, hD0, hT⟩ := hv
  subst hsz
  have hts := atoms_spec (ws := WW y cc nL r) B.pre
  have hl := lv_entry As (n := nL) hA
  rw [lg_entry_eq]
  exact body p e s m below meth c _ _ _ _ rfl ⟨B.exec, B.bytes, hml, by rw [← ho]; exact findClass_of_methodNamed B.named, fun w h => hts w (List.mem_cons_of_mem _ h), hK, hT, fun q h => Or.inr h, B.notSynchronized⟩ B.returns (name_of_methodNamed B.named B.method).1 ⟨hP, hD0.self, va_S.rf⟩ hl
theorem MetQ.of {l : Launch} {g : GG} {y : MethodName} {cc : ByteArray} {nL : Nat} {r : Option FieldType} {d mc ms : Nat} {As : List Value} {ws : va_W} {post : Option Nat → va_W → Prop} {own : String} (ho : y.cls = own) (hy : plainName y.cls = true) (hA : (lg_sl As).length ≤ nL)
    (body : ∀ (p : Program) (e : Env) (s : State) (m : MethodId) (below : List Frame) (meth : Method) (c : Code) (A : Nat → Prop) (ls : Array Slot) (args : Array Value) (Q : State → Prop), MQ below (va_Qq post (BO g A) A) args s mc ms A = Q → CTX p l m meth c cc nL s args own g A → meth.sig.returnType = r → meth.name = y.name → WD g A s s.heap [] ws → lv_has ls nL (lv_args 0 As) → W p l e (RM d mc ms) s m args below meth c s.heap [] 0 0 Q (F0 m 0 ls [])) : MetQ l g y cc nL r d mc ms As ws post := by
  intro sz
  refine Met.ofW (cc := cc) (maxL := nL) (ret := r) hy rfl ?_
  intro p e s m args below meth c s₁ B hml hv
  obtain ⟨rfl, hsz, hP, hK, hD0, hT⟩ := hv
  subst hsz
  have hts := atoms_spec (ws := WW y cc nL r) B.pre
  have hl := lv_entry As (n := nL) hA
  rw [lg_entry_eq]
  exact body p e s m below meth c _ _ _ _ rfl ⟨B.exec, B.bytes, hml, by rw [← ho]; exact findClass_of_methodNamed B.named, fun w h => hts w (List.mem_cons_of_mem _ h), hK, hT, fun q h => Or.inr h, B.notSynchronized⟩ B.returns (name_of_methodNamed B.named B.method).1 ⟨hP, hD0.self, va_S.rf⟩ hl
end
section
theorem m_34 : (Cond.code yX8_init prog_10_method_1_code 1 (Option.none : Option Jvm.ClassFile.FieldType)) ∈ BW := bw (tb1 34 (by decide +kernel)) (by decide +kernel)
theorem dX8_init_0 : decode cX8_init 0 = .ok (.aload_n 0, 1) := by decide +kernel
theorem m_35 : (Cond.methodLink "NoonValley$Tape" 3 objectInit) ∈ BW := bw (tb1 35 (by decide +kernel)) (by decide +kernel)
theorem m_28 : (Cond.instanceMethod objectInit) ∈ BW := bw (tb1 28 (by decide +kernel)) (by decide +kernel)
theorem m_29 : (Cond.code objectInit object_method_1_code 1 (Option.none : Option Jvm.ClassFile.FieldType)) ∈ BW := bw (tb1 29 (by decide +kernel)) (by decide +kernel)
theorem dX8_init_1 : decode cX8_init 1 = .ok (.invokespecial 3, 3) := by decide +kernel
theorem dX8_init_4 : decode cX8_init 4 = .ok (.aload_n 0, 1) := by decide +kernel
theorem dX8_init_5 : decode cX8_init 5 = .ok (.sipush 400, 3) := by decide +kernel
theorem m_47 : (Cond.arrayClass FieldType.int) ∈ BW := bw (tb1 47 (by decide +kernel)) (by decide +kernel)
theorem dX8_init_8 : decode cX8_init 8 = .ok (.newarray .int, 2) := by decide +kernel
theorem m_40 : (Cond.laysFinal "NoonValley$Tape" "NoonValley$Tape" "bytes" "[I") ∈ BW := bw (tb1 40 (by decide +kernel)) (by decide +kernel)
theorem m_42 : (Cond.lays "NoonValley$Tape" "NoonValley$Tape" "length" "I") ∈ BW := bw (tb1 42 (by decide +kernel)) (by decide +kernel)
theorem m_44 : (Cond.lays "NoonValley$Tape" "NoonValley$Tape" "place" "I") ∈ BW := bw (tb1 44 (by decide +kernel)) (by decide +kernel)
theorem ciX8 : CI 8 RX8 TX8 3 tyX8 := ⟨rfl, fun w hw => by
  obtain ⟨k, hk, rfl⟩ := List.mem_map.mp hw
  have hk := List.mem_range.mp hk
  match k, hk with
  | 0, _ => exact m_40
  | 1, _ => exact m_42
  | 2, _ => exact m_44
  | k + 3, h => exact absurd h (by omega), tyX8_ok, nmX8⟩
theorem m_36 : (Cond.fieldLink "NoonValley$Tape" 11 "NoonValley$Tape" "bytes" "[I") ∈ BW := bw (tb1 36 (by decide +kernel)) (by decide +kernel)
theorem dX8_init_10 : decode cX8_init 10 = .ok (.putfield 11, 3) := by decide +kernel
theorem dX8_init_13 : decode cX8_init 13 = .ok (.return_, 1) := by decide +kernel
theorem m_56 : (Cond.code yX1_init prog_3_method_1_code 1 (Option.none : Option Jvm.ClassFile.FieldType)) ∈ BW := bw (tb1 56 (by decide +kernel)) (by decide +kernel)
theorem dX1_init_0 : decode cX1_init 0 = .ok (.aload_n 0, 1) := by decide +kernel
theorem m_57 : (Cond.methodLink "NoonValley$Carrying" 3 objectInit) ∈ BW := bw (tb1 57 (by decide +kernel)) (by decide +kernel)
theorem dX1_init_1 : decode cX1_init 1 = .ok (.invokespecial 3, 3) := by decide +kernel
theorem dX1_init_4 : decode cX1_init 4 = .ok (.aload_n 0, 1) := by decide +kernel
theorem dX1_init_5 : decode cX1_init 5 = .ok (.bipush 7, 2) := by decide +kernel
theorem dX1_init_7 : decode cX1_init 7 = .ok (.newarray .int, 2) := by decide +kernel
theorem m_64 : (Cond.laysFinal "NoonValley$Carrying" "NoonValley$Carrying" "known" "[I") ∈ BW := bw (tb1 64 (by decide +kernel)) (by decide +kernel)
theorem m_66 : (Cond.laysFinal "NoonValley$Carrying" "NoonValley$Carrying" "toldOnce" "[I") ∈ BW := bw (tb1 66 (by decide +kernel)) (by decide +kernel)
theorem m_68 : (Cond.lays "NoonValley$Carrying" "NoonValley$Carrying" "deaf" "I") ∈ BW := bw (tb1 68 (by decide +kernel)) (by decide +kernel)
theorem m_70 : (Cond.lays "NoonValley$Carrying" "NoonValley$Carrying" "useful" "J") ∈ BW := bw (tb1 70 (by decide +kernel)) (by decide +kernel)
theorem m_72 : (Cond.lays "NoonValley$Carrying" "NoonValley$Carrying" "breaking" "J") ∈ BW := bw (tb1 72 (by decide +kernel)) (by decide +kernel)
theorem ciX1 : CI 1 RX1 TX1 5 tyX1 := ⟨rfl, fun w hw => by
  obtain ⟨k, hk, rfl⟩ := List.mem_map.mp hw
  have hk := List.mem_range.mp hk
  match k, hk with
  | 0, _ => exact m_64
  | 1, _ => exact m_66
  | 2, _ => exact m_68
  | 3, _ => exact m_70
  | 4, _ => exact m_72
  | k + 5, h => exact absurd h (by omega), tyX1_ok, nmX1⟩
theorem m_58 : (Cond.fieldLink "NoonValley$Carrying" 9 "NoonValley$Carrying" "known" "[I") ∈ BW := bw (tb1 58 (by decide +kernel)) (by decide +kernel)
theorem dX1_init_9 : decode cX1_init 9 = .ok (.putfield 9, 3) := by decide +kernel
theorem dX1_init_12 : decode cX1_init 12 = .ok (.aload_n 0, 1) := by decide +kernel
theorem dX1_init_13 : decode cX1_init 13 = .ok (.bipush 7, 2) := by decide +kernel
theorem dX1_init_15 : decode cX1_init 15 = .ok (.newarray .int, 2) := by decide +kernel
theorem m_60 : (Cond.fieldLink "NoonValley$Carrying" 15 "NoonValley$Carrying" "toldOnce" "[I") ∈ BW := bw (tb1 60 (by decide +kernel)) (by decide +kernel)
theorem dX1_init_17 : decode cX1_init 17 = .ok (.putfield 15, 3) := by decide +kernel
theorem dX1_init_20 : decode cX1_init 20 = .ok (.return_, 1) := by decide +kernel
theorem m_85 : (Cond.code yX5_init prog_7_method_1_code 1 (Option.none : Option Jvm.ClassFile.FieldType)) ∈ BW := bw (tb1 85 (by decide +kernel)) (by decide +kernel)
theorem dX5_init_0 : decode cX5_init 0 = .ok (.aload_n 0, 1) := by decide +kernel
theorem m_86 : (Cond.methodLink "NoonValley$Rows" 3 objectInit) ∈ BW := bw (tb1 86 (by decide +kernel)) (by decide +kernel)
theorem dX5_init_1 : decode cX5_init 1 = .ok (.invokespecial 3, 3) := by decide +kernel
theorem dX5_init_4 : decode cX5_init 4 = .ok (.aload_n 0, 1) := by decide +kernel
theorem dX5_init_5 : decode cX5_init 5 = .ok (.sipush 128, 3) := by decide +kernel
theorem dX5_init_8 : decode cX5_init 8 = .ok (.newarray .int, 2) := by decide +kernel
theorem m_96 : (Cond.laysFinal "NoonValley$Rows" "NoonValley$Rows" "sets" "[I") ∈ BW := bw (tb1 96 (by decide +kernel)) (by decide +kernel)
theorem m_98 : (Cond.laysFinal "NoonValley$Rows" "NoonValley$Rows" "rows" "[I") ∈ BW := bw (tb1 98 (by decide +kernel)) (by decide +kernel)
theorem m_100 : (Cond.laysFinal "NoonValley$Rows" "NoonValley$Rows" "met" "[Z") ∈ BW := bw (tb1 100 (by decide +kernel)) (by decide +kernel)
theorem m_102 : (Cond.lays "NoonValley$Rows" "NoonValley$Rows" "count" "I") ∈ BW := bw (tb1 102 (by decide +kernel)) (by decide +kernel)
theorem m_104 : (Cond.laysFinal "NoonValley$Rows" "NoonValley$Rows" "choices" "[I") ∈ BW := bw (tb1 104 (by decide +kernel)) (by decide +kernel)
theorem m_106 : (Cond.lays "NoonValley$Rows" "NoonValley$Rows" "people" "I") ∈ BW := bw (tb1 106 (by decide +kernel)) (by decide +kernel)
theorem ciX5 : CI 5 RX5 TX5 6 tyX5 := ⟨rfl, fun w hw => by
  obtain ⟨k, hk, rfl⟩ := List.mem_map.mp hw
  have hk := List.mem_range.mp hk
  match k, hk with
  | 0, _ => exact m_96
  | 1, _ => exact m_98
  | 2, _ => exact m_100
  | 3, _ => exact m_102
  | 4, _ => exact m_104
  | 5, _ => exact m_106
  | k + 6, h => exact absurd h (by omega), tyX5_ok, nmX5⟩
theorem m_87 : (Cond.fieldLink "NoonValley$Rows" 11 "NoonValley$Rows" "sets" "[I") ∈ BW := bw (tb1 87 (by decide +kernel)) (by decide +kernel)
theorem dX5_init_10 : decode cX5_init 10 = .ok (.putfield 11, 3) := by decide +kernel
theorem dX5_init_13 : decode cX5_init 13 = .ok (.aload_n 0, 1) := by decide +kernel
theorem dX5_init_14 : decode cX5_init 14 = .ok (.sipush 128, 3) := by decide +kernel
theorem dX5_init_17 : decode cX5_init 17 = .ok (.newarray .int, 2) := by decide +kernel
theorem m_89 : (Cond.fieldLink "NoonValley$Rows" 15 "NoonValley$Rows" "rows" "[I") ∈ BW := bw (tb1 89 (by decide +kernel)) (by decide +kernel)
theorem dX5_init_19 : decode cX5_init 19 = .ok (.putfield 15, 3) := by decide +kernel
theorem dX5_init_22 : decode cX5_init 22 = .ok (.aload_n 0, 1) := by decide +kernel
theorem dX5_init_23 : decode cX5_init 23 = .ok (.sipush 128, 3) := by decide +kernel
theorem m_109 : (Cond.arrayClass FieldType.boolean) ∈ BW := bw (tb1 109 (by decide +kernel)) (by decide +kernel)
theorem dX5_init_26 : decode cX5_init 26 = .ok (.newarray .boolean, 2) := by decide +kernel
theorem m_91 : (Cond.fieldLink "NoonValley$Rows" 18 "NoonValley$Rows" "met" "[Z") ∈ BW := bw (tb1 91 (by decide +kernel)) (by decide +kernel)
theorem dX5_init_28 : decode cX5_init 28 = .ok (.putfield 18, 3) := by decide +kernel
theorem dX5_init_31 : decode cX5_init 31 = .ok (.aload_n 0, 1) := by decide +kernel
theorem dX5_init_32 : decode cX5_init 32 = .ok (.bipush 7, 2) := by decide +kernel
theorem dX5_init_34 : decode cX5_init 34 = .ok (.newarray .int, 2) := by decide +kernel
theorem m_94 : (Cond.fieldLink "NoonValley$Rows" 22 "NoonValley$Rows" "choices" "[I") ∈ BW := bw (tb1 94 (by decide +kernel)) (by decide +kernel)
theorem dX5_init_36 : decode cX5_init 36 = .ok (.putfield 22, 3) := by decide +kernel
theorem dX5_init_39 : decode cX5_init 39 = .ok (.return_, 1) := by decide +kernel
theorem m_172 : (Cond.code yX6_init prog_8_method_1_code 1 (Option.none : Option Jvm.ClassFile.FieldType)) ∈ BW := bw (tb1 172 (by decide +kernel)) (by decide +kernel)
theorem dX6_init_0 : decode cX6_init 0 = .ok (.aload_n 0, 1) := by decide +kernel
theorem m_173 : (Cond.methodLink "NoonValley$Shutting" 3 objectInit) ∈ BW := bw (tb1 173 (by decide +kernel)) (by decide +kernel)
theorem dX6_init_1 : decode cX6_init 1 = .ok (.invokespecial 3, 3) := by decide +kernel
theorem dX6_init_4 : decode cX6_init 4 = .ok (.return_, 1) := by decide +kernel
theorem m_194 : (Cond.code yX3_init prog_5_method_1_code 1 (Option.none : Option Jvm.ClassFile.FieldType)) ∈ BW := bw (tb1 194 (by decide +kernel)) (by decide +kernel)
theorem dX3_init_0 : decode cX3_init 0 = .ok (.aload_n 0, 1) := by decide +kernel
theorem m_195 : (Cond.methodLink "NoonValley$Gossip" 3 objectInit) ∈ BW := bw (tb1 195 (by decide +kernel)) (by decide +kernel)
theorem dX3_init_1 : decode cX3_init 1 = .ok (.invokespecial 3, 3) := by decide +kernel
theorem dX3_init_4 : decode cX3_init 4 = .ok (.aload_n 0, 1) := by decide +kernel
theorem dX3_init_5 : decode cX3_init 5 = .ok (.iconst 5, 1) := by decide +kernel
theorem dX3_init_6 : decode cX3_init 6 = .ok (.newarray .int, 2) := by decide +kernel
theorem m_199 : (Cond.lays "NoonValley$Gossip" "NoonValley$Gossip" "valley" "LNoonValley$Valley;") ∈ BW := bw (tb1 199 (by decide +kernel)) (by decide +kernel)
theorem m_201 : (Cond.lays "NoonValley$Gossip" "NoonValley$Gossip" "all" "I") ∈ BW := bw (tb1 201 (by decide +kernel)) (by decide +kernel)
theorem m_203 : (Cond.laysFinal "NoonValley$Gossip" "NoonValley$Gossip" "knows" "[I") ∈ BW := bw (tb1 203 (by decide +kernel)) (by decide +kernel)
theorem ciX3 : CI 3 RX3 TX3 3 tyX3 := ⟨rfl, fun w hw => by
  obtain ⟨k, hk, rfl⟩ := List.mem_map.mp hw
  have hk := List.mem_range.mp hk
  match k, hk with
  | 0, _ => exact m_199
  | 1, _ => exact m_201
  | 2, _ => exact m_203
  | k + 3, h => exact absurd h (by omega), tyX3_ok, nmX3⟩
theorem m_198 : (Cond.fieldLink "NoonValley$Gossip" 11 "NoonValley$Gossip" "knows" "[I") ∈ BW := bw (tb1 198 (by decide +kernel)) (by decide +kernel)
theorem dX3_init_8 : decode cX3_init 8 = .ok (.putfield 11, 3) := by decide +kernel
theorem dX3_init_11 : decode cX3_init 11 = .ok (.return_, 1) := by decide +kernel
theorem m_210 : (Cond.code yX9_init prog_11_method_1_code 1 (Option.none : Option Jvm.ClassFile.FieldType)) ∈ BW := bw (tb1 210 (by decide +kernel)) (by decide +kernel)
theorem dX9_init_0 : decode cX9_init 0 = .ok (.aload_n 0, 1) := by decide +kernel
theorem m_211 : (Cond.methodLink "NoonValley$Trade" 3 objectInit) ∈ BW := bw (tb1 211 (by decide +kernel)) (by decide +kernel)
theorem dX9_init_1 : decode cX9_init 1 = .ok (.invokespecial 3, 3) := by decide +kernel
theorem dX9_init_4 : decode cX9_init 4 = .ok (.aload_n 0, 1) := by decide +kernel
theorem dX9_init_5 : decode cX9_init 5 = .ok (.sipush 4096, 3) := by decide +kernel
theorem dX9_init_8 : decode cX9_init 8 = .ok (.newarray .int, 2) := by decide +kernel
theorem m_217 : (Cond.lays "NoonValley$Trade" "NoonValley$Trade" "now" "[I") ∈ BW := bw (tb1 217 (by decide +kernel)) (by decide +kernel)
theorem m_219 : (Cond.lays "NoonValley$Trade" "NoonValley$Trade" "next" "[I") ∈ BW := bw (tb1 219 (by decide +kernel)) (by decide +kernel)
theorem m_221 : (Cond.laysFinal "NoonValley$Trade" "NoonValley$Trade" "open" "[Z") ∈ BW := bw (tb1 221 (by decide +kernel)) (by decide +kernel)
theorem ciX9 : CI 9 RX9 TX9 3 tyX9 := ⟨rfl, fun w hw => by
  obtain ⟨k, hk, rfl⟩ := List.mem_map.mp hw
  have hk := List.mem_range.mp hk
  match k, hk with
  | 0, _ => exact m_217
  | 1, _ => exact m_219
  | 2, _ => exact m_221
  | k + 3, h => exact absurd h (by omega), tyX9_ok, nmX9⟩
theorem m_214 : (Cond.fieldLink "NoonValley$Trade" 11 "NoonValley$Trade" "now" "[I") ∈ BW := bw (tb1 214 (by decide +kernel)) (by decide +kernel)
theorem dX9_init_10 : decode cX9_init 10 = .ok (.putfield 11, 3) := by decide +kernel
theorem dX9_init_13 : decode cX9_init 13 = .ok (.aload_n 0, 1) := by decide +kernel
theorem dX9_init_14 : decode cX9_init 14 = .ok (.sipush 4096, 3) := by decide +kernel
theorem dX9_init_17 : decode cX9_init 17 = .ok (.newarray .int, 2) := by decide +kernel
theorem m_215 : (Cond.fieldLink "NoonValley$Trade" 15 "NoonValley$Trade" "next" "[I") ∈ BW := bw (tb1 215 (by decide +kernel)) (by decide +kernel)
theorem dX9_init_19 : decode cX9_init 19 = .ok (.putfield 15, 3) := by decide +kernel
theorem dX9_init_22 : decode cX9_init 22 = .ok (.aload_n 0, 1) := by decide +kernel
theorem m_212 : (Cond.fieldLink "NoonValley$Trade" 18 "NoonValley$Trade" "COUPLE_A" "[I") ∈ BW := bw (tb1 212 (by decide +kernel)) (by decide +kernel)
theorem dX9_init_23 : decode cX9_init 23 = .ok (.getstatic 18, 3) := by decide +kernel
theorem dX9_init_26 : decode cX9_init 26 = .ok (.arraylength, 1) := by decide +kernel
theorem dX9_init_27 : decode cX9_init 27 = .ok (.newarray .boolean, 2) := by decide +kernel
theorem m_216 : (Cond.fieldLink "NoonValley$Trade" 21 "NoonValley$Trade" "open" "[Z") ∈ BW := bw (tb1 216 (by decide +kernel)) (by decide +kernel)
theorem dX9_init_29 : decode cX9_init 29 = .ok (.putfield 21, 3) := by decide +kernel
theorem dX9_init_32 : decode cX9_init 32 = .ok (.return_, 1) := by decide +kernel
theorem m_228 : (Cond.code yX0_init prog_2_method_1_code 1 (Option.none : Option Jvm.ClassFile.FieldType)) ∈ BW := bw (tb1 228 (by decide +kernel)) (by decide +kernel)
theorem dX0_init_0 : decode cX0_init 0 = .ok (.aload_n 0, 1) := by decide +kernel
theorem m_229 : (Cond.methodLink "NoonValley$Cards" 3 objectInit) ∈ BW := bw (tb1 229 (by decide +kernel)) (by decide +kernel)
theorem dX0_init_1 : decode cX0_init 1 = .ok (.invokespecial 3, 3) := by decide +kernel
theorem dX0_init_4 : decode cX0_init 4 = .ok (.aload_n 0, 1) := by decide +kernel
theorem dX0_init_5 : decode cX0_init 5 = .ok (.bipush 7, 2) := by decide +kernel
theorem dX0_init_7 : decode cX0_init 7 = .ok (.newarray .int, 2) := by decide +kernel
theorem m_238 : (Cond.lays "NoonValley$Cards" "NoonValley$Cards" "valley" "LNoonValley$Valley;") ∈ BW := bw (tb1 238 (by decide +kernel)) (by decide +kernel)
theorem m_240 : (Cond.lays "NoonValley$Cards" "NoonValley$Cards" "known" "I") ∈ BW := bw (tb2 0 (by decide +kernel)) (by decide +kernel)
theorem m_242 : (Cond.lays "NoonValley$Cards" "NoonValley$Cards" "once" "I") ∈ BW := bw (tb2 2 (by decide +kernel)) (by decide +kernel)
theorem m_244 : (Cond.laysFinal "NoonValley$Cards" "NoonValley$Cards" "called" "[I") ∈ BW := bw (tb2 4 (by decide +kernel)) (by decide +kernel)
theorem m_246 : (Cond.laysFinal "NoonValley$Cards" "NoonValley$Cards" "time" "[I") ∈ BW := bw (tb2 6 (by decide +kernel)) (by decide +kernel)
theorem m_248 : (Cond.laysFinal "NoonValley$Cards" "NoonValley$Cards" "children" "[I") ∈ BW := bw (tb2 8 (by decide +kernel)) (by decide +kernel)
theorem m_250 : (Cond.laysFinal "NoonValley$Cards" "NoonValley$Cards" "order" "[I") ∈ BW := bw (tb2 10 (by decide +kernel)) (by decide +kernel)
theorem ciX0 : CI 0 RX0 TX0 7 tyX0 := ⟨rfl, fun w hw => by
  obtain ⟨k, hk, rfl⟩ := List.mem_map.mp hw
  have hk := List.mem_range.mp hk
  match k, hk with
  | 0, _ => exact m_238
  | 1, _ => exact m_240
  | 2, _ => exact m_242
  | 3, _ => exact m_244
  | 4, _ => exact m_246
  | 5, _ => exact m_248
  | 6, _ => exact m_250
  | k + 7, h => exact absurd h (by omega), tyX0_ok, nmX0⟩
theorem m_233 : (Cond.fieldLink "NoonValley$Cards" 9 "NoonValley$Cards" "called" "[I") ∈ BW := bw (tb1 233 (by decide +kernel)) (by decide +kernel)
theorem dX0_init_9 : decode cX0_init 9 = .ok (.putfield 9, 3) := by decide +kernel
theorem dX0_init_12 : decode cX0_init 12 = .ok (.aload_n 0, 1) := by decide +kernel
theorem dX0_init_13 : decode cX0_init 13 = .ok (.bipush 7, 2) := by decide +kernel
theorem dX0_init_15 : decode cX0_init 15 = .ok (.newarray .int, 2) := by decide +kernel
theorem m_234 : (Cond.fieldLink "NoonValley$Cards" 15 "NoonValley$Cards" "time" "[I") ∈ BW := bw (tb1 234 (by decide +kernel)) (by decide +kernel)
theorem dX0_init_17 : decode cX0_init 17 = .ok (.putfield 15, 3) := by decide +kernel
theorem dX0_init_20 : decode cX0_init 20 = .ok (.aload_n 0, 1) := by decide +kernel
theorem dX0_init_21 : decode cX0_init 21 = .ok (.bipush 7, 2) := by decide +kernel
theorem dX0_init_23 : decode cX0_init 23 = .ok (.newarray .int, 2) := by decide +kernel
theorem m_236 : (Cond.fieldLink "NoonValley$Cards" 18 "NoonValley$Cards" "children" "[I") ∈ BW := bw (tb1 236 (by decide +kernel)) (by decide +kernel)
theorem dX0_init_25 : decode cX0_init 25 = .ok (.putfield 18, 3) := by decide +kernel
theorem dX0_init_28 : decode cX0_init 28 = .ok (.aload_n 0, 1) := by decide +kernel
theorem dX0_init_29 : decode cX0_init 29 = .ok (.bipush 7, 2) := by decide +kernel
theorem dX0_init_31 : decode cX0_init 31 = .ok (.newarray .int, 2) := by decide +kernel
theorem m_237 : (Cond.fieldLink "NoonValley$Cards" 21 "NoonValley$Cards" "order" "[I") ∈ BW := bw (tb1 237 (by decide +kernel)) (by decide +kernel)
theorem dX0_init_33 : decode cX0_init 33 = .ok (.putfield 21, 3) := by decide +kernel
theorem dX0_init_36 : decode cX0_init 36 = .ok (.return_, 1) := by decide +kernel
theorem m_257 : (Cond.code yX2_init prog_4_method_1_code 1 (Option.none : Option Jvm.ClassFile.FieldType)) ∈ BW := bw (tb2 17 (by decide +kernel)) (by decide +kernel)
theorem dX2_init_0 : decode cX2_init 0 = .ok (.aload_n 0, 1) := by decide +kernel
theorem m_258 : (Cond.methodLink "NoonValley$Chance" 3 objectInit) ∈ BW := bw (tb2 18 (by decide +kernel)) (by decide +kernel)
theorem dX2_init_1 : decode cX2_init 1 = .ok (.invokespecial 3, 3) := by decide +kernel
theorem dX2_init_4 : decode cX2_init 4 = .ok (.aload_n 0, 1) := by decide +kernel
theorem dX2_init_5 : decode cX2_init 5 = .ok (.iconst 5, 1) := by decide +kernel
theorem m_266 : (Cond.arrayClass FieldType.long) ∈ BW := bw (tb2 26 (by decide +kernel)) (by decide +kernel)
theorem dX2_init_6 : decode cX2_init 6 = .ok (.newarray .long, 2) := by decide +kernel
theorem m_261 : (Cond.lays "NoonValley$Chance" "NoonValley$Chance" "now" "[J") ∈ BW := bw (tb2 21 (by decide +kernel)) (by decide +kernel)
theorem m_263 : (Cond.lays "NoonValley$Chance" "NoonValley$Chance" "next" "[J") ∈ BW := bw (tb2 23 (by decide +kernel)) (by decide +kernel)
theorem ciX2 : CI 2 RX2 TX2 2 tyX2 := ⟨rfl, fun w hw => by
  obtain ⟨k, hk, rfl⟩ := List.mem_map.mp hw
  have hk := List.mem_range.mp hk
  match k, hk with
  | 0, _ => exact m_261
  | 1, _ => exact m_263
  | k + 2, h => exact absurd h (by omega), tyX2_ok, nmX2⟩
theorem m_259 : (Cond.fieldLink "NoonValley$Chance" 11 "NoonValley$Chance" "now" "[J") ∈ BW := bw (tb2 19 (by decide +kernel)) (by decide +kernel)
theorem dX2_init_8 : decode cX2_init 8 = .ok (.putfield 11, 3) := by decide +kernel
theorem dX2_init_11 : decode cX2_init 11 = .ok (.aload_n 0, 1) := by decide +kernel
theorem dX2_init_12 : decode cX2_init 12 = .ok (.iconst 5, 1) := by decide +kernel
theorem dX2_init_13 : decode cX2_init 13 = .ok (.newarray .long, 2) := by decide +kernel
theorem m_260 : (Cond.fieldLink "NoonValley$Chance" 15 "NoonValley$Chance" "next" "[J") ∈ BW := bw (tb2 20 (by decide +kernel)) (by decide +kernel)
theorem dX2_init_15 : decode cX2_init 15 = .ok (.putfield 15, 3) := by decide +kernel
theorem dX2_init_18 : decode cX2_init 18 = .ok (.return_, 1) := by decide +kernel
theorem m_270 : (Cond.code yX10_init prog_12_method_1_code 1 (Option.none : Option Jvm.ClassFile.FieldType)) ∈ BW := bw (tb2 30 (by decide +kernel)) (by decide +kernel)
theorem dX10_init_0 : decode cX10_init 0 = .ok (.aload_n 0, 1) := by decide +kernel
theorem m_271 : (Cond.methodLink "NoonValley$Valley" 3 objectInit) ∈ BW := bw (tb2 31 (by decide +kernel)) (by decide +kernel)
theorem dX10_init_1 : decode cX10_init 1 = .ok (.invokespecial 3, 3) := by decide +kernel
theorem dX10_init_4 : decode cX10_init 4 = .ok (.aload_n 0, 1) := by decide +kernel
theorem dX10_init_5 : decode cX10_init 5 = .ok (.iconst 4, 1) := by decide +kernel
theorem dX10_init_6 : decode cX10_init 6 = .ok (.newarray .int, 2) := by decide +kernel
theorem m_320 : (Cond.lays "NoonValley$Valley" "NoonValley$Valley" "people" "I") ∈ BW := bw (tb2 80 (by decide +kernel)) (by decide +kernel)
theorem m_322 : (Cond.lays "NoonValley$Valley" "NoonValley$Valley" "lineCount" "I") ∈ BW := bw (tb2 82 (by decide +kernel)) (by decide +kernel)
theorem m_324 : (Cond.lays "NoonValley$Valley" "NoonValley$Valley" "deaf" "I") ∈ BW := bw (tb2 84 (by decide +kernel)) (by decide +kernel)
theorem m_326 : (Cond.laysFinal "NoonValley$Valley" "NoonValley$Valley" "knows" "[I") ∈ BW := bw (tb2 86 (by decide +kernel)) (by decide +kernel)
theorem m_328 : (Cond.laysFinal "NoonValley$Valley" "NoonValley$Valley" "must" "[I") ∈ BW := bw (tb2 88 (by decide +kernel)) (by decide +kernel)
theorem m_330 : (Cond.laysFinal "NoonValley$Valley" "NoonValley$Valley" "mustNot" "[I") ∈ BW := bw (tb2 90 (by decide +kernel)) (by decide +kernel)
theorem m_332 : (Cond.laysFinal "NoonValley$Valley" "NoonValley$Valley" "firstNews" "[I") ∈ BW := bw (tb2 92 (by decide +kernel)) (by decide +kernel)
theorem m_334 : (Cond.laysFinal "NoonValley$Valley" "NoonValley$Valley" "mustNews" "[I") ∈ BW := bw (tb2 94 (by decide +kernel)) (by decide +kernel)
theorem m_336 : (Cond.laysFinal "NoonValley$Valley" "NoonValley$Valley" "mustNotNews" "[I") ∈ BW := bw (tb2 96 (by decide +kernel)) (by decide +kernel)
theorem m_338 : (Cond.laysFinal "NoonValley$Valley" "NoonValley$Valley" "lines" "[I") ∈ BW := bw (tb2 98 (by decide +kernel)) (by decide +kernel)
theorem m_340 : (Cond.laysFinal "NoonValley$Valley" "NoonValley$Valley" "callable" "[I") ∈ BW := bw (tb2 100 (by decide +kernel)) (by decide +kernel)
theorem m_342 : (Cond.laysFinal "NoonValley$Valley" "NoonValley$Valley" "cards" "[I") ∈ BW := bw (tb2 102 (by decide +kernel)) (by decide +kernel)
theorem m_344 : (Cond.laysFinal "NoonValley$Valley" "NoonValley$Valley" "cardLength" "[I") ∈ BW := bw (tb2 104 (by decide +kernel)) (by decide +kernel)
theorem m_346 : (Cond.laysFinal "NoonValley$Valley" "NoonValley$Valley" "tales" "[I") ∈ BW := bw (tb2 106 (by decide +kernel)) (by decide +kernel)
theorem m_348 : (Cond.lays "NoonValley$Valley" "NoonValley$Valley" "gossipLength" "I") ∈ BW := bw (tb2 108 (by decide +kernel)) (by decide +kernel)
theorem m_350 : (Cond.laysFinal "NoonValley$Valley" "NoonValley$Valley" "gossipLines" "[I") ∈ BW := bw (tb2 110 (by decide +kernel)) (by decide +kernel)
theorem ciX10 : CI 10 RX10 TX10 16 tyX10 := ⟨rfl, fun w hw => by
  obtain ⟨k, hk, rfl⟩ := List.mem_map.mp hw
  have hk := List.mem_range.mp hk
  match k, hk with
  | 0, _ => exact m_320
  | 1, _ => exact m_322
  | 2, _ => exact m_324
  | 3, _ => exact m_326
  | 4, _ => exact m_328
  | 5, _ => exact m_330
  | 6, _ => exact m_332
  | 7, _ => exact m_334
  | 8, _ => exact m_336
  | 9, _ => exact m_338
  | 10, _ => exact m_340
  | 11, _ => exact m_342
  | 12, _ => exact m_344
  | 13, _ => exact m_346
  | 14, _ => exact m_348
  | 15, _ => exact m_350
  | k + 16, h => exact absurd h (by omega), tyX10_ok, nmX10⟩
theorem m_291 : (Cond.fieldLink "NoonValley$Valley" 9 "NoonValley$Valley" "knows" "[I") ∈ BW := bw (tb2 51 (by decide +kernel)) (by decide +kernel)
theorem dX10_init_8 : decode cX10_init 8 = .ok (.putfield 9, 3) := by decide +kernel
theorem dX10_init_11 : decode cX10_init 11 = .ok (.aload_n 0, 1) := by decide +kernel
theorem dX10_init_12 : decode cX10_init 12 = .ok (.iconst 4, 1) := by decide +kernel
theorem dX10_init_13 : decode cX10_init 13 = .ok (.newarray .int, 2) := by decide +kernel
theorem m_296 : (Cond.fieldLink "NoonValley$Valley" 15 "NoonValley$Valley" "must" "[I") ∈ BW := bw (tb2 56 (by decide +kernel)) (by decide +kernel)
theorem dX10_init_15 : decode cX10_init 15 = .ok (.putfield 15, 3) := by decide +kernel
theorem dX10_init_18 : decode cX10_init 18 = .ok (.aload_n 0, 1) := by decide +kernel
theorem dX10_init_19 : decode cX10_init 19 = .ok (.iconst 4, 1) := by decide +kernel
theorem dX10_init_20 : decode cX10_init 20 = .ok (.newarray .int, 2) := by decide +kernel
theorem m_300 : (Cond.fieldLink "NoonValley$Valley" 18 "NoonValley$Valley" "mustNot" "[I") ∈ BW := bw (tb2 60 (by decide +kernel)) (by decide +kernel)
theorem dX10_init_22 : decode cX10_init 22 = .ok (.putfield 18, 3) := by decide +kernel
theorem dX10_init_25 : decode cX10_init 25 = .ok (.aload_n 0, 1) := by decide +kernel
theorem dX10_init_26 : decode cX10_init 26 = .ok (.bipush 7, 2) := by decide +kernel
theorem dX10_init_28 : decode cX10_init 28 = .ok (.newarray .int, 2) := by decide +kernel
theorem m_304 : (Cond.fieldLink "NoonValley$Valley" 21 "NoonValley$Valley" "firstNews" "[I") ∈ BW := bw (tb2 64 (by decide +kernel)) (by decide +kernel)
theorem dX10_init_30 : decode cX10_init 30 = .ok (.putfield 21, 3) := by decide +kernel
theorem dX10_init_33 : decode cX10_init 33 = .ok (.aload_n 0, 1) := by decide +kernel
theorem dX10_init_34 : decode cX10_init 34 = .ok (.bipush 7, 2) := by decide +kernel
theorem dX10_init_36 : decode cX10_init 36 = .ok (.newarray .int, 2) := by decide +kernel
theorem m_306 : (Cond.fieldLink "NoonValley$Valley" 24 "NoonValley$Valley" "mustNews" "[I") ∈ BW := bw (tb2 66 (by decide +kernel)) (by decide +kernel)
theorem dX10_init_38 : decode cX10_init 38 = .ok (.putfield 24, 3) := by decide +kernel
theorem dX10_init_41 : decode cX10_init 41 = .ok (.aload_n 0, 1) := by decide +kernel
theorem dX10_init_42 : decode cX10_init 42 = .ok (.bipush 7, 2) := by decide +kernel
theorem dX10_init_44 : decode cX10_init 44 = .ok (.newarray .int, 2) := by decide +kernel
theorem m_308 : (Cond.fieldLink "NoonValley$Valley" 27 "NoonValley$Valley" "mustNotNews" "[I") ∈ BW := bw (tb2 68 (by decide +kernel)) (by decide +kernel)
theorem dX10_init_46 : decode cX10_init 46 = .ok (.putfield 27, 3) := by decide +kernel
theorem dX10_init_49 : decode cX10_init 49 = .ok (.aload_n 0, 1) := by decide +kernel
theorem dX10_init_50 : decode cX10_init 50 = .ok (.bipush 72, 2) := by decide +kernel
theorem dX10_init_52 : decode cX10_init 52 = .ok (.newarray .int, 2) := by decide +kernel
theorem m_310 : (Cond.fieldLink "NoonValley$Valley" 30 "NoonValley$Valley" "lines" "[I") ∈ BW := bw (tb2 70 (by decide +kernel)) (by decide +kernel)
theorem dX10_init_54 : decode cX10_init 54 = .ok (.putfield 30, 3) := by decide +kernel
theorem dX10_init_57 : decode cX10_init 57 = .ok (.aload_n 0, 1) := by decide +kernel
theorem dX10_init_58 : decode cX10_init 58 = .ok (.sipush 175, 3) := by decide +kernel
theorem dX10_init_61 : decode cX10_init 61 = .ok (.newarray .int, 2) := by decide +kernel
theorem m_311 : (Cond.fieldLink "NoonValley$Valley" 33 "NoonValley$Valley" "callable" "[I") ∈ BW := bw (tb2 71 (by decide +kernel)) (by decide +kernel)
theorem dX10_init_63 : decode cX10_init 63 = .ok (.putfield 33, 3) := by decide +kernel
theorem dX10_init_66 : decode cX10_init 66 = .ok (.aload_n 0, 1) := by decide +kernel
theorem dX10_init_67 : decode cX10_init 67 = .ok (.bipush 42, 2) := by decide +kernel
theorem dX10_init_69 : decode cX10_init 69 = .ok (.newarray .int, 2) := by decide +kernel
theorem m_312 : (Cond.fieldLink "NoonValley$Valley" 36 "NoonValley$Valley" "cards" "[I") ∈ BW := bw (tb2 72 (by decide +kernel)) (by decide +kernel)
theorem dX10_init_71 : decode cX10_init 71 = .ok (.putfield 36, 3) := by decide +kernel
theorem dX10_init_74 : decode cX10_init 74 = .ok (.aload_n 0, 1) := by decide +kernel
theorem dX10_init_75 : decode cX10_init 75 = .ok (.bipush 7, 2) := by decide +kernel
theorem dX10_init_77 : decode cX10_init 77 = .ok (.newarray .int, 2) := by decide +kernel
theorem m_313 : (Cond.fieldLink "NoonValley$Valley" 39 "NoonValley$Valley" "cardLength" "[I") ∈ BW := bw (tb2 73 (by decide +kernel)) (by decide +kernel)
theorem dX10_init_79 : decode cX10_init 79 = .ok (.putfield 39, 3) := by decide +kernel
theorem dX10_init_82 : decode cX10_init 82 = .ok (.aload_n 0, 1) := by decide +kernel
theorem dX10_init_83 : decode cX10_init 83 = .ok (.bipush 28, 2) := by decide +kernel
theorem dX10_init_85 : decode cX10_init 85 = .ok (.newarray .int, 2) := by decide +kernel
theorem m_314 : (Cond.fieldLink "NoonValley$Valley" 42 "NoonValley$Valley" "tales" "[I") ∈ BW := bw (tb2 74 (by decide +kernel)) (by decide +kernel)
theorem dX10_init_87 : decode cX10_init 87 = .ok (.putfield 42, 3) := by decide +kernel
theorem dX10_init_90 : decode cX10_init 90 = .ok (.aload_n 0, 1) := by decide +kernel
theorem dX10_init_91 : decode cX10_init 91 = .ok (.bipush (-2), 2) := by decide +kernel
theorem m_315 : (Cond.fieldLink "NoonValley$Valley" 45 "NoonValley$Valley" "gossipLength" "I") ∈ BW := bw (tb2 75 (by decide +kernel)) (by decide +kernel)
theorem dX10_init_93 : decode cX10_init 93 = .ok (.putfield 45, 3) := by decide +kernel
theorem dX10_init_96 : decode cX10_init 96 = .ok (.aload_n 0, 1) := by decide +kernel
theorem dX10_init_97 : decode cX10_init 97 = .ok (.bipush 7, 2) := by decide +kernel
theorem dX10_init_99 : decode cX10_init 99 = .ok (.newarray .int, 2) := by decide +kernel
theorem m_317 : (Cond.fieldLink "NoonValley$Valley" 51 "NoonValley$Valley" "gossipLines" "[I") ∈ BW := bw (tb2 77 (by decide +kernel)) (by decide +kernel)
theorem dX10_init_101 : decode cX10_init 101 = .ok (.putfield 51, 3) := by decide +kernel
theorem dX10_init_104 : decode cX10_init 104 = .ok (.return_, 1) := by decide +kernel
set_option maxHeartbeats 4000000 in
set_option maxRecDepth 100000 in
theorem C_X8_init (l : Launch) (g : GG) (h0 : Nat) : MetV l g yX8_init cX8_init 1 none 1 1 400 [.ref h0] [(h0, .inr (8, [.null, .int 0, .int 0]))] (fun u => ∃ q1 : Nat, u = [(h0, .inr (8, [.ref q1, .int 0, .int 0]))]) := by
  refine MetV.of (own := RX8) rfl (by decide) (Nat.le_of_ble_eq_true rfl) ?_
  intro p e s m below meth c A ls args Q hQ X hr hin hW hl
  have hx := X.1
  have hb := X.2.1
  have hl : lv_has ls 1 [(0, .ref h0)] := hl
  refine lv_aload_n (pc := 0) hx hb dX8_init_0 rfl (lv_at hl 0 rfl) ?_
  refine W.objInit hx hb X.2.2.2.1 (X.2.2.2.2.1 _ m_35) (X.2.2.2.2.1 _ m_28) (X.2.2.2.2.1 _ m_29) rfl (by rw [X.2.2.1]; exact hl.1) rfl dX8_init_1 (Nat.le_of_ble_eq_true rfl) (Nat.le_of_ble_eq_true rfl) ?_
  refine W.eq (g2 := F0 m 4 ls []) rfl ?_
  refine lv_aload_n (pc := 4) hx hb dX8_init_4 rfl (lv_at hl 0 rfl) ?_
  refine lv_sipush (v := 400) (pc := 5) hx hb dX8_init_5 (by decide) ?_
  refine r_newa (a0 := (400, .inl (fun _ => 0))) X hW .int rfl m_47 1 rfl (by intro C h; cases h) (fun _ => rfl) (by decide) (by decide) (Nat.le_of_ble_eq_true rfl) ⟨Nat.le_of_ble_eq_true rfl, Nat.le_of_ble_eq_true rfl⟩ dX8_init_8 (fun q1 H hW => ?_)
  have hW : WD g A s _ _ [(h0, .inr (8, [.null, .int 0, .int 0]))] := hW.pick [0] rfl rfl
  refine r_putF (ws' := [(h0, .inr (8, [.ref q1, .int 0, .int 0]))]) X hin hW 0 ciX8 0 rfl (by decide) m_36 rfl rfl rfl rfl rfl (Nat.le_of_ble_eq_true rfl) rfl dX8_init_10 (fun H locs hW => ?_)
  exact e_v X hQ hr hW [0] rfl rfl (⟨q1, rfl⟩) ⟨Nat.le_of_ble_eq_true rfl, Nat.le_of_ble_eq_true rfl⟩ dX8_init_13

set_option maxHeartbeats 4000000 in
set_option maxRecDepth 100000 in
theorem C_X1_init (l : Launch) (g : GG) (h0 : Nat) : MetV l g yX1_init cX1_init 1 none 1 2 14 [.ref h0] [(h0, .inr (1, [.null, .null, .int 0, .long 0, .long 0]))] (fun u => u = []) := by
  refine MetV.of (own := RX1) rfl (by decide) (Nat.le_of_ble_eq_true rfl) ?_
  intro p e s m below meth c A ls args Q hQ X hr hin hW hl
  have hx := X.1
  have hb := X.2.1
  have hl : lv_has ls 1 [(0, .ref h0)] := hl
  refine lv_aload_n (pc := 0) hx hb dX1_init_0 rfl (lv_at hl 0 rfl) ?_
  refine W.objInit hx hb X.2.2.2.1 (X.2.2.2.2.1 _ m_57) (X.2.2.2.2.1 _ m_28) (X.2.2.2.2.1 _ m_29) rfl (by rw [X.2.2.1]; exact hl.1) rfl dX1_init_1 (Nat.le_of_ble_eq_true rfl) (Nat.le_of_ble_eq_true rfl) ?_
  refine W.eq (g2 := F0 m 4 ls []) rfl ?_
  refine lv_aload_n (pc := 4) hx hb dX1_init_4 rfl (lv_at hl 0 rfl) ?_
  refine lv_bipush (v := 7) (pc := 5) hx hb dX1_init_5 (by decide) ?_
  refine r_newa (a0 := (7, .inl (fun _ => 0))) X hW .int rfl m_47 1 rfl (by intro C h; cases h) (fun _ => rfl) (by decide) (by decide) (Nat.le_of_ble_eq_true rfl) ⟨Nat.le_of_ble_eq_true rfl, Nat.le_of_ble_eq_true rfl⟩ dX1_init_7 (fun q1 H hW => ?_)
  have hW : WD g A s _ _ [(h0, .inr (1, [.null, .null, .int 0, .long 0, .long 0]))] := hW.pick [0] rfl rfl
  refine r_putF (ws' := [(h0, .inr (1, [.ref q1, .null, .int 0, .long 0, .long 0]))]) X hin hW 0 ciX1 0 rfl (by decide) m_58 rfl rfl rfl rfl rfl (Nat.le_of_ble_eq_true rfl) rfl dX1_init_9 (fun H locs hW => ?_)
  refine lv_aload_n (pc := 12) hx hb dX1_init_12 rfl (lv_at hl 0 rfl) ?_
  refine lv_bipush (v := 7) (pc := 13) hx hb dX1_init_13 (by decide) ?_
  refine r_newa (a0 := (7, .inl (fun _ => 0))) X hW .int rfl m_47 1 rfl (by intro C h; cases h) (fun _ => rfl) (by decide) (by decide) (Nat.le_of_ble_eq_true rfl) ⟨Nat.le_of_ble_eq_true rfl, Nat.le_of_ble_eq_true rfl⟩ dX1_init_15 (fun q2 H hW => ?_)
  have hW : WD g A s _ _ [(h0, .inr (1, [.ref q1, .null, .int 0, .long 0, .long 0]))] := hW.pick [0] rfl rfl
  refine r_putF (ws' := [(h0, .inr (1, [.ref q1, .ref q2, .int 0, .long 0, .long 0]))]) X hin hW 0 ciX1 1 rfl (by decide) m_60 rfl rfl rfl rfl rfl (Nat.le_of_ble_eq_true rfl) rfl dX1_init_17 (fun H locs hW => ?_)
  exact e_v X hQ hr hW [] rfl rfl (rfl) ⟨Nat.le_of_ble_eq_true rfl, Nat.le_of_ble_eq_true rfl⟩ dX1_init_20

set_option maxHeartbeats 4000000 in
set_option maxRecDepth 100000 in
theorem C_X5_init (l : Launch) (g : GG) (h0 : Nat) : MetV l g yX5_init cX5_init 1 none 1 4 391 [.ref h0] [(h0, .inr (5, [.null, .null, .null, .int 0, .null, .int 0]))] (fun u => u = []) := by
  refine MetV.of (own := RX5) rfl (by decide) (Nat.le_of_ble_eq_true rfl) ?_
  intro p e s m below meth c A ls args Q hQ X hr hin hW hl
  have hx := X.1
  have hb := X.2.1
  have hl : lv_has ls 1 [(0, .ref h0)] := hl
  refine lv_aload_n (pc := 0) hx hb dX5_init_0 rfl (lv_at hl 0 rfl) ?_
  refine W.objInit hx hb X.2.2.2.1 (X.2.2.2.2.1 _ m_86) (X.2.2.2.2.1 _ m_28) (X.2.2.2.2.1 _ m_29) rfl (by rw [X.2.2.1]; exact hl.1) rfl dX5_init_1 (Nat.le_of_ble_eq_true rfl) (Nat.le_of_ble_eq_true rfl) ?_
  refine W.eq (g2 := F0 m 4 ls []) rfl ?_
  refine lv_aload_n (pc := 4) hx hb dX5_init_4 rfl (lv_at hl 0 rfl) ?_
  refine lv_sipush (v := 128) (pc := 5) hx hb dX5_init_5 (by decide) ?_
  refine r_newa (a0 := (128, .inl (fun _ => 0))) X hW .int rfl m_47 1 rfl (by intro C h; cases h) (fun _ => rfl) (by decide) (by decide) (Nat.le_of_ble_eq_true rfl) ⟨Nat.le_of_ble_eq_true rfl, Nat.le_of_ble_eq_true rfl⟩ dX5_init_8 (fun q1 H hW => ?_)
  have hW : WD g A s _ _ [(h0, .inr (5, [.null, .null, .null, .int 0, .null, .int 0]))] := hW.pick [0] rfl rfl
  refine r_putF (ws' := [(h0, .inr (5, [.ref q1, .null, .null, .int 0, .null, .int 0]))]) X hin hW 0 ciX5 0 rfl (by decide) m_87 rfl rfl rfl rfl rfl (Nat.le_of_ble_eq_true rfl) rfl dX5_init_10 (fun H locs hW => ?_)
  refine lv_aload_n (pc := 13) hx hb dX5_init_13 rfl (lv_at hl 0 rfl) ?_
  refine lv_sipush (v := 128) (pc := 14) hx hb dX5_init_14 (by decide) ?_
  refine r_newa (a0 := (128, .inl (fun _ => 0))) X hW .int rfl m_47 1 rfl (by intro C h; cases h) (fun _ => rfl) (by decide) (by decide) (Nat.le_of_ble_eq_true rfl) ⟨Nat.le_of_ble_eq_true rfl, Nat.le_of_ble_eq_true rfl⟩ dX5_init_17 (fun q2 H hW => ?_)
  have hW : WD g A s _ _ [(h0, .inr (5, [.ref q1, .null, .null, .int 0, .null, .int 0]))] := hW.pick [0] rfl rfl
  refine r_putF (ws' := [(h0, .inr (5, [.ref q1, .ref q2, .null, .int 0, .null, .int 0]))]) X hin hW 0 ciX5 1 rfl (by decide) m_89 rfl rfl rfl rfl rfl (Nat.le_of_ble_eq_true rfl) rfl dX5_init_19 (fun H locs hW => ?_)
  refine lv_aload_n (pc := 22) hx hb dX5_init_22 rfl (lv_at hl 0 rfl) ?_
  refine lv_sipush (v := 128) (pc := 23) hx hb dX5_init_23 (by decide) ?_
  refine r_newa (a0 := (128, .inl (fun _ => 0))) X hW .boolean rfl m_109 3 rfl (by intro C h; cases h) (fun _ => rfl) (by decide) (by decide) (Nat.le_of_ble_eq_true rfl) ⟨Nat.le_of_ble_eq_true rfl, Nat.le_of_ble_eq_true rfl⟩ dX5_init_26 (fun q3 H hW => ?_)
  have hW : WD g A s _ _ [(h0, .inr (5, [.ref q1, .ref q2, .null, .int 0, .null, .int 0]))] := hW.pick [0] rfl rfl
  refine r_putF (ws' := [(h0, .inr (5, [.ref q1, .ref q2, .ref q3, .int 0, .null, .int 0]))]) X hin hW 0 ciX5 2 rfl (by decide) m_91 rfl rfl rfl rfl rfl (Nat.le_of_ble_eq_true rfl) rfl dX5_init_28 (fun H locs hW => ?_)
  refine lv_aload_n (pc := 31) hx hb dX5_init_31 rfl (lv_at hl 0 rfl) ?_
  refine lv_bipush (v := 7) (pc := 32) hx hb dX5_init_32 (by decide) ?_
  refine r_newa (a0 := (7, .inl (fun _ => 0))) X hW .int rfl m_47 1 rfl (by intro C h; cases h) (fun _ => rfl) (by decide) (by decide) (Nat.le_of_ble_eq_true rfl) ⟨Nat.le_of_ble_eq_true rfl, Nat.le_of_ble_eq_true rfl⟩ dX5_init_34 (fun q4 H hW => ?_)
  have hW : WD g A s _ _ [(h0, .inr (5, [.ref q1, .ref q2, .ref q3, .int 0, .null, .int 0]))] := hW.pick [0] rfl rfl
  refine r_putF (ws' := [(h0, .inr (5, [.ref q1, .ref q2, .ref q3, .int 0, .ref q4, .int 0]))]) X hin hW 0 ciX5 4 rfl (by decide) m_94 rfl rfl rfl rfl rfl (Nat.le_of_ble_eq_true rfl) rfl dX5_init_36 (fun H locs hW => ?_)
  exact e_v X hQ hr hW [] rfl rfl (rfl) ⟨Nat.le_of_ble_eq_true rfl, Nat.le_of_ble_eq_true rfl⟩ dX5_init_39

set_option maxHeartbeats 4000000 in
set_option maxRecDepth 100000 in
theorem C_X6_init (l : Launch) (g : GG) (h0 : Nat) : MetV l g yX6_init cX6_init 1 none 1 0 0 [.ref h0] [(h0, .inr (6, [.null, .int 0, .int 0, .int 0, .int 0]))] (fun u => u = []) := by
  refine MetV.of (own := RX6) rfl (by decide) (Nat.le_of_ble_eq_true rfl) ?_
  intro p e s m below meth c A ls args Q hQ X hr hin hW hl
  have hx := X.1
  have hb := X.2.1
  have hl : lv_has ls 1 [(0, .ref h0)] := hl
  refine lv_aload_n (pc := 0) hx hb dX6_init_0 rfl (lv_at hl 0 rfl) ?_
  refine W.objInit hx hb X.2.2.2.1 (X.2.2.2.2.1 _ m_173) (X.2.2.2.2.1 _ m_28) (X.2.2.2.2.1 _ m_29) rfl (by rw [X.2.2.1]; exact hl.1) rfl dX6_init_1 (Nat.le_of_ble_eq_true rfl) (Nat.le_of_ble_eq_true rfl) ?_
  refine W.eq (g2 := F0 m 4 ls []) rfl ?_
  exact e_v X hQ hr hW [] rfl rfl (rfl) ⟨Nat.le_of_ble_eq_true rfl, Nat.le_of_ble_eq_true rfl⟩ dX6_init_4

set_option maxHeartbeats 4000000 in
set_option maxRecDepth 100000 in
theorem C_X3_init (l : Launch) (g : GG) (h0 : Nat) : MetV l g yX3_init cX3_init 1 none 1 1 5 [.ref h0] [(h0, .inr (3, [.null, .int 0, .null]))] (fun u => u = []) := by
  refine MetV.of (own := RX3) rfl (by decide) (Nat.le_of_ble_eq_true rfl) ?_
  intro p e s m below meth c A ls args Q hQ X hr hin hW hl
  have hx := X.1
  have hb := X.2.1
  have hl : lv_has ls 1 [(0, .ref h0)] := hl
  refine lv_aload_n (pc := 0) hx hb dX3_init_0 rfl (lv_at hl 0 rfl) ?_
  refine W.objInit hx hb X.2.2.2.1 (X.2.2.2.2.1 _ m_195) (X.2.2.2.2.1 _ m_28) (X.2.2.2.2.1 _ m_29) rfl (by rw [X.2.2.1]; exact hl.1) rfl dX3_init_1 (Nat.le_of_ble_eq_true rfl) (Nat.le_of_ble_eq_true rfl) ?_
  refine W.eq (g2 := F0 m 4 ls []) rfl ?_
  refine lv_aload_n (pc := 4) hx hb dX3_init_4 rfl (lv_at hl 0 rfl) ?_
  refine lv_iconst (v := 5) (pc := 5) hx hb dX3_init_5 (by decide) ?_
  refine r_newa (a0 := (5, .inl (fun _ => 0))) X hW .int rfl m_47 1 rfl (by intro C h; cases h) (fun _ => rfl) (by decide) (by decide) (Nat.le_of_ble_eq_true rfl) ⟨Nat.le_of_ble_eq_true rfl, Nat.le_of_ble_eq_true rfl⟩ dX3_init_6 (fun q1 H hW => ?_)
  have hW : WD g A s _ _ [(h0, .inr (3, [.null, .int 0, .null]))] := hW.pick [0] rfl rfl
  refine r_putF (ws' := [(h0, .inr (3, [.null, .int 0, .ref q1]))]) X hin hW 0 ciX3 2 rfl (by decide) m_198 rfl rfl rfl rfl rfl (Nat.le_of_ble_eq_true rfl) rfl dX3_init_8 (fun H locs hW => ?_)
  exact e_v X hQ hr hW [] rfl rfl (rfl) ⟨Nat.le_of_ble_eq_true rfl, Nat.le_of_ble_eq_true rfl⟩ dX3_init_11

set_option maxHeartbeats 4000000 in
set_option maxRecDepth 100000 in
theorem C_X9_init (l : Launch) (g : GG) (h0 : Nat) : MetV l g yX9_init cX9_init 1 none 1 3 8198 [.ref h0] [(h0, .inr (9, [.null, .null, .null]))] (fun u => u = []) := by
  refine MetV.of (own := RX9) rfl (by decide) (Nat.le_of_ble_eq_true rfl) ?_
  intro p e s m below meth c A ls args Q hQ X hr hin hW hl
  have hx := X.1
  have hb := X.2.1
  have hl : lv_has ls 1 [(0, .ref h0)] := hl
  refine lv_aload_n (pc := 0) hx hb dX9_init_0 rfl (lv_at hl 0 rfl) ?_
  refine W.objInit hx hb X.2.2.2.1 (X.2.2.2.2.1 _ m_211) (X.2.2.2.2.1 _ m_28) (X.2.2.2.2.1 _ m_29) rfl (by rw [X.2.2.1]; exact hl.1) rfl dX9_init_1 (Nat.le_of_ble_eq_true rfl) (Nat.le_of_ble_eq_true rfl) ?_
  refine W.eq (g2 := F0 m 4 ls []) rfl ?_
  refine lv_aload_n (pc := 4) hx hb dX9_init_4 rfl (lv_at hl 0 rfl) ?_
  refine lv_sipush (v := 4096) (pc := 5) hx hb dX9_init_5 (by decide) ?_
  refine r_newa (a0 := (4096, .inl (fun _ => 0))) X hW .int rfl m_47 1 rfl (by intro C h; cases h) (fun _ => rfl) (by decide) (by decide) (Nat.le_of_ble_eq_true rfl) ⟨Nat.le_of_ble_eq_true rfl, Nat.le_of_ble_eq_true rfl⟩ dX9_init_8 (fun q1 H hW => ?_)
  have hW : WD g A s _ _ [(h0, .inr (9, [.null, .null, .null]))] := hW.pick [0] rfl rfl
  refine r_put (ws' := [(h0, .inr (9, [.ref q1, .null, .null]))]) X hW 0 ciX9 0 rfl (by decide) m_214 rfl rfl rfl rfl (Nat.le_of_ble_eq_true rfl) rfl dX9_init_10 (fun H locs hW => ?_)
  refine lv_aload_n (pc := 13) hx hb dX9_init_13 rfl (lv_at hl 0 rfl) ?_
  refine lv_sipush (v := 4096) (pc := 14) hx hb dX9_init_14 (by decide) ?_
  refine r_newa (a0 := (4096, .inl (fun _ => 0))) X hW .int rfl m_47 1 rfl (by intro C h; cases h) (fun _ => rfl) (by decide) (by decide) (Nat.le_of_ble_eq_true rfl) ⟨Nat.le_of_ble_eq_true rfl, Nat.le_of_ble_eq_true rfl⟩ dX9_init_17 (fun q2 H hW => ?_)
  have hW : WD g A s _ _ [(h0, .inr (9, [.ref q1, .null, .null]))] := hW.pick [0] rfl rfl
  refine r_put (ws' := [(h0, .inr (9, [.ref q1, .ref q2, .null]))]) X hW 0 ciX9 1 rfl (by decide) m_215 rfl rfl rfl rfl (Nat.le_of_ble_eq_true rfl) rfl dX9_init_19 (fun H locs hW => ?_)
  refine lv_aload_n (pc := 22) hx hb dX9_init_22 rfl (lv_at hl 0 rfl) ?_
  refine va_gets (pc := 23) hx hb X.2.2.2.2.2.2.1.1.1 hW.2.2 X.2.2.2.1 (X.2.2.2.2.1 _ m_212) (fun _ h9 => h9) dX9_init_23 ?_
  refine va_tlen (pc := 26) (v := 6) hx hb X.2.2.2.2.2.2.1.1.2 hW.2.2 rfl dX9_init_26 ?_
  refine r_newa (a0 := (6, .inl (fun _ => 0))) X hW .boolean rfl m_109 3 rfl (by intro C h; cases h) (fun _ => rfl) (by decide) (by decide) (Nat.le_of_ble_eq_true rfl) ⟨Nat.le_of_ble_eq_true rfl, Nat.le_of_ble_eq_true rfl⟩ dX9_init_27 (fun q3 H hW => ?_)
  have hW : WD g A s _ _ [(h0, .inr (9, [.ref q1, .ref q2, .null]))] := hW.pick [0] rfl rfl
  refine r_putF (ws' := [(h0, .inr (9, [.ref q1, .ref q2, .ref q3]))]) X hin hW 0 ciX9 2 rfl (by decide) m_216 rfl rfl rfl rfl rfl (Nat.le_of_ble_eq_true rfl) rfl dX9_init_29 (fun H locs hW => ?_)
  exact e_v X hQ hr hW [] rfl rfl (rfl) ⟨Nat.le_of_ble_eq_true rfl, Nat.le_of_ble_eq_true rfl⟩ dX9_init_32

set_option maxHeartbeats 4000000 in
set_option maxRecDepth 100000 in
theorem C_X0_init (l : Launch) (g : GG) (h0 : Nat) : MetV l g yX0_init cX0_init 1 none 1 4 28 [.ref h0] [(h0, .inr (0, [.null, .int 0, .int 0, .null, .null, .null, .null]))] (fun u => u = []) := by
  refine MetV.of (own := RX0) rfl (by decide) (Nat.le_of_ble_eq_true rfl) ?_
  intro p e s m below meth c A ls args Q hQ X hr hin hW hl
  have hx := X.1
  have hb := X.2.1
  have hl : lv_has ls 1 [(0, .ref h0)] := hl
  refine lv_aload_n (pc := 0) hx hb dX0_init_0 rfl (lv_at hl 0 rfl) ?_
  refine W.objInit hx hb X.2.2.2.1 (X.2.2.2.2.1 _ m_229) (X.2.2.2.2.1 _ m_28) (X.2.2.2.2.1 _ m_29) rfl (by rw [X.2.2.1]; exact hl.1) rfl dX0_init_1 (Nat.le_of_ble_eq_true rfl) (Nat.le_of_ble_eq_true rfl) ?_
  refine W.eq (g2 := F0 m 4 ls []) rfl ?_
  refine lv_aload_n (pc := 4) hx hb dX0_init_4 rfl (lv_at hl 0 rfl) ?_
  refine lv_bipush (v := 7) (pc := 5) hx hb dX0_init_5 (by decide) ?_
  refine r_newa (a0 := (7, .inl (fun _ => 0))) X hW .int rfl m_47 1 rfl (by intro C h; cases h) (fun _ => rfl) (by decide) (by decide) (Nat.le_of_ble_eq_true rfl) ⟨Nat.le_of_ble_eq_true rfl, Nat.le_of_ble_eq_true rfl⟩ dX0_init_7 (fun q1 H hW => ?_)
  have hW : WD g A s _ _ [(h0, .inr (0, [.null, .int 0, .int 0, .null, .null, .null, .null]))] := hW.pick [0] rfl rfl
  refine r_putF (ws' := [(h0, .inr (0, [.null, .int 0, .int 0, .ref q1, .null, .null, .null]))]) X hin hW 0 ciX0 3 rfl (by decide) m_233 rfl rfl rfl rfl rfl (Nat.le_of_ble_eq_true rfl) rfl dX0_init_9 (fun H locs hW => ?_)
  refine lv_aload_n (pc := 12) hx hb dX0_init_12 rfl (lv_at hl 0 rfl) ?_
  refine lv_bipush (v := 7) (pc := 13) hx hb dX0_init_13 (by decide) ?_
  refine r_newa (a0 := (7, .inl (fun _ => 0))) X hW .int rfl m_47 1 rfl (by intro C h; cases h) (fun _ => rfl) (by decide) (by decide) (Nat.le_of_ble_eq_true rfl) ⟨Nat.le_of_ble_eq_true rfl, Nat.le_of_ble_eq_true rfl⟩ dX0_init_15 (fun q2 H hW => ?_)
  have hW : WD g A s _ _ [(h0, .inr (0, [.null, .int 0, .int 0, .ref q1, .null, .null, .null]))] := hW.pick [0] rfl rfl
  refine r_putF (ws' := [(h0, .inr (0, [.null, .int 0, .int 0, .ref q1, .ref q2, .null, .null]))]) X hin hW 0 ciX0 4 rfl (by decide) m_234 rfl rfl rfl rfl rfl (Nat.le_of_ble_eq_true rfl) rfl dX0_init_17 (fun H locs hW => ?_)
  refine lv_aload_n (pc := 20) hx hb dX0_init_20 rfl (lv_at hl 0 rfl) ?_
  refine lv_bipush (v := 7) (pc := 21) hx hb dX0_init_21 (by decide) ?_
  refine r_newa (a0 := (7, .inl (fun _ => 0))) X hW .int rfl m_47 1 rfl (by intro C h; cases h) (fun _ => rfl) (by decide) (by decide) (Nat.le_of_ble_eq_true rfl) ⟨Nat.le_of_ble_eq_true rfl, Nat.le_of_ble_eq_true rfl⟩ dX0_init_23 (fun q3 H hW => ?_)
  have hW : WD g A s _ _ [(h0, .inr (0, [.null, .int 0, .int 0, .ref q1, .ref q2, .null, .null]))] := hW.pick [0] rfl rfl
  refine r_putF (ws' := [(h0, .inr (0, [.null, .int 0, .int 0, .ref q1, .ref q2, .ref q3, .null]))]) X hin hW 0 ciX0 5 rfl (by decide) m_236 rfl rfl rfl rfl rfl (Nat.le_of_ble_eq_true rfl) rfl dX0_init_25 (fun H locs hW => ?_)
  refine lv_aload_n (pc := 28) hx hb dX0_init_28 rfl (lv_at hl 0 rfl) ?_
  refine lv_bipush (v := 7) (pc := 29) hx hb dX0_init_29 (by decide) ?_
  refine r_newa (a0 := (7, .inl (fun _ => 0))) X hW .int rfl m_47 1 rfl (by intro C h; cases h) (fun _ => rfl) (by decide) (by decide) (Nat.le_of_ble_eq_true rfl) ⟨Nat.le_of_ble_eq_true rfl, Nat.le_of_ble_eq_true rfl⟩ dX0_init_31 (fun q4 H hW => ?_)
  have hW : WD g A s _ _ [(h0, .inr (0, [.null, .int 0, .int 0, .ref q1, .ref q2, .ref q3, .null]))] := hW.pick [0] rfl rfl
  refine r_putF (ws' := [(h0, .inr (0, [.null, .int 0, .int 0, .ref q1, .ref q2, .ref q3, .ref q4]))]) X hin hW 0 ciX0 6 rfl (by decide) m_237 rfl rfl rfl rfl rfl (Nat.le_of_ble_eq_true rfl) rfl dX0_init_33 (fun H locs hW => ?_)
  exact e_v X hQ hr hW [] rfl rfl (rfl) ⟨Nat.le_of_ble_eq_true rfl, Nat.le_of_ble_eq_true rfl⟩ dX0_init_36

set_option maxHeartbeats 4000000 in
set_option maxRecDepth 100000 in
theorem C_X2_init (l : Launch) (g : GG) (h0 : Nat) : MetV l g yX2_init cX2_init 1 none 1 2 10 [.ref h0] [(h0, .inr (2, [.null, .null]))] (fun u => ∃ q1 q2 : Nat, u = [(h0, .inr (2, [.ref q1, .ref q2])), (q1, .inl (g.2.1 2, 5, .inr (.inl (fun _ => 0)))), (q2, .inl (g.2.1 2, 5, .inr (.inl (fun _ => 0))))]) := by
  refine MetV.of (own := RX2) rfl (by decide) (Nat.le_of_ble_eq_true rfl) ?_
  intro p e s m below meth c A ls args Q hQ X hr hin hW hl
  have hx := X.1
  have hb := X.2.1
  have hl : lv_has ls 1 [(0, .ref h0)] := hl
  refine lv_aload_n (pc := 0) hx hb dX2_init_0 rfl (lv_at hl 0 rfl) ?_
  refine W.objInit hx hb X.2.2.2.1 (X.2.2.2.2.1 _ m_258) (X.2.2.2.2.1 _ m_28) (X.2.2.2.2.1 _ m_29) rfl (by rw [X.2.2.1]; exact hl.1) rfl dX2_init_1 (Nat.le_of_ble_eq_true rfl) (Nat.le_of_ble_eq_true rfl) ?_
  refine W.eq (g2 := F0 m 4 ls []) rfl ?_
  refine lv_aload_n (pc := 4) hx hb dX2_init_4 rfl (lv_at hl 0 rfl) ?_
  refine lv_iconst (v := 5) (pc := 5) hx hb dX2_init_5 (by decide) ?_
  refine r_newa (a0 := (5, .inr (.inl (fun _ => 0)))) X hW .long rfl m_266 2 rfl (by intro C h; cases h) (fun _ => rfl) (by decide) (by decide) (Nat.le_of_ble_eq_true rfl) ⟨Nat.le_of_ble_eq_true rfl, Nat.le_of_ble_eq_true rfl⟩ dX2_init_6 (fun q1 H hW => ?_)
  have hW : WD g A s _ _ [(h0, .inr (2, [.null, .null])), (q1, .inl (g.2.1 2, 5, .inr (.inl (fun _ => 0))))] := hW
  refine r_put (ws' := [(h0, .inr (2, [.ref q1, .null])), (q1, .inl (g.2.1 2, 5, .inr (.inl (fun _ => 0))))]) X hW 0 ciX2 0 rfl (by decide) m_259 rfl rfl rfl rfl (Nat.le_of_ble_eq_true rfl) rfl dX2_init_8 (fun H locs hW => ?_)
  refine lv_aload_n (pc := 11) hx hb dX2_init_11 rfl (lv_at hl 0 rfl) ?_
  refine lv_iconst (v := 5) (pc := 12) hx hb dX2_init_12 (by decide) ?_
  refine r_newa (a0 := (5, .inr (.inl (fun _ => 0)))) X hW .long rfl m_266 2 rfl (by intro C h; cases h) (fun _ => rfl) (by decide) (by decide) (Nat.le_of_ble_eq_true rfl) ⟨Nat.le_of_ble_eq_true rfl, Nat.le_of_ble_eq_true rfl⟩ dX2_init_13 (fun q2 H hW => ?_)
  have hW : WD g A s _ _ [(h0, .inr (2, [.ref q1, .null])), (q1, .inl (g.2.1 2, 5, .inr (.inl (fun _ => 0)))), (q2, .inl (g.2.1 2, 5, .inr (.inl (fun _ => 0))))] := hW
  refine r_put (ws' := [(h0, .inr (2, [.ref q1, .ref q2])), (q1, .inl (g.2.1 2, 5, .inr (.inl (fun _ => 0)))), (q2, .inl (g.2.1 2, 5, .inr (.inl (fun _ => 0))))]) X hW 0 ciX2 1 rfl (by decide) m_260 rfl rfl rfl rfl (Nat.le_of_ble_eq_true rfl) rfl dX2_init_15 (fun H locs hW => ?_)
  exact e_v X hQ hr hW [0, 1, 2] rfl rfl (⟨q1, q2, rfl⟩) ⟨Nat.le_of_ble_eq_true rfl, Nat.le_of_ble_eq_true rfl⟩ dX2_init_18

set_option maxHeartbeats 4000000 in
set_option maxRecDepth 100000 in
theorem C_X10_init (l : Launch) (g : GG) (h0 : Nat) : MetV l g yX10_init cX10_init 1 none 1 12 364 [.ref h0] [(h0, .inr (10, [.int 0, .int 0, .int 0, .null, .null, .null, .null, .null, .null, .null, .null, .null, .null, .null, .int 0, .null]))] (fun u => ∃ q1 q2 q3 q4 q5 q6 q7 q8 q9 q10 q11 q12 : Nat, u = [(h0, .inr (10, [.int 0, .int 0, .int 0, .ref q1, .ref q2, .ref q3, .ref q4, .ref q5, .ref q6, .ref q7, .ref q8, .ref q9, .ref q10, .ref q11, .int (-2), .ref q12])), (q1, .inl (g.2.1 1, 4, .inl (fun _ => 0))), (q2, .inl (g.2.1 1, 4, .inl (fun _ => 0))), (q3, .inl (g.2.1 1, 4, .inl (fun _ => 0)))]) := by
  refine MetV.of (own := RX10) rfl (by decide) (Nat.le_of_ble_eq_true rfl) ?_
  intro p e s m below meth c A ls args Q hQ X hr hin hW hl
  have hx := X.1
  have hb := X.2.1
  have hl : lv_has ls 1 [(0, .ref h0)] := hl
  refine lv_aload_n (pc := 0) hx hb dX10_init_0 rfl (lv_at hl 0 rfl) ?_
  refine W.objInit hx hb X.2.2.2.1 (X.2.2.2.2.1 _ m_271) (X.2.2.2.2.1 _ m_28) (X.2.2.2.2.1 _ m_29) rfl (by rw [X.2.2.1]; exact hl.1) rfl dX10_init_1 (Nat.le_of_ble_eq_true rfl) (Nat.le_of_ble_eq_true rfl) ?_
  refine W.eq (g2 := F0 m 4 ls []) rfl ?_
  refine lv_aload_n (pc := 4) hx hb dX10_init_4 rfl (lv_at hl 0 rfl) ?_
  refine lv_iconst (v := 4) (pc := 5) hx hb dX10_init_5 (by decide) ?_
  refine r_newa (a0 := (4, .inl (fun _ => 0))) X hW .int rfl m_47 1 rfl (by intro C h; cases h) (fun _ => rfl) (by decide) (by decide) (Nat.le_of_ble_eq_true rfl) ⟨Nat.le_of_ble_eq_true rfl, Nat.le_of_ble_eq_true rfl⟩ dX10_init_6 (fun q1 H hW => ?_)
  have hW : WD g A s _ _ [(h0, .inr (10, [.int 0, .int 0, .int 0, .null, .null, .null, .null, .null, .null, .null, .null, .null, .null, .null, .int 0, .null])), (q1, .inl (g.2.1 1, 4, .inl (fun _ => 0)))] := hW
  refine r_putF (ws' := [(h0, .inr (10, [.int 0, .int 0, .int 0, .ref q1, .null, .null, .null, .null, .null, .null, .null, .null, .null, .null, .int 0, .null])), (q1, .inl (g.2.1 1, 4, .inl (fun _ => 0)))]) X hin hW 0 ciX10 3 rfl (by decide) m_291 rfl rfl rfl rfl rfl (Nat.le_of_ble_eq_true rfl) rfl dX10_init_8 (fun H locs hW => ?_)
  refine lv_aload_n (pc := 11) hx hb dX10_init_11 rfl (lv_at hl 0 rfl) ?_
  refine lv_iconst (v := 4) (pc := 12) hx hb dX10_init_12 (by decide) ?_
  refine r_newa (a0 := (4, .inl (fun _ => 0))) X hW .int rfl m_47 1 rfl (by intro C h; cases h) (fun _ => rfl) (by decide) (by decide) (Nat.le_of_ble_eq_true rfl) ⟨Nat.le_of_ble_eq_true rfl, Nat.le_of_ble_eq_true rfl⟩ dX10_init_13 (fun q2 H hW => ?_)
  have hW : WD g A s _ _ [(h0, .inr (10, [.int 0, .int 0, .int 0, .ref q1, .null, .null, .null, .null, .null, .null, .null, .null, .null, .null, .int 0, .null])), (q1, .inl (g.2.1 1, 4, .inl (fun _ => 0))), (q2, .inl (g.2.1 1, 4, .inl (fun _ => 0)))] := hW
  refine r_putF (ws' := [(h0, .inr (10, [.int 0, .int 0, .int 0, .ref q1, .ref q2, .null, .null, .null, .null, .null, .null, .null, .null, .null, .int 0, .null])), (q1, .inl (g.2.1 1, 4, .inl (fun _ => 0))), (q2, .inl (g.2.1 1, 4, .inl (fun _ => 0)))]) X hin hW 0 ciX10 4 rfl (by decide) m_296 rfl rfl rfl rfl rfl (Nat.le_of_ble_eq_true rfl) rfl dX10_init_15 (fun H locs hW => ?_)
  refine lv_aload_n (pc := 18) hx hb dX10_init_18 rfl (lv_at hl 0 rfl) ?_
  refine lv_iconst (v := 4) (pc := 19) hx hb dX10_init_19 (by decide) ?_
  refine r_newa (a0 := (4, .inl (fun _ => 0))) X hW .int rfl m_47 1 rfl (by intro C h; cases h) (fun _ => rfl) (by decide) (by decide) (Nat.le_of_ble_eq_true rfl) ⟨Nat.le_of_ble_eq_true rfl, Nat.le_of_ble_eq_true rfl⟩ dX10_init_20 (fun q3 H hW => ?_)
  have hW : WD g A s _ _ [(h0, .inr (10, [.int 0, .int 0, .int 0, .ref q1, .ref q2, .null, .null, .null, .null, .null, .null, .null, .null, .null, .int 0, .null])), (q1, .inl (g.2.1 1, 4, .inl (fun _ => 0))), (q2, .inl (g.2.1 1, 4, .inl (fun _ => 0))), (q3, .inl (g.2.1 1, 4, .inl (fun _ => 0)))] := hW
  refine r_putF (ws' := [(h0, .inr (10, [.int 0, .int 0, .int 0, .ref q1, .ref q2, .ref q3, .null, .null, .null, .null, .null, .null, .null, .null, .int 0, .null])), (q1, .inl (g.2.1 1, 4, .inl (fun _ => 0))), (q2, .inl (g.2.1 1, 4, .inl (fun _ => 0))), (q3, .inl (g.2.1 1, 4, .inl (fun _ => 0)))]) X hin hW 0 ciX10 5 rfl (by decide) m_300 rfl rfl rfl rfl rfl (Nat.le_of_ble_eq_true rfl) rfl dX10_init_22 (fun H locs hW => ?_)
  refine lv_aload_n (pc := 25) hx hb dX10_init_25 rfl (lv_at hl 0 rfl) ?_
  refine lv_bipush (v := 7) (pc := 26) hx hb dX10_init_26 (by decide) ?_
  refine r_newa (a0 := (7, .inl (fun _ => 0))) X hW .int rfl m_47 1 rfl (by intro C h; cases h) (fun _ => rfl) (by decide) (by decide) (Nat.le_of_ble_eq_true rfl) ⟨Nat.le_of_ble_eq_true rfl, Nat.le_of_ble_eq_true rfl⟩ dX10_init_28 (fun q4 H hW => ?_)
  have hW : WD g A s _ _ [(h0, .inr (10, [.int 0, .int 0, .int 0, .ref q1, .ref q2, .ref q3, .null, .null, .null, .null, .null, .null, .null, .null, .int 0, .null])), (q1, .inl (g.2.1 1, 4, .inl (fun _ => 0))), (q2, .inl (g.2.1 1, 4, .inl (fun _ => 0))), (q3, .inl (g.2.1 1, 4, .inl (fun _ => 0)))] := hW.pick [0, 1, 2, 3] rfl rfl
  refine r_putF (ws' := [(h0, .inr (10, [.int 0, .int 0, .int 0, .ref q1, .ref q2, .ref q3, .ref q4, .null, .null, .null, .null, .null, .null, .null, .int 0, .null])), (q1, .inl (g.2.1 1, 4, .inl (fun _ => 0))), (q2, .inl (g.2.1 1, 4, .inl (fun _ => 0))), (q3, .inl (g.2.1 1, 4, .inl (fun _ => 0)))]) X hin hW 0 ciX10 6 rfl (by decide) m_304 rfl rfl rfl rfl rfl (Nat.le_of_ble_eq_true rfl) rfl dX10_init_30 (fun H locs hW => ?_)
  refine lv_aload_n (pc := 33) hx hb dX10_init_33 rfl (lv_at hl 0 rfl) ?_
  refine lv_bipush (v := 7) (pc := 34) hx hb dX10_init_34 (by decide) ?_
  refine r_newa (a0 := (7, .inl (fun _ => 0))) X hW .int rfl m_47 1 rfl (by intro C h; cases h) (fun _ => rfl) (by decide) (by decide) (Nat.le_of_ble_eq_true rfl) ⟨Nat.le_of_ble_eq_true rfl, Nat.le_of_ble_eq_true rfl⟩ dX10_init_36 (fun q5 H hW => ?_)
  have hW : WD g A s _ _ [(h0, .inr (10, [.int 0, .int 0, .int 0, .ref q1, .ref q2, .ref q3, .ref q4, .null, .null, .null, .null, .null, .null, .null, .int 0, .null])), (q1, .inl (g.2.1 1, 4, .inl (fun _ => 0))), (q2, .inl (g.2.1 1, 4, .inl (fun _ => 0))), (q3, .inl (g.2.1 1, 4, .inl (fun _ => 0)))] := hW.pick [0, 1, 2, 3] rfl rfl
  refine r_putF (ws' := [(h0, .inr (10, [.int 0, .int 0, .int 0, .ref q1, .ref q2, .ref q3, .ref q4, .ref q5, .null, .null, .null, .null, .null, .null, .int 0, .null])), (q1, .inl (g.2.1 1, 4, .inl (fun _ => 0))), (q2, .inl (g.2.1 1, 4, .inl (fun _ => 0))), (q3, .inl (g.2.1 1, 4, .inl (fun _ => 0)))]) X hin hW 0 ciX10 7 rfl (by decide) m_306 rfl rfl rfl rfl rfl (Nat.le_of_ble_eq_true rfl) rfl dX10_init_38 (fun H locs hW => ?_)
  refine lv_aload_n (pc := 41) hx hb dX10_init_41 rfl (lv_at hl 0 rfl) ?_
  refine lv_bipush (v := 7) (pc := 42) hx hb dX10_init_42 (by decide) ?_
  refine r_newa (a0 := (7, .inl (fun _ => 0))) X hW .int rfl m_47 1 rfl (by intro C h; cases h) (fun _ => rfl) (by decide) (by decide) (Nat.le_of_ble_eq_true rfl) ⟨Nat.le_of_ble_eq_true rfl, Nat.le_of_ble_eq_true rfl⟩ dX10_init_44 (fun q6 H hW => ?_)
  have hW : WD g A s _ _ [(h0, .inr (10, [.int 0, .int 0, .int 0, .ref q1, .ref q2, .ref q3, .ref q4, .ref q5, .null, .null, .null, .null, .null, .null, .int 0, .null])), (q1, .inl (g.2.1 1, 4, .inl (fun _ => 0))), (q2, .inl (g.2.1 1, 4, .inl (fun _ => 0))), (q3, .inl (g.2.1 1, 4, .inl (fun _ => 0)))] := hW.pick [0, 1, 2, 3] rfl rfl
  refine r_putF (ws' := [(h0, .inr (10, [.int 0, .int 0, .int 0, .ref q1, .ref q2, .ref q3, .ref q4, .ref q5, .ref q6, .null, .null, .null, .null, .null, .int 0, .null])), (q1, .inl (g.2.1 1, 4, .inl (fun _ => 0))), (q2, .inl (g.2.1 1, 4, .inl (fun _ => 0))), (q3, .inl (g.2.1 1, 4, .inl (fun _ => 0)))]) X hin hW 0 ciX10 8 rfl (by decide) m_308 rfl rfl rfl rfl rfl (Nat.le_of_ble_eq_true rfl) rfl dX10_init_46 (fun H locs hW => ?_)
  refine lv_aload_n (pc := 49) hx hb dX10_init_49 rfl (lv_at hl 0 rfl) ?_
  refine lv_bipush (v := 72) (pc := 50) hx hb dX10_init_50 (by decide) ?_
  refine r_newa (a0 := (72, .inl (fun _ => 0))) X hW .int rfl m_47 1 rfl (by intro C h; cases h) (fun _ => rfl) (by decide) (by decide) (Nat.le_of_ble_eq_true rfl) ⟨Nat.le_of_ble_eq_true rfl, Nat.le_of_ble_eq_true rfl⟩ dX10_init_52 (fun q7 H hW => ?_)
  have hW : WD g A s _ _ [(h0, .inr (10, [.int 0, .int 0, .int 0, .ref q1, .ref q2, .ref q3, .ref q4, .ref q5, .ref q6, .null, .null, .null, .null, .null, .int 0, .null])), (q1, .inl (g.2.1 1, 4, .inl (fun _ => 0))), (q2, .inl (g.2.1 1, 4, .inl (fun _ => 0))), (q3, .inl (g.2.1 1, 4, .inl (fun _ => 0)))] := hW.pick [0, 1, 2, 3] rfl rfl
  refine r_putF (ws' := [(h0, .inr (10, [.int 0, .int 0, .int 0, .ref q1, .ref q2, .ref q3, .ref q4, .ref q5, .ref q6, .ref q7, .null, .null, .null, .null, .int 0, .null])), (q1, .inl (g.2.1 1, 4, .inl (fun _ => 0))), (q2, .inl (g.2.1 1, 4, .inl (fun _ => 0))), (q3, .inl (g.2.1 1, 4, .inl (fun _ => 0)))]) X hin hW 0 ciX10 9 rfl (by decide) m_310 rfl rfl rfl rfl rfl (Nat.le_of_ble_eq_true rfl) rfl dX10_init_54 (fun H locs hW => ?_)
  refine lv_aload_n (pc := 57) hx hb dX10_init_57 rfl (lv_at hl 0 rfl) ?_
  refine lv_sipush (v := 175) (pc := 58) hx hb dX10_init_58 (by decide) ?_
  refine r_newa (a0 := (175, .inl (fun _ => 0))) X hW .int rfl m_47 1 rfl (by intro C h; cases h) (fun _ => rfl) (by decide) (by decide) (Nat.le_of_ble_eq_true rfl) ⟨Nat.le_of_ble_eq_true rfl, Nat.le_of_ble_eq_true rfl⟩ dX10_init_61 (fun q8 H hW => ?_)
  have hW : WD g A s _ _ [(h0, .inr (10, [.int 0, .int 0, .int 0, .ref q1, .ref q2, .ref q3, .ref q4, .ref q5, .ref q6, .ref q7, .null, .null, .null, .null, .int 0, .null])), (q1, .inl (g.2.1 1, 4, .inl (fun _ => 0))), (q2, .inl (g.2.1 1, 4, .inl (fun _ => 0))), (q3, .inl (g.2.1 1, 4, .inl (fun _ => 0)))] := hW.pick [0, 1, 2, 3] rfl rfl
  refine r_putF (ws' := [(h0, .inr (10, [.int 0, .int 0, .int 0, .ref q1, .ref q2, .ref q3, .ref q4, .ref q5, .ref q6, .ref q7, .ref q8, .null, .null, .null, .int 0, .null])), (q1, .inl (g.2.1 1, 4, .inl (fun _ => 0))), (q2, .inl (g.2.1 1, 4, .inl (fun _ => 0))), (q3, .inl (g.2.1 1, 4, .inl (fun _ => 0)))]) X hin hW 0 ciX10 10 rfl (by decide) m_311 rfl rfl rfl rfl rfl (Nat.le_of_ble_eq_true rfl) rfl dX10_init_63 (fun H locs hW => ?_)
  refine lv_aload_n (pc := 66) hx hb dX10_init_66 rfl (lv_at hl 0 rfl) ?_
  refine lv_bipush (v := 42) (pc := 67) hx hb dX10_init_67 (by decide) ?_
  refine r_newa (a0 := (42, .inl (fun _ => 0))) X hW .int rfl m_47 1 rfl (by intro C h; cases h) (fun _ => rfl) (by decide) (by decide) (Nat.le_of_ble_eq_true rfl) ⟨Nat.le_of_ble_eq_true rfl, Nat.le_of_ble_eq_true rfl⟩ dX10_init_69 (fun q9 H hW => ?_)
  have hW : WD g A s _ _ [(h0, .inr (10, [.int 0, .int 0, .int 0, .ref q1, .ref q2, .ref q3, .ref q4, .ref q5, .ref q6, .ref q7, .ref q8, .null, .null, .null, .int 0, .null])), (q1, .inl (g.2.1 1, 4, .inl (fun _ => 0))), (q2, .inl (g.2.1 1, 4, .inl (fun _ => 0))), (q3, .inl (g.2.1 1, 4, .inl (fun _ => 0)))] := hW.pick [0, 1, 2, 3] rfl rfl
  refine r_putF (ws' := [(h0, .inr (10, [.int 0, .int 0, .int 0, .ref q1, .ref q2, .ref q3, .ref q4, .ref q5, .ref q6, .ref q7, .ref q8, .ref q9, .null, .null, .int 0, .null])), (q1, .inl (g.2.1 1, 4, .inl (fun _ => 0))), (q2, .inl (g.2.1 1, 4, .inl (fun _ => 0))), (q3, .inl (g.2.1 1, 4, .inl (fun _ => 0)))]) X hin hW 0 ciX10 11 rfl (by decide) m_312 rfl rfl rfl rfl rfl (Nat.le_of_ble_eq_true rfl) rfl dX10_init_71 (fun H locs hW => ?_)
  refine lv_aload_n (pc := 74) hx hb dX10_init_74 rfl (lv_at hl 0 rfl) ?_
  refine lv_bipush (v := 7) (pc := 75) hx hb dX10_init_75 (by decide) ?_
  refine r_newa (a0 := (7, .inl (fun _ => 0))) X hW .int rfl m_47 1 rfl (by intro C h; cases h) (fun _ => rfl) (by decide) (by decide) (Nat.le_of_ble_eq_true rfl) ⟨Nat.le_of_ble_eq_true rfl, Nat.le_of_ble_eq_true rfl⟩ dX10_init_77 (fun q10 H hW => ?_)
  have hW : WD g A s _ _ [(h0, .inr (10, [.int 0, .int 0, .int 0, .ref q1, .ref q2, .ref q3, .ref q4, .ref q5, .ref q6, .ref q7, .ref q8, .ref q9, .null, .null, .int 0, .null])), (q1, .inl (g.2.1 1, 4, .inl (fun _ => 0))), (q2, .inl (g.2.1 1, 4, .inl (fun _ => 0))), (q3, .inl (g.2.1 1, 4, .inl (fun _ => 0)))] := hW.pick [0, 1, 2, 3] rfl rfl
  refine r_putF (ws' := [(h0, .inr (10, [.int 0, .int 0, .int 0, .ref q1, .ref q2, .ref q3, .ref q4, .ref q5, .ref q6, .ref q7, .ref q8, .ref q9, .ref q10, .null, .int 0, .null])), (q1, .inl (g.2.1 1, 4, .inl (fun _ => 0))), (q2, .inl (g.2.1 1, 4, .inl (fun _ => 0))), (q3, .inl (g.2.1 1, 4, .inl (fun _ => 0)))]) X hin hW 0 ciX10 12 rfl (by decide) m_313 rfl rfl rfl rfl rfl (Nat.le_of_ble_eq_true rfl) rfl dX10_init_79 (fun H locs hW => ?_)
  refine lv_aload_n (pc := 82) hx hb dX10_init_82 rfl (lv_at hl 0 rfl) ?_
  refine lv_bipush (v := 28) (pc := 83) hx hb dX10_init_83 (by decide) ?_
  refine r_newa (a0 := (28, .inl (fun _ => 0))) X hW .int rfl m_47 1 rfl (by intro C h; cases h) (fun _ => rfl) (by decide) (by decide) (Nat.le_of_ble_eq_true rfl) ⟨Nat.le_of_ble_eq_true rfl, Nat.le_of_ble_eq_true rfl⟩ dX10_init_85 (fun q11 H hW => ?_)
  have hW : WD g A s _ _ [(h0, .inr (10, [.int 0, .int 0, .int 0, .ref q1, .ref q2, .ref q3, .ref q4, .ref q5, .ref q6, .ref q7, .ref q8, .ref q9, .ref q10, .null, .int 0, .null])), (q1, .inl (g.2.1 1, 4, .inl (fun _ => 0))), (q2, .inl (g.2.1 1, 4, .inl (fun _ => 0))), (q3, .inl (g.2.1 1, 4, .inl (fun _ => 0)))] := hW.pick [0, 1, 2, 3] rfl rfl
  refine r_putF (ws' := [(h0, .inr (10, [.int 0, .int 0, .int 0, .ref q1, .ref q2, .ref q3, .ref q4, .ref q5, .ref q6, .ref q7, .ref q8, .ref q9, .ref q10, .ref q11, .int 0, .null])), (q1, .inl (g.2.1 1, 4, .inl (fun _ => 0))), (q2, .inl (g.2.1 1, 4, .inl (fun _ => 0))), (q3, .inl (g.2.1 1, 4, .inl (fun _ => 0)))]) X hin hW 0 ciX10 13 rfl (by decide) m_314 rfl rfl rfl rfl rfl (Nat.le_of_ble_eq_true rfl) rfl dX10_init_87 (fun H locs hW => ?_)
  refine lv_aload_n (pc := 90) hx hb dX10_init_90 rfl (lv_at hl 0 rfl) ?_
  refine lv_bipush (v := (-2)) (pc := 91) hx hb dX10_init_91 (by decide) ?_
  refine r_put (ws' := [(h0, .inr (10, [.int 0, .int 0, .int 0, .ref q1, .ref q2, .ref q3, .ref q4, .ref q5, .ref q6, .ref q7, .ref q8, .ref q9, .ref q10, .ref q11, .int (-2), .null])), (q1, .inl (g.2.1 1, 4, .inl (fun _ => 0))), (q2, .inl (g.2.1 1, 4, .inl (fun _ => 0))), (q3, .inl (g.2.1 1, 4, .inl (fun _ => 0)))]) X hW 0 ciX10 14 rfl (by decide) m_315 rfl rfl rfl rfl (Nat.le_of_ble_eq_true rfl) rfl dX10_init_93 (fun H locs hW => ?_)
  refine lv_aload_n (pc := 96) hx hb dX10_init_96 rfl (lv_at hl 0 rfl) ?_
  refine lv_bipush (v := 7) (pc := 97) hx hb dX10_init_97 (by decide) ?_
  refine r_newa (a0 := (7, .inl (fun _ => 0))) X hW .int rfl m_47 1 rfl (by intro C h; cases h) (fun _ => rfl) (by decide) (by decide) (Nat.le_of_ble_eq_true rfl) ⟨Nat.le_of_ble_eq_true rfl, Nat.le_of_ble_eq_true rfl⟩ dX10_init_99 (fun q12 H hW => ?_)
  have hW : WD g A s _ _ [(h0, .inr (10, [.int 0, .int 0, .int 0, .ref q1, .ref q2, .ref q3, .ref q4, .ref q5, .ref q6, .ref q7, .ref q8, .ref q9, .ref q10, .ref q11, .int (-2), .null])), (q1, .inl (g.2.1 1, 4, .inl (fun _ => 0))), (q2, .inl (g.2.1 1, 4, .inl (fun _ => 0))), (q3, .inl (g.2.1 1, 4, .inl (fun _ => 0)))] := hW.pick [0, 1, 2, 3] rfl rfl
  refine r_putF (ws' := [(h0, .inr (10, [.int 0, .int 0, .int 0, .ref q1, .ref q2, .ref q3, .ref q4, .ref q5, .ref q6, .ref q7, .ref q8, .ref q9, .ref q10, .ref q11, .int (-2), .ref q12])), (q1, .inl (g.2.1 1, 4, .inl (fun _ => 0))), (q2, .inl (g.2.1 1, 4, .inl (fun _ => 0))), (q3, .inl (g.2.1 1, 4, .inl (fun _ => 0)))]) X hin hW 0 ciX10 15 rfl (by decide) m_317 rfl rfl rfl rfl rfl (Nat.le_of_ble_eq_true rfl) rfl dX10_init_101 (fun H locs hW => ?_)
  exact e_v X hQ hr hW [0, 1, 2, 3] rfl rfl (⟨q1, q2, q3, q4, q5, q6, q7, q8, q9, q10, q11, q12, rfl⟩) ⟨Nat.le_of_ble_eq_true rfl, Nat.le_of_ble_eq_true rfl⟩ dX10_init_104
end
