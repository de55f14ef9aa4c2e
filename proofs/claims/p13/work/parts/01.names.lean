/-- a private method of a class that the tables say can be made, by its rows of tables_1 -/
def lw_okq (q : MethodName × Nat) : Prop := (q.1.cls ≠ "java/lang/invoke/MethodHandle" ∧ q.1.cls ≠ "java/lang/invoke/VarHandle") ∧ Cond.instantiable q.1.cls q.2 ∈ tables_1 ∧ Cond.privateMethod q.1 ∈ tables_1 ∧ Cond.instanceMethod q.1 ∈ tables_1
theorem lw_c0 : ("NoonValley$Tape" : String) ≠ "java/lang/invoke/MethodHandle" ∧ ("NoonValley$Tape" : String) ≠ "java/lang/invoke/VarHandle" := ⟨by decide +kernel, by decide +kernel⟩
theorem lw_c1 : ("NoonValley$Valley" : String) ≠ "java/lang/invoke/MethodHandle" ∧ ("NoonValley$Valley" : String) ≠ "java/lang/invoke/VarHandle" := ⟨by decide +kernel, by decide +kernel⟩
theorem lw_c2 : ("NoonValley" : String) ≠ "java/lang/invoke/MethodHandle" ∧ ("NoonValley" : String) ≠ "java/lang/invoke/VarHandle" := ⟨by decide +kernel, by decide +kernel⟩
theorem lw_c3 : ("NoonValley$Carrying" : String) ≠ "java/lang/invoke/MethodHandle" ∧ ("NoonValley$Carrying" : String) ≠ "java/lang/invoke/VarHandle" := ⟨by decide +kernel, by decide +kernel⟩
theorem lw_c4 : ("NoonValley$Spreading" : String) ≠ "java/lang/invoke/MethodHandle" ∧ ("NoonValley$Spreading" : String) ≠ "java/lang/invoke/VarHandle" := ⟨by decide +kernel, by decide +kernel⟩
theorem lw_c5 : ("NoonValley$Rows" : String) ≠ "java/lang/invoke/MethodHandle" ∧ ("NoonValley$Rows" : String) ≠ "java/lang/invoke/VarHandle" := ⟨by decide +kernel, by decide +kernel⟩
theorem lw_c6 : ("NoonValley$Shutting" : String) ≠ "java/lang/invoke/MethodHandle" ∧ ("NoonValley$Shutting" : String) ≠ "java/lang/invoke/VarHandle" := ⟨by decide +kernel, by decide +kernel⟩
theorem lw_c7 : ("NoonValley$Gossip" : String) ≠ "java/lang/invoke/MethodHandle" ∧ ("NoonValley$Gossip" : String) ≠ "java/lang/invoke/VarHandle" := ⟨by decide +kernel, by decide +kernel⟩
theorem lw_c8 : ("NoonValley$Trade" : String) ≠ "java/lang/invoke/MethodHandle" ∧ ("NoonValley$Trade" : String) ≠ "java/lang/invoke/VarHandle" := ⟨by decide +kernel, by decide +kernel⟩
theorem lw_c9 : ("NoonValley$Cards" : String) ≠ "java/lang/invoke/MethodHandle" ∧ ("NoonValley$Cards" : String) ≠ "java/lang/invoke/VarHandle" := ⟨by decide +kernel, by decide +kernel⟩
theorem lw_c10 : ("NoonValley$Chance" : String) ≠ "java/lang/invoke/MethodHandle" ∧ ("NoonValley$Chance" : String) ≠ "java/lang/invoke/VarHandle" := ⟨by decide +kernel, by decide +kernel⟩
theorem lw_c11 : ("java/lang/Throwable" : String) ≠ "java/lang/invoke/MethodHandle" ∧ ("java/lang/Throwable" : String) ≠ "java/lang/invoke/VarHandle" := ⟨by decide +kernel, by decide +kernel⟩
theorem lw_c12 : ("NoonValleyModel" : String) ≠ "java/lang/invoke/MethodHandle" ∧ ("NoonValleyModel" : String) ≠ "java/lang/invoke/VarHandle" := ⟨by decide +kernel, by decide +kernel⟩
theorem lw_p0 : lw_okq (⟨"NoonValley$Tape", "appendNumber", "(I)V"⟩, 3) := ⟨lw_c0, List.mem_of_getElem? (i := 31) rfl, List.mem_of_getElem? (i := 408) rfl, List.mem_of_getElem? (i := 409) rfl⟩
theorem lw_p1 : lw_okq (⟨"NoonValley$Tape", "skipBlanks", "()V"⟩, 3) := ⟨lw_c0, List.mem_of_getElem? (i := 31) rfl, List.mem_of_getElem? (i := 435) rfl, List.mem_of_getElem? (i := 436) rfl⟩
theorem lw_p2 : lw_okq (⟨"NoonValley$Tape", "at", "(I)I"⟩, 3) := ⟨lw_c0, List.mem_of_getElem? (i := 31) rfl, List.mem_of_getElem? (i := 439) rfl, List.mem_of_getElem? (i := 440) rfl⟩
theorem lw_p3 : lw_okq (⟨"NoonValley$Tape", "number", "(III)I"⟩, 3) := ⟨lw_c0, List.mem_of_getElem? (i := 31) rfl, List.mem_of_getElem? (i := 443) rfl, List.mem_of_getElem? (i := 444) rfl⟩
theorem lw_p4 : lw_okq (⟨"NoonValley$Tape", "isDigit", "(I)Z"⟩, 3) := ⟨lw_c0, List.mem_of_getElem? (i := 31) rfl, List.mem_of_getElem? (i := 447) rfl, List.mem_of_getElem? (i := 448) rfl⟩
theorem lw_p5 : lw_okq (⟨"NoonValley$Tape", "statement", "(LNoonValley$Valley;)Z"⟩, 3) := ⟨lw_c0, List.mem_of_getElem? (i := 31) rfl, List.mem_of_getElem? (i := 451) rfl, List.mem_of_getElem? (i := 452) rfl⟩
theorem lw_p6 : lw_okq (⟨"NoonValley$Tape", "lineOf", "(LNoonValley$Valley;I)Z"⟩, 3) := ⟨lw_c0, List.mem_of_getElem? (i := 31) rfl, List.mem_of_getElem? (i := 455) rfl, List.mem_of_getElem? (i := 456) rfl⟩
theorem lw_p7 : lw_okq (⟨"NoonValley$Tape", "newsOf", "(LNoonValley$Valley;[I)Z"⟩, 3) := ⟨lw_c0, List.mem_of_getElem? (i := 31) rfl, List.mem_of_getElem? (i := 468) rfl, List.mem_of_getElem? (i := 469) rfl⟩
theorem lw_p8 : lw_okq (⟨"NoonValley$Tape", "deafOne", "(LNoonValley$Valley;)Z"⟩, 3) := ⟨lw_c0, List.mem_of_getElem? (i := 31) rfl, List.mem_of_getElem? (i := 472) rfl, List.mem_of_getElem? (i := 473) rfl⟩
theorem lw_p9 : lw_okq (⟨"NoonValley$Valley", "lookAtLines", "()V"⟩, 16) := ⟨lw_c1, List.mem_of_getElem? (i := 267) rfl, List.mem_of_getElem? (i := 490) rfl, List.mem_of_getElem? (i := 491) rfl⟩
theorem lw_p10 : lw_okq (⟨"NoonValley", "valleyAt", "(I)LNoonValley$Valley;"⟩, 14) := ⟨lw_c2, List.mem_of_getElem? (i := 23) rfl, List.mem_of_getElem? (i := 522) rfl, List.mem_of_getElem? (i := 523) rfl⟩
theorem lw_p11 : lw_okq (⟨"NoonValley", "planAt", "(I)LNoonValley$Plan;"⟩, 14) := ⟨lw_c2, List.mem_of_getElem? (i := 23) rfl, List.mem_of_getElem? (i := 611) rfl, List.mem_of_getElem? (i := 612) rfl⟩
theorem lw_p12 : lw_okq (⟨"NoonValley$Carrying", "carry", "(LNoonValley$Plan;IJI)V"⟩, 5) := ⟨lw_c3, List.mem_of_getElem? (i := 53) rfl, List.mem_of_getElem? (i := 654) rfl, List.mem_of_getElem? (i := 655) rfl⟩
theorem lw_p13 : lw_okq (⟨"NoonValley$Carrying", "carryCall", "(LNoonValley$Plan;II)Z"⟩, 5) := ⟨lw_c3, List.mem_of_getElem? (i := 53) rfl, List.mem_of_getElem? (i := 658) rfl, List.mem_of_getElem? (i := 659) rfl⟩
theorem lw_p14 : lw_okq (⟨"NoonValley$Carrying", "shout", "(III)Z"⟩, 5) := ⟨lw_c3, List.mem_of_getElem? (i := 53) rfl, List.mem_of_getElem? (i := 662) rfl, List.mem_of_getElem? (i := 663) rfl⟩
theorem lw_p15 : lw_okq (⟨"NoonValley$Carrying", "tell", "(II)Z"⟩, 5) := ⟨lw_c3, List.mem_of_getElem? (i := 53) rfl, List.mem_of_getElem? (i := 667) rfl, List.mem_of_getElem? (i := 668) rfl⟩
def lw_privs_1 : List (MethodName × Nat) := [(⟨"NoonValley$Tape", "appendNumber", "(I)V"⟩, 3), (⟨"NoonValley$Tape", "skipBlanks", "()V"⟩, 3), (⟨"NoonValley$Tape", "at", "(I)I"⟩, 3), (⟨"NoonValley$Tape", "number", "(III)I"⟩, 3), (⟨"NoonValley$Tape", "isDigit", "(I)Z"⟩, 3), (⟨"NoonValley$Tape", "statement", "(LNoonValley$Valley;)Z"⟩, 3), (⟨"NoonValley$Tape", "lineOf", "(LNoonValley$Valley;I)Z"⟩, 3), (⟨"NoonValley$Tape", "newsOf", "(LNoonValley$Valley;[I)Z"⟩, 3), (⟨"NoonValley$Tape", "deafOne", "(LNoonValley$Valley;)Z"⟩, 3), (⟨"NoonValley$Valley", "lookAtLines", "()V"⟩, 16), (⟨"NoonValley", "valleyAt", "(I)LNoonValley$Valley;"⟩, 14), (⟨"NoonValley", "planAt", "(I)LNoonValley$Plan;"⟩, 14), (⟨"NoonValley$Carrying", "carry", "(LNoonValley$Plan;IJI)V"⟩, 5), (⟨"NoonValley$Carrying", "carryCall", "(LNoonValley$Plan;II)Z"⟩, 5), (⟨"NoonValley$Carrying", "shout", "(III)Z"⟩, 5), (⟨"NoonValley$Carrying", "tell", "(II)Z"⟩, 5)]
theorem lw_r1 : ∀ q ∈ lw_privs_1, lw_okq q := List.forall_mem_cons.mpr ⟨lw_p0, List.forall_mem_cons.mpr ⟨lw_p1, List.forall_mem_cons.mpr ⟨lw_p2, List.forall_mem_cons.mpr ⟨lw_p3, List.forall_mem_cons.mpr ⟨lw_p4, List.forall_mem_cons.mpr ⟨lw_p5, List.forall_mem_cons.mpr ⟨lw_p6, List.forall_mem_cons.mpr ⟨lw_p7, List.forall_mem_cons.mpr ⟨lw_p8, List.forall_mem_cons.mpr ⟨lw_p9, List.forall_mem_cons.mpr ⟨lw_p10, List.forall_mem_cons.mpr ⟨lw_p11, List.forall_mem_cons.mpr ⟨lw_p12, List.forall_mem_cons.mpr ⟨lw_p13, List.forall_mem_cons.mpr ⟨lw_p14, List.forall_mem_cons.mpr ⟨lw_p15, fun _ h => absurd h List.not_mem_nil⟩⟩⟩⟩⟩⟩⟩⟩⟩⟩⟩⟩⟩⟩⟩⟩
theorem lw_p16 : lw_okq (⟨"NoonValley$Spreading", "begin", "(II)V"⟩, 17) := ⟨lw_c4, List.mem_of_getElem? (i := 76) rfl, List.mem_of_getElem? (i := 709) rfl, List.mem_of_getElem? (i := 710) rfl⟩
theorem lw_p17 : lw_okq (⟨"NoonValley$Spreading", "arrive", "(II)V"⟩, 17) := ⟨lw_c4, List.mem_of_getElem? (i := 76) rfl, List.mem_of_getElem? (i := 714) rfl, List.mem_of_getElem? (i := 715) rfl⟩
theorem lw_p18 : lw_okq (⟨"NoonValley$Spreading", "placeOf", "(I)I"⟩, 17) := ⟨lw_c4, List.mem_of_getElem? (i := 76) rfl, List.mem_of_getElem? (i := 718) rfl, List.mem_of_getElem? (i := 719) rfl⟩
theorem lw_p19 : lw_okq (⟨"NoonValley$Spreading", "swap", "()V"⟩, 17) := ⟨lw_c4, List.mem_of_getElem? (i := 76) rfl, List.mem_of_getElem? (i := 728) rfl, List.mem_of_getElem? (i := 729) rfl⟩
theorem lw_p20 : lw_okq (⟨"NoonValley$Spreading", "isDone", "(I)Z"⟩, 17) := ⟨lw_c4, List.mem_of_getElem? (i := 76) rfl, List.mem_of_getElem? (i := 732) rfl, List.mem_of_getElem? (i := 733) rfl⟩
theorem lw_p21 : lw_okq (⟨"NoonValley$Spreading", "comeToBy", "(III)I"⟩, 17) := ⟨lw_c4, List.mem_of_getElem? (i := 76) rfl, List.mem_of_getElem? (i := 736) rfl, List.mem_of_getElem? (i := 737) rfl⟩
theorem lw_p22 : lw_okq (⟨"NoonValley$Spreading", "comeToAfter", "(II)I"⟩, 17) := ⟨lw_c4, List.mem_of_getElem? (i := 76) rfl, List.mem_of_getElem? (i := 740) rfl, List.mem_of_getElem? (i := 741) rfl⟩
theorem lw_p23 : lw_okq (⟨"NoonValley$Spreading", "findRows", "(III)V"⟩, 17) := ⟨lw_c4, List.mem_of_getElem? (i := 76) rfl, List.mem_of_getElem? (i := 744) rfl, List.mem_of_getElem? (i := 745) rfl⟩
theorem lw_p24 : lw_okq (⟨"NoonValley$Rows", "findAll", "(IIII)V"⟩, 6) := ⟨lw_c5, List.mem_of_getElem? (i := 82) rfl, List.mem_of_getElem? (i := 756) rfl, List.mem_of_getElem? (i := 757) rfl⟩
theorem lw_p25 : lw_okq (⟨"NoonValley$Rows", "take", "(III)V"⟩, 6) := ⟨lw_c5, List.mem_of_getElem? (i := 82) rfl, List.mem_of_getElem? (i := 760) rfl, List.mem_of_getElem? (i := 761) rfl⟩
theorem lw_p26 : lw_okq (⟨"NoonValley$Spreading", "arriveByAll", "(III)V"⟩, 17) := ⟨lw_c4, List.mem_of_getElem? (i := 76) rfl, List.mem_of_getElem? (i := 766) rfl, List.mem_of_getElem? (i := 767) rfl⟩
theorem lw_p27 : lw_okq (⟨"NoonValley$Spreading", "stateAfter", "(II)I"⟩, 17) := ⟨lw_c4, List.mem_of_getElem? (i := 76) rfl, List.mem_of_getElem? (i := 770) rfl, List.mem_of_getElem? (i := 771) rfl⟩
theorem lw_p28 : lw_okq (⟨"NoonValley$Spreading", "understands", "(I)I"⟩, 17) := ⟨lw_c4, List.mem_of_getElem? (i := 76) rfl, List.mem_of_getElem? (i := 774) rfl, List.mem_of_getElem? (i := 775) rfl⟩
theorem lw_p29 : lw_okq (⟨"NoonValley$Spreading", "isDoneInOne", "()Z"⟩, 17) := ⟨lw_c4, List.mem_of_getElem? (i := 76) rfl, List.mem_of_getElem? (i := 778) rfl, List.mem_of_getElem? (i := 779) rfl⟩
theorem lw_p30 : lw_okq (⟨"NoonValley$Spreading", "markGood", "(II)V"⟩, 17) := ⟨lw_c4, List.mem_of_getElem? (i := 76) rfl, List.mem_of_getElem? (i := 791) rfl, List.mem_of_getElem? (i := 792) rfl⟩
theorem lw_p31 : lw_okq (⟨"NoonValley$Spreading", "lowestGood", "(III)I"⟩, 17) := ⟨lw_c4, List.mem_of_getElem? (i := 76) rfl, List.mem_of_getElem? (i := 795) rfl, List.mem_of_getElem? (i := 796) rfl⟩
def lw_privs_2 : List (MethodName × Nat) := [(⟨"NoonValley$Spreading", "begin", "(II)V"⟩, 17), (⟨"NoonValley$Spreading", "arrive", "(II)V"⟩, 17), (⟨"NoonValley$Spreading", "placeOf", "(I)I"⟩, 17), (⟨"NoonValley$Spreading", "swap", "()V"⟩, 17), (⟨"NoonValley$Spreading", "isDone", "(I)Z"⟩, 17), (⟨"NoonValley$Spreading", "comeToBy", "(III)I"⟩, 17), (⟨"NoonValley$Spreading", "comeToAfter", "(II)I"⟩, 17), (⟨"NoonValley$Spreading", "findRows", "(III)V"⟩, 17), (⟨"NoonValley$Rows", "findAll", "(IIII)V"⟩, 6), (⟨"NoonValley$Rows", "take", "(III)V"⟩, 6), (⟨"NoonValley$Spreading", "arriveByAll", "(III)V"⟩, 17), (⟨"NoonValley$Spreading", "stateAfter", "(II)I"⟩, 17), (⟨"NoonValley$Spreading", "understands", "(I)I"⟩, 17), (⟨"NoonValley$Spreading", "isDoneInOne", "()Z"⟩, 17), (⟨"NoonValley$Spreading", "markGood", "(II)V"⟩, 17), (⟨"NoonValley$Spreading", "lowestGood", "(III)I"⟩, 17)]
theorem lw_r2 : ∀ q ∈ lw_privs_2, lw_okq q := List.forall_mem_cons.mpr ⟨lw_p16, List.forall_mem_cons.mpr ⟨lw_p17, List.forall_mem_cons.mpr ⟨lw_p18, List.forall_mem_cons.mpr ⟨lw_p19, List.forall_mem_cons.mpr ⟨lw_p20, List.forall_mem_cons.mpr ⟨lw_p21, List.forall_mem_cons.mpr ⟨lw_p22, List.forall_mem_cons.mpr ⟨lw_p23, List.forall_mem_cons.mpr ⟨lw_p24, List.forall_mem_cons.mpr ⟨lw_p25, List.forall_mem_cons.mpr ⟨lw_p26, List.forall_mem_cons.mpr ⟨lw_p27, List.forall_mem_cons.mpr ⟨lw_p28, List.forall_mem_cons.mpr ⟨lw_p29, List.forall_mem_cons.mpr ⟨lw_p30, List.forall_mem_cons.mpr ⟨lw_p31, fun _ h => absurd h List.not_mem_nil⟩⟩⟩⟩⟩⟩⟩⟩⟩⟩⟩⟩⟩⟩⟩⟩
theorem lw_p32 : lw_okq (⟨"NoonValley$Spreading", "hoursFromFirst", "(I)I"⟩, 17) := ⟨lw_c4, List.mem_of_getElem? (i := 76) rfl, List.mem_of_getElem? (i := 843) rfl, List.mem_of_getElem? (i := 844) rfl⟩
theorem lw_p33 : lw_okq (⟨"NoonValley$Spreading", "openLine", "(II)V"⟩, 17) := ⟨lw_c4, List.mem_of_getElem? (i := 76) rfl, List.mem_of_getElem? (i := 851) rfl, List.mem_of_getElem? (i := 852) rfl⟩
theorem lw_p34 : lw_okq (⟨"NoonValley$Shutting", "flood", "(IIII)I"⟩, 5) := ⟨lw_c6, List.mem_of_getElem? (i := 169) rfl, List.mem_of_getElem? (i := 863) rfl, List.mem_of_getElem? (i := 864) rfl⟩
theorem lw_p35 : lw_okq (⟨"NoonValley$Shutting", "across", "(II)I"⟩, 5) := ⟨lw_c6, List.mem_of_getElem? (i := 169) rfl, List.mem_of_getElem? (i := 869) rfl, List.mem_of_getElem? (i := 870) rfl⟩
theorem lw_p36 : lw_okq (⟨"NoonValley$Shutting", "choose", "(III)I"⟩, 5) := ⟨lw_c6, List.mem_of_getElem? (i := 169) rfl, List.mem_of_getElem? (i := 876) rfl, List.mem_of_getElem? (i := 877) rfl⟩
theorem lw_p37 : lw_okq (⟨"NoonValley$Gossip", "search", "(LNoonValley$Valley;)I"⟩, 3) := ⟨lw_c7, List.mem_of_getElem? (i := 191) rfl, List.mem_of_getElem? (i := 888) rfl, List.mem_of_getElem? (i := 889) rfl⟩
theorem lw_p38 : lw_okq (⟨"NoonValley$Gossip", "goOn", "(II)Z"⟩, 3) := ⟨lw_c7, List.mem_of_getElem? (i := 191) rfl, List.mem_of_getElem? (i := 908) rfl, List.mem_of_getElem? (i := 909) rfl⟩
theorem lw_p39 : lw_okq (⟨"NoonValley$Gossip", "canEnd", "(I)Z"⟩, 3) := ⟨lw_c7, List.mem_of_getElem? (i := 191) rfl, List.mem_of_getElem? (i := 912) rfl, List.mem_of_getElem? (i := 913) rfl⟩
theorem lw_p40 : lw_okq (⟨"NoonValley$Trade", "lookAtLines", "(LNoonValley$Valley;I)V"⟩, 3) := ⟨lw_c8, List.mem_of_getElem? (i := 207) rfl, List.mem_of_getElem? (i := 944) rfl, List.mem_of_getElem? (i := 945) rfl⟩
theorem lw_p41 : lw_okq (⟨"NoonValley$Trade", "goOn", "(II)V"⟩, 3) := ⟨lw_c8, List.mem_of_getElem? (i := 207) rfl, List.mem_of_getElem? (i := 964) rfl, List.mem_of_getElem? (i := 965) rfl⟩
theorem lw_p42 : lw_okq (⟨"NoonValley$Trade", "improve", "(II)V"⟩, 3) := ⟨lw_c8, List.mem_of_getElem? (i := 207) rfl, List.mem_of_getElem? (i := 971) rfl, List.mem_of_getElem? (i := 972) rfl⟩
theorem lw_p43 : lw_okq (⟨"NoonValley$Cards", "callOn", "(I)V"⟩, 7) := ⟨lw_c9, List.mem_of_getElem? (i := 225) rfl, List.mem_of_getElem? (i := 1004) rfl, List.mem_of_getElem? (i := 1005) rfl⟩
theorem lw_p44 : lw_okq (⟨"NoonValley$Cards", "timeOf", "(I)I"⟩, 7) := ⟨lw_c9, List.mem_of_getElem? (i := 225) rfl, List.mem_of_getElem? (i := 1029) rfl, List.mem_of_getElem? (i := 1030) rfl⟩
theorem lw_p45 : lw_okq (⟨"NoonValley$Cards", "slowest", "(I)I"⟩, 7) := ⟨lw_c9, List.mem_of_getElem? (i := 225) rfl, List.mem_of_getElem? (i := 1033) rfl, List.mem_of_getElem? (i := 1034) rfl⟩
theorem lw_p46 : lw_okq (⟨"NoonValley$Carrying", "bears", "(LNoonValley$Plan;JI)Z"⟩, 5) := ⟨lw_c3, List.mem_of_getElem? (i := 53) rfl, List.mem_of_getElem? (i := 1050) rfl, List.mem_of_getElem? (i := 1051) rfl⟩
theorem lw_p47 : lw_okq (⟨"NoonValley$Carrying", "findBreaking", "(LNoonValley$Plan;JII)Z"⟩, 5) := ⟨lw_c3, List.mem_of_getElem? (i := 53) rfl, List.mem_of_getElem? (i := 1055) rfl, List.mem_of_getElem? (i := 1056) rfl⟩
def lw_privs_3 : List (MethodName × Nat) := [(⟨"NoonValley$Spreading", "hoursFromFirst", "(I)I"⟩, 17), (⟨"NoonValley$Spreading", "openLine", "(II)V"⟩, 17), (⟨"NoonValley$Shutting", "flood", "(IIII)I"⟩, 5), (⟨"NoonValley$Shutting", "across", "(II)I"⟩, 5), (⟨"NoonValley$Shutting", "choose", "(III)I"⟩, 5), (⟨"NoonValley$Gossip", "search", "(LNoonValley$Valley;)I"⟩, 3), (⟨"NoonValley$Gossip", "goOn", "(II)Z"⟩, 3), (⟨"NoonValley$Gossip", "canEnd", "(I)Z"⟩, 3), (⟨"NoonValley$Trade", "lookAtLines", "(LNoonValley$Valley;I)V"⟩, 3), (⟨"NoonValley$Trade", "goOn", "(II)V"⟩, 3), (⟨"NoonValley$Trade", "improve", "(II)V"⟩, 3), (⟨"NoonValley$Cards", "callOn", "(I)V"⟩, 7), (⟨"NoonValley$Cards", "timeOf", "(I)I"⟩, 7), (⟨"NoonValley$Cards", "slowest", "(I)I"⟩, 7), (⟨"NoonValley$Carrying", "bears", "(LNoonValley$Plan;JI)Z"⟩, 5), (⟨"NoonValley$Carrying", "findBreaking", "(LNoonValley$Plan;JII)Z"⟩, 5)]
theorem lw_r3 : ∀ q ∈ lw_privs_3, lw_okq q := List.forall_mem_cons.mpr ⟨lw_p32, List.forall_mem_cons.mpr ⟨lw_p33, List.forall_mem_cons.mpr ⟨lw_p34, List.forall_mem_cons.mpr ⟨lw_p35, List.forall_mem_cons.mpr ⟨lw_p36, List.forall_mem_cons.mpr ⟨lw_p37, List.forall_mem_cons.mpr ⟨lw_p38, List.forall_mem_cons.mpr ⟨lw_p39, List.forall_mem_cons.mpr ⟨lw_p40, List.forall_mem_cons.mpr ⟨lw_p41, List.forall_mem_cons.mpr ⟨lw_p42, List.forall_mem_cons.mpr ⟨lw_p43, List.forall_mem_cons.mpr ⟨lw_p44, List.forall_mem_cons.mpr ⟨lw_p45, List.forall_mem_cons.mpr ⟨lw_p46, List.forall_mem_cons.mpr ⟨lw_p47, fun _ h => absurd h List.not_mem_nil⟩⟩⟩⟩⟩⟩⟩⟩⟩⟩⟩⟩⟩⟩⟩⟩
theorem lw_p48 : lw_okq (⟨"NoonValley$Chance", "goOn", "(II)V"⟩, 2) := ⟨lw_c10, List.mem_of_getElem? (i := 254) rfl, List.mem_of_getElem? (i := 1084) rfl, List.mem_of_getElem? (i := 1085) rfl⟩
theorem lw_p49 : lw_okq (⟨"NoonValley$Spreading", "spreadAsTold", "(IIII)V"⟩, 17) := ⟨lw_c4, List.mem_of_getElem? (i := 76) rfl, List.mem_of_getElem? (i := 1137) rfl, List.mem_of_getElem? (i := 1138) rfl⟩
theorem lw_p50 : lw_okq (⟨"java/lang/Throwable", "fillInStackTrace", "(I)Ljava/lang/Throwable;"⟩, 6) := ⟨lw_c11, List.mem_of_getElem? (i := 1198) rfl, List.mem_of_getElem? (i := 1196) rfl, List.mem_of_getElem? (i := 1197) rfl⟩
theorem lw_p51 : lw_okq (⟨"NoonValleyModel", "put", "(I)V"⟩, 64) := ⟨lw_c12, List.mem_of_getElem? (i := 1224) rfl, List.mem_of_getElem? (i := 1429) rfl, List.mem_of_getElem? (i := 1430) rfl⟩
theorem lw_p52 : lw_okq (⟨"NoonValleyModel", "readValley", "()Z"⟩, 64) := ⟨lw_c12, List.mem_of_getElem? (i := 1224) rfl, List.mem_of_getElem? (i := 1441) rfl, List.mem_of_getElem? (i := 1442) rfl⟩
theorem lw_p53 : lw_okq (⟨"NoonValleyModel", "look", "()I"⟩, 64) := ⟨lw_c12, List.mem_of_getElem? (i := 1224) rfl, List.mem_of_getElem? (i := 1445) rfl, List.mem_of_getElem? (i := 1446) rfl⟩
theorem lw_p54 : lw_okq (⟨"NoonValleyModel", "here", "()I"⟩, 64) := ⟨lw_c12, List.mem_of_getElem? (i := 1224) rfl, List.mem_of_getElem? (i := 1449) rfl, List.mem_of_getElem? (i := 1450) rfl⟩
theorem lw_p55 : lw_okq (⟨"NoonValleyModel", "fails", "(I)Z"⟩, 64) := ⟨lw_c12, List.mem_of_getElem? (i := 1224) rfl, List.mem_of_getElem? (i := 1453) rfl, List.mem_of_getElem? (i := 1454) rfl⟩
theorem lw_p56 : lw_okq (⟨"NoonValleyModel", "number", "(III)Z"⟩, 64) := ⟨lw_c12, List.mem_of_getElem? (i := 1224) rfl, List.mem_of_getElem? (i := 1457) rfl, List.mem_of_getElem? (i := 1458) rfl⟩
theorem lw_p57 : lw_okq (⟨"NoonValleyModel", "isDigit", "()Z"⟩, 64) := ⟨lw_c12, List.mem_of_getElem? (i := 1224) rfl, List.mem_of_getElem? (i := 1461) rfl, List.mem_of_getElem? (i := 1462) rfl⟩
theorem lw_p58 : lw_okq (⟨"NoonValleyModel", "statement", "(I)Z"⟩, 64) := ⟨lw_c12, List.mem_of_getElem? (i := 1224) rfl, List.mem_of_getElem? (i := 1468) rfl, List.mem_of_getElem? (i := 1469) rfl⟩
theorem lw_p59 : lw_okq (⟨"NoonValleyModel", "readLine", "(IZ)Z"⟩, 64) := ⟨lw_c12, List.mem_of_getElem? (i := 1224) rfl, List.mem_of_getElem? (i := 1472) rfl, List.mem_of_getElem? (i := 1473) rfl⟩
theorem lw_p60 : lw_okq (⟨"NoonValleyModel", "readBit", "(I[IZ)Z"⟩, 64) := ⟨lw_c12, List.mem_of_getElem? (i := 1224) rfl, List.mem_of_getElem? (i := 1476) rfl, List.mem_of_getElem? (i := 1477) rfl⟩
theorem lw_p61 : lw_okq (⟨"NoonValleyModel", "isValley", "(I)Z"⟩, 64) := ⟨lw_c12, List.mem_of_getElem? (i := 1224) rfl, List.mem_of_getElem? (i := 1488) rfl, List.mem_of_getElem? (i := 1489) rfl⟩
theorem lw_p62 : lw_okq (⟨"NoonValleyModel", "isLine", "(II)Z"⟩, 64) := ⟨lw_c12, List.mem_of_getElem? (i := 1224) rfl, List.mem_of_getElem? (i := 1496) rfl, List.mem_of_getElem? (i := 1497) rfl⟩
theorem lw_p63 : lw_okq (⟨"NoonValleyModel", "isPerson", "(II)Z"⟩, 64) := ⟨lw_c12, List.mem_of_getElem? (i := 1224) rfl, List.mem_of_getElem? (i := 1511) rfl, List.mem_of_getElem? (i := 1512) rfl⟩
def lw_privs_4 : List (MethodName × Nat) := [(⟨"NoonValley$Chance", "goOn", "(II)V"⟩, 2), (⟨"NoonValley$Spreading", "spreadAsTold", "(IIII)V"⟩, 17), (⟨"java/lang/Throwable", "fillInStackTrace", "(I)Ljava/lang/Throwable;"⟩, 6), (⟨"NoonValleyModel", "put", "(I)V"⟩, 64), (⟨"NoonValleyModel", "readValley", "()Z"⟩, 64), (⟨"NoonValleyModel", "look", "()I"⟩, 64), (⟨"NoonValleyModel", "here", "()I"⟩, 64), (⟨"NoonValleyModel", "fails", "(I)Z"⟩, 64), (⟨"NoonValleyModel", "number", "(III)Z"⟩, 64), (⟨"NoonValleyModel", "isDigit", "()Z"⟩, 64), (⟨"NoonValleyModel", "statement", "(I)Z"⟩, 64), (⟨"NoonValleyModel", "readLine", "(IZ)Z"⟩, 64), (⟨"NoonValleyModel", "readBit", "(I[IZ)Z"⟩, 64), (⟨"NoonValleyModel", "isValley", "(I)Z"⟩, 64), (⟨"NoonValleyModel", "isLine", "(II)Z"⟩, 64), (⟨"NoonValleyModel", "isPerson", "(II)Z"⟩, 64)]
theorem lw_r4 : ∀ q ∈ lw_privs_4, lw_okq q := List.forall_mem_cons.mpr ⟨lw_p48, List.forall_mem_cons.mpr ⟨lw_p49, List.forall_mem_cons.mpr ⟨lw_p50, List.forall_mem_cons.mpr ⟨lw_p51, List.forall_mem_cons.mpr ⟨lw_p52, List.forall_mem_cons.mpr ⟨lw_p53, List.forall_mem_cons.mpr ⟨lw_p54, List.forall_mem_cons.mpr ⟨lw_p55, List.forall_mem_cons.mpr ⟨lw_p56, List.forall_mem_cons.mpr ⟨lw_p57, List.forall_mem_cons.mpr ⟨lw_p58, List.forall_mem_cons.mpr ⟨lw_p59, List.forall_mem_cons.mpr ⟨lw_p60, List.forall_mem_cons.mpr ⟨lw_p61, List.forall_mem_cons.mpr ⟨lw_p62, List.forall_mem_cons.mpr ⟨lw_p63, fun _ h => absurd h List.not_mem_nil⟩⟩⟩⟩⟩⟩⟩⟩⟩⟩⟩⟩⟩⟩⟩⟩
theorem lw_p64 : lw_okq (⟨"NoonValleyModel", "mayCall", "(IIII)Z"⟩, 64) := ⟨lw_c12, List.mem_of_getElem? (i := 1224) rfl, List.mem_of_getElem? (i := 1515) rfl, List.mem_of_getElem? (i := 1516) rfl⟩
theorem lw_p65 : lw_okq (⟨"NoonValleyModel", "joins", "(III)Z"⟩, 64) := ⟨lw_c12, List.mem_of_getElem? (i := 1224) rfl, List.mem_of_getElem? (i := 1519) rfl, List.mem_of_getElem? (i := 1520) rfl⟩
theorem lw_p66 : lw_okq (⟨"NoonValleyModel", "works", "(II)Z"⟩, 64) := ⟨lw_c12, List.mem_of_getElem? (i := 1224) rfl, List.mem_of_getElem? (i := 1523) rfl, List.mem_of_getElem? (i := 1524) rfl⟩
theorem lw_p67 : lw_okq (⟨"NoonValleyModel", "isPlan", "(I)Z"⟩, 64) := ⟨lw_c12, List.mem_of_getElem? (i := 1224) rfl, List.mem_of_getElem? (i := 1535) rfl, List.mem_of_getElem? (i := 1536) rfl⟩
theorem lw_p68 : lw_okq (⟨"NoonValleyModel", "isCall", "(II)Z"⟩, 64) := ⟨lw_c12, List.mem_of_getElem? (i := 1224) rfl, List.mem_of_getElem? (i := 1543) rfl, List.mem_of_getElem? (i := 1544) rfl⟩
theorem lw_p69 : lw_okq (⟨"NoonValleyModel", "judge", "(I)V"⟩, 64) := ⟨lw_c12, List.mem_of_getElem? (i := 1224) rfl, List.mem_of_getElem? (i := 1547) rfl, List.mem_of_getElem? (i := 1548) rfl⟩
theorem lw_p70 : lw_okq (⟨"NoonValleyModel", "reaches", "(II)I"⟩, 64) := ⟨lw_c12, List.mem_of_getElem? (i := 1224) rfl, List.mem_of_getElem? (i := 1551) rfl, List.mem_of_getElem? (i := 1552) rfl⟩
theorem lw_p71 : lw_okq (⟨"NoonValleyModel", "carryAll", "(I)V"⟩, 64) := ⟨lw_c12, List.mem_of_getElem? (i := 1224) rfl, List.mem_of_getElem? (i := 1563) rfl, List.mem_of_getElem? (i := 1564) rfl⟩
theorem lw_p72 : lw_okq (⟨"NoonValleyModel", "carry", "(IJI)V"⟩, 64) := ⟨lw_c12, List.mem_of_getElem? (i := 1224) rfl, List.mem_of_getElem? (i := 1567) rfl, List.mem_of_getElem? (i := 1568) rfl⟩
theorem lw_p73 : lw_okq (⟨"NoonValleyModel", "tells", "(IIII)V"⟩, 64) := ⟨lw_c12, List.mem_of_getElem? (i := 1224) rfl, List.mem_of_getElem? (i := 1571) rfl, List.mem_of_getElem? (i := 1572) rfl⟩
theorem lw_p74 : lw_okq (⟨"NoonValleyModel", "notFor", "(II)I"⟩, 64) := ⟨lw_c12, List.mem_of_getElem? (i := 1224) rfl, List.mem_of_getElem? (i := 1575) rfl, List.mem_of_getElem? (i := 1576) rfl⟩
theorem lw_p75 : lw_okq (⟨"NoonValleyModel", "everybody", "(I)I"⟩, 64) := ⟨lw_c12, List.mem_of_getElem? (i := 1224) rfl, List.mem_of_getElem? (i := 1583) rfl, List.mem_of_getElem? (i := 1584) rfl⟩
theorem lw_p76 : lw_okq (⟨"NoonValleyModel", "allKnow", "(III)Z"⟩, 64) := ⟨lw_c12, List.mem_of_getElem? (i := 1224) rfl, List.mem_of_getElem? (i := 1591) rfl, List.mem_of_getElem? (i := 1592) rfl⟩
theorem lw_p77 : lw_okq (⟨"NoonValleyModel", "mustOf", "(II)I"⟩, 64) := ⟨lw_c12, List.mem_of_getElem? (i := 1224) rfl, List.mem_of_getElem? (i := 1595) rfl, List.mem_of_getElem? (i := 1596) rfl⟩
theorem lw_p78 : lw_okq (⟨"NoonValleyModel", "isAsked", "(II)Z"⟩, 64) := ⟨lw_c12, List.mem_of_getElem? (i := 1224) rfl, List.mem_of_getElem? (i := 1603) rfl, List.mem_of_getElem? (i := 1604) rfl⟩
theorem lw_p79 : lw_okq (⟨"NoonValleyModel", "leastFrom", "(III)I"⟩, 64) := ⟨lw_c12, List.mem_of_getElem? (i := 1224) rfl, List.mem_of_getElem? (i := 1610) rfl, List.mem_of_getElem? (i := 1611) rfl⟩
def lw_privs_5 : List (MethodName × Nat) := [(⟨"NoonValleyModel", "mayCall", "(IIII)Z"⟩, 64), (⟨"NoonValleyModel", "joins", "(III)Z"⟩, 64), (⟨"NoonValleyModel", "works", "(II)Z"⟩, 64), (⟨"NoonValleyModel", "isPlan", "(I)Z"⟩, 64), (⟨"NoonValleyModel", "isCall", "(II)Z"⟩, 64), (⟨"NoonValleyModel", "judge", "(I)V"⟩, 64), (⟨"NoonValleyModel", "reaches", "(II)I"⟩, 64), (⟨"NoonValleyModel", "carryAll", "(I)V"⟩, 64), (⟨"NoonValleyModel", "carry", "(IJI)V"⟩, 64), (⟨"NoonValleyModel", "tells", "(IIII)V"⟩, 64), (⟨"NoonValleyModel", "notFor", "(II)I"⟩, 64), (⟨"NoonValleyModel", "everybody", "(I)I"⟩, 64), (⟨"NoonValleyModel", "allKnow", "(III)Z"⟩, 64), (⟨"NoonValleyModel", "mustOf", "(II)I"⟩, 64), (⟨"NoonValleyModel", "isAsked", "(II)Z"⟩, 64), (⟨"NoonValleyModel", "leastFrom", "(III)I"⟩, 64)]
theorem lw_r5 : ∀ q ∈ lw_privs_5, lw_okq q := List.forall_mem_cons.mpr ⟨lw_p64, List.forall_mem_cons.mpr ⟨lw_p65, List.forall_mem_cons.mpr ⟨lw_p66, List.forall_mem_cons.mpr ⟨lw_p67, List.forall_mem_cons.mpr ⟨lw_p68, List.forall_mem_cons.mpr ⟨lw_p69, List.forall_mem_cons.mpr ⟨lw_p70, List.forall_mem_cons.mpr ⟨lw_p71, List.forall_mem_cons.mpr ⟨lw_p72, List.forall_mem_cons.mpr ⟨lw_p73, List.forall_mem_cons.mpr ⟨lw_p74, List.forall_mem_cons.mpr ⟨lw_p75, List.forall_mem_cons.mpr ⟨lw_p76, List.forall_mem_cons.mpr ⟨lw_p77, List.forall_mem_cons.mpr ⟨lw_p78, List.forall_mem_cons.mpr ⟨lw_p79, fun _ h => absurd h List.not_mem_nil⟩⟩⟩⟩⟩⟩⟩⟩⟩⟩⟩⟩⟩⟩⟩⟩
theorem lw_p80 : lw_okq (⟨"NoonValleyModel", "ask", "(II)V"⟩, 64) := ⟨lw_c12, List.mem_of_getElem? (i := 1224) rfl, List.mem_of_getElem? (i := 1614) rfl, List.mem_of_getElem? (i := 1615) rfl⟩
theorem lw_p81 : lw_okq (⟨"NoonValleyModel", "needed", "(III)I"⟩, 64) := ⟨lw_c12, List.mem_of_getElem? (i := 1224) rfl, List.mem_of_getElem? (i := 1618) rfl, List.mem_of_getElem? (i := 1619) rfl⟩
theorem lw_p82 : lw_okq (⟨"NoonValleyModel", "rowsLeast", "(III)I"⟩, 64) := ⟨lw_c12, List.mem_of_getElem? (i := 1224) rfl, List.mem_of_getElem? (i := 1622) rfl, List.mem_of_getElem? (i := 1623) rfl⟩
theorem lw_p83 : lw_okq (⟨"NoonValleyModel", "tryRow", "(IIIIII)I"⟩, 64) := ⟨lw_c12, List.mem_of_getElem? (i := 1224) rfl, List.mem_of_getElem? (i := 1626) rfl, List.mem_of_getElem? (i := 1627) rfl⟩
theorem lw_p84 : lw_okq (⟨"NoonValleyModel", "lowest", "(IIIIIII)Z"⟩, 64) := ⟨lw_c12, List.mem_of_getElem? (i := 1224) rfl, List.mem_of_getElem? (i := 1635) rfl, List.mem_of_getElem? (i := 1636) rfl⟩
theorem lw_p85 : lw_okq (⟨"NoonValleyModel", "hasLine", "(III)Z"⟩, 64) := ⟨lw_c12, List.mem_of_getElem? (i := 1224) rfl, List.mem_of_getElem? (i := 1647) rfl, List.mem_of_getElem? (i := 1648) rfl⟩
theorem lw_p86 : lw_okq (⟨"NoonValleyModel", "spread", "(IIIIII)I"⟩, 64) := ⟨lw_c12, List.mem_of_getElem? (i := 1224) rfl, List.mem_of_getElem? (i := 1656) rfl, List.mem_of_getElem? (i := 1657) rfl⟩
theorem lw_p87 : lw_okq (⟨"NoonValleyModel", "comesTo", "(IIIIII)Z"⟩, 64) := ⟨lw_c12, List.mem_of_getElem? (i := 1224) rfl, List.mem_of_getElem? (i := 1664) rfl, List.mem_of_getElem? (i := 1665) rfl⟩
theorem lw_p88 : lw_okq (⟨"NoonValleyModel", "fewestOf", "(I)I"⟩, 64) := ⟨lw_c12, List.mem_of_getElem? (i := 1224) rfl, List.mem_of_getElem? (i := 1672) rfl, List.mem_of_getElem? (i := 1673) rfl⟩
theorem lw_p89 : lw_okq (⟨"NoonValleyModel", "holdsAll", "(I)Z"⟩, 64) := ⟨lw_c12, List.mem_of_getElem? (i := 1224) rfl, List.mem_of_getElem? (i := 1676) rfl, List.mem_of_getElem? (i := 1677) rfl⟩
theorem lw_p90 : lw_okq (⟨"NoonValleyModel", "gossips", "(III)Z"⟩, 64) := ⟨lw_c12, List.mem_of_getElem? (i := 1224) rfl, List.mem_of_getElem? (i := 1680) rfl, List.mem_of_getElem? (i := 1681) rfl⟩
theorem lw_p91 : lw_okq (⟨"NoonValleyModel", "layTrades", "(I)V"⟩, 64) := ⟨lw_c12, List.mem_of_getElem? (i := 1224) rfl, List.mem_of_getElem? (i := 1696) rfl, List.mem_of_getElem? (i := 1697) rfl⟩
theorem lw_p92 : lw_okq (⟨"NoonValleyModel", "mayTrade", "(IIII)Z"⟩, 64) := ⟨lw_c12, List.mem_of_getElem? (i := 1224) rfl, List.mem_of_getElem? (i := 1700) rfl, List.mem_of_getElem? (i := 1701) rfl⟩
theorem lw_p93 : lw_okq (⟨"NoonValleyModel", "meet", "(II)V"⟩, 64) := ⟨lw_c12, List.mem_of_getElem? (i := 1224) rfl, List.mem_of_getElem? (i := 1707) rfl, List.mem_of_getElem? (i := 1708) rfl⟩
theorem lw_p94 : lw_okq (⟨"NoonValleyModel", "isTree", "(I)Z"⟩, 64) := ⟨lw_c12, List.mem_of_getElem? (i := 1224) rfl, List.mem_of_getElem? (i := 1727) rfl, List.mem_of_getElem? (i := 1728) rfl⟩
theorem lw_p95 : lw_okq (⟨"NoonValleyModel", "layTree", "(III)V"⟩, 64) := ⟨lw_c12, List.mem_of_getElem? (i := 1224) rfl, List.mem_of_getElem? (i := 1731) rfl, List.mem_of_getElem? (i := 1732) rfl⟩
def lw_privs_6 : List (MethodName × Nat) := [(⟨"NoonValleyModel", "ask", "(II)V"⟩, 64), (⟨"NoonValleyModel", "needed", "(III)I"⟩, 64), (⟨"NoonValleyModel", "rowsLeast", "(III)I"⟩, 64), (⟨"NoonValleyModel", "tryRow", "(IIIIII)I"⟩, 64), (⟨"NoonValleyModel", "lowest", "(IIIIIII)Z"⟩, 64), (⟨"NoonValleyModel", "hasLine", "(III)Z"⟩, 64), (⟨"NoonValleyModel", "spread", "(IIIIII)I"⟩, 64), (⟨"NoonValleyModel", "comesTo", "(IIIIII)Z"⟩, 64), (⟨"NoonValleyModel", "fewestOf", "(I)I"⟩, 64), (⟨"NoonValleyModel", "holdsAll", "(I)Z"⟩, 64), (⟨"NoonValleyModel", "gossips", "(III)Z"⟩, 64), (⟨"NoonValleyModel", "layTrades", "(I)V"⟩, 64), (⟨"NoonValleyModel", "mayTrade", "(IIII)Z"⟩, 64), (⟨"NoonValleyModel", "meet", "(II)V"⟩, 64), (⟨"NoonValleyModel", "isTree", "(I)Z"⟩, 64), (⟨"NoonValleyModel", "layTree", "(III)V"⟩, 64)]
theorem lw_r6 : ∀ q ∈ lw_privs_6, lw_okq q := List.forall_mem_cons.mpr ⟨lw_p80, List.forall_mem_cons.mpr ⟨lw_p81, List.forall_mem_cons.mpr ⟨lw_p82, List.forall_mem_cons.mpr ⟨lw_p83, List.forall_mem_cons.mpr ⟨lw_p84, List.forall_mem_cons.mpr ⟨lw_p85, List.forall_mem_cons.mpr ⟨lw_p86, List.forall_mem_cons.mpr ⟨lw_p87, List.forall_mem_cons.mpr ⟨lw_p88, List.forall_mem_cons.mpr ⟨lw_p89, List.forall_mem_cons.mpr ⟨lw_p90, List.forall_mem_cons.mpr ⟨lw_p91, List.forall_mem_cons.mpr ⟨lw_p92, List.forall_mem_cons.mpr ⟨lw_p93, List.forall_mem_cons.mpr ⟨lw_p94, List.forall_mem_cons.mpr ⟨lw_p95, fun _ h => absurd h List.not_mem_nil⟩⟩⟩⟩⟩⟩⟩⟩⟩⟩⟩⟩⟩⟩⟩⟩
theorem lw_p96 : lw_okq (⟨"NoonValleyModel", "isBeside", "(III)Z"⟩, 64) := ⟨lw_c12, List.mem_of_getElem? (i := 1224) rfl, List.mem_of_getElem? (i := 1735) rfl, List.mem_of_getElem? (i := 1736) rfl⟩
theorem lw_p97 : lw_okq (⟨"NoonValleyModel", "breaksBy", "(IIIIJ)Z"⟩, 64) := ⟨lw_c12, List.mem_of_getElem? (i := 1224) rfl, List.mem_of_getElem? (i := 1744) rfl, List.mem_of_getElem? (i := 1745) rfl⟩
theorem lw_p98 : lw_okq (⟨"NoonValleyModel", "bears", "(IJI)Z"⟩, 64) := ⟨lw_c12, List.mem_of_getElem? (i := 1224) rfl, List.mem_of_getElem? (i := 1748) rfl, List.mem_of_getElem? (i := 1749) rfl⟩
theorem lw_p99 : lw_okq (⟨"NoonValleyModel", "choose", "(IIIIJ)V"⟩, 64) := ⟨lw_c12, List.mem_of_getElem? (i := 1224) rfl, List.mem_of_getElem? (i := 1761) rfl, List.mem_of_getElem? (i := 1762) rfl⟩
theorem lw_p100 : lw_okq (⟨"NoonValleyModel", "canBegin", "(III)Z"⟩, 64) := ⟨lw_c12, List.mem_of_getElem? (i := 1224) rfl, List.mem_of_getElem? (i := 1779) rfl, List.mem_of_getElem? (i := 1780) rfl⟩
theorem lw_p101 : lw_okq (⟨"NoonValleyModel", "isAsTold", "(IIII)Z"⟩, 64) := ⟨lw_c12, List.mem_of_getElem? (i := 1224) rfl, List.mem_of_getElem? (i := 1783) rfl, List.mem_of_getElem? (i := 1784) rfl⟩
theorem lw_p102 : lw_okq (⟨"NoonValleyModel", "taleOf", "(III)I"⟩, 64) := ⟨lw_c12, List.mem_of_getElem? (i := 1224) rfl, List.mem_of_getElem? (i := 1787) rfl, List.mem_of_getElem? (i := 1788) rfl⟩
theorem lw_p103 : lw_okq (⟨"NoonValleyModel", "goRows", "(IIIIIIII)V"⟩, 64) := ⟨lw_c12, List.mem_of_getElem? (i := 1224) rfl, List.mem_of_getElem? (i := 1791) rfl, List.mem_of_getElem? (i := 1792) rfl⟩
def lw_privs_7 : List (MethodName × Nat) := [(⟨"NoonValleyModel", "isBeside", "(III)Z"⟩, 64), (⟨"NoonValleyModel", "breaksBy", "(IIIIJ)Z"⟩, 64), (⟨"NoonValleyModel", "bears", "(IJI)Z"⟩, 64), (⟨"NoonValleyModel", "choose", "(IIIIJ)V"⟩, 64), (⟨"NoonValleyModel", "canBegin", "(III)Z"⟩, 64), (⟨"NoonValleyModel", "isAsTold", "(IIII)Z"⟩, 64), (⟨"NoonValleyModel", "taleOf", "(III)I"⟩, 64), (⟨"NoonValleyModel", "goRows", "(IIIIIIII)V"⟩, 64)]
theorem lw_r7 : ∀ q ∈ lw_privs_7, lw_okq q := List.forall_mem_cons.mpr ⟨lw_p96, List.forall_mem_cons.mpr ⟨lw_p97, List.forall_mem_cons.mpr ⟨lw_p98, List.forall_mem_cons.mpr ⟨lw_p99, List.forall_mem_cons.mpr ⟨lw_p100, List.forall_mem_cons.mpr ⟨lw_p101, List.forall_mem_cons.mpr ⟨lw_p102, List.forall_mem_cons.mpr ⟨lw_p103, fun _ h => absurd h List.not_mem_nil⟩⟩⟩⟩⟩⟩⟩⟩
def lw_privs : List (MethodName × Nat) := lw_privs_1 ++ (lw_privs_2 ++ (lw_privs_3 ++ (lw_privs_4 ++ (lw_privs_5 ++ (lw_privs_6 ++ (lw_privs_7))))))
def lw_tbl : List Cond := k2_sels lw_privs ++ tables_1
theorem lw_privs_ok : ∀ q ∈ lw_privs, lw_okq q := by
  show ∀ q ∈ lw_privs_1 ++ (lw_privs_2 ++ (lw_privs_3 ++ (lw_privs_4 ++ (lw_privs_5 ++ (lw_privs_6 ++ (lw_privs_7)))))), lw_okq q
  exact List.forall_mem_append.mpr ⟨lw_r1, List.forall_mem_append.mpr ⟨lw_r2, List.forall_mem_append.mpr ⟨lw_r3, List.forall_mem_append.mpr ⟨lw_r4, List.forall_mem_append.mpr ⟨lw_r5, List.forall_mem_append.mpr ⟨lw_r6, lw_r7⟩⟩⟩⟩⟩⟩
def RX0 : String := "NoonValley$Cards"
def TX0 : u_T := fun k => match k with
  | 0 => ("NoonValley$Cards", "valley", "LNoonValley$Valley;", false)
  | 1 => ("NoonValley$Cards", "known", "I", false)
  | 2 => ("NoonValley$Cards", "once", "I", false)
  | 3 => ("NoonValley$Cards", "called", "[I", true)
  | 4 => ("NoonValley$Cards", "time", "[I", true)
  | 5 => ("NoonValley$Cards", "children", "[I", true)
  | _ => ("NoonValley$Cards", "order", "[I", true)
def tyX0 : Nat → FieldType := fun k => match k with
  | 0 => .object "NoonValley$Valley"
  | 1 => .int
  | 2 => .int
  | 3 => .array .int
  | 4 => .array .int
  | 5 => .array .int
  | _ => .array .int
/-- a text as a number -/
def nm_sc (s : String) : Nat := s.toByteArray.data.toList.foldl (fun n b => 256 * n + b.toNat) 1
def nm_iv : List Nat → Nat → Nat
  | [], _ => 0
  | x :: l, c => if Nat.beq x c then 0 else nm_iv l c + 1
theorem nm_by {n : Nat} (f : Nat → String) (iv : Nat → Nat) (h : ∀ a, a < n → iv (nm_sc (f a)) = a) : ∀ a, a < n → ∀ b, b < n → a ≠ b → f a ≠ f b := fun a ha b hb hn he => hn ((h a ha).symm.trans ((congrArg (fun s => iv (nm_sc s)) he).trans (h b hb)))
theorem nmX0 : ∀ a, a < 7 → ∀ b, b < 7 → a ≠ b → (TX0 a).2.1 ≠ (TX0 b).2.1 := nm_by (fun a => (TX0 a).2.1) (nm_iv [411635779659129, 1560925927278, 6164472677, 390745058731364, 6248033637, 25609835195304928622, 1578172179826]) (by decide +kernel)
theorem tyX0_ok : ∀ k, k < 7 → parseFieldDescriptor (TX0 k).2.2.1 = some (tyX0 k) := by decide +kernel
abbrev cX0_init : ByteArray := prog_2_method_1_code
def yX0_init : MethodName := ⟨RX0, "<init>", "()V"⟩
abbrev cX0_hoursTillAllKnow : ByteArray := prog_2_method_2_code
def yX0_hoursTillAllKnow : MethodName := ⟨RX0, "hoursTillAllKnow", "(LNoonValley$Valley;I)I"⟩
abbrev cX0_callOn : ByteArray := prog_2_method_3_code
def yX0_callOn : MethodName := ⟨RX0, "callOn", "(I)V"⟩
abbrev cX0_growTree : ByteArray := prog_2_method_4_code
def yX0_growTree : MethodName := ⟨RX0, "growTree", "(LNoonValley$Valley;I)Z"⟩
abbrev cX0_timeOf : ByteArray := prog_2_method_5_code
def yX0_timeOf : MethodName := ⟨RX0, "timeOf", "(I)I"⟩
abbrev cX0_below : ByteArray := prog_2_method_6_code
def yX0_below : MethodName := ⟨RX0, "below", "(II)I"⟩
abbrev cX0_slowest : ByteArray := prog_2_method_7_code
def yX0_slowest : MethodName := ⟨RX0, "slowest", "(I)I"⟩
def RX1 : String := "NoonValley$Carrying"
def TX1 : u_T := fun k => match k with
  | 0 => ("NoonValley$Carrying", "known", "[I", true)
  | 1 => ("NoonValley$Carrying", "toldOnce", "[I", true)
  | 2 => ("NoonValley$Carrying", "deaf", "I", false)
  | 3 => ("NoonValley$Carrying", "useful", "J", false)
  | _ => ("NoonValley$Carrying", "breaking", "J", false)
def tyX1 : Nat → FieldType := fun k => match k with
  | 0 => .array .int
  | 1 => .array .int
  | 2 => .int
  | 3 => .long
  | _ => .long
theorem nmX1 : ∀ a, a < 5 → ∀ b, b < 5 → a ≠ b → (TX1 a).2.1 ≠ (TX1 b).2.1 := nm_by (fun a => (TX1 a).2.1) (nm_iv [1560925927278, 26836787882609238885, 5979332966, 410613459613036, 25540587905859808871]) (by decide +kernel)
theorem tyX1_ok : ∀ k, k < 5 → parseFieldDescriptor (TX1 k).2.2.1 = some (tyX1 k) := by decide +kernel
abbrev cX1_init : ByteArray := prog_3_method_1_code
def yX1_init : MethodName := ⟨RX1, "<init>", "()V"⟩
abbrev cX1_carryAll : ByteArray := prog_3_method_2_code
def yX1_carryAll : MethodName := ⟨RX1, "carryAll", "(LNoonValley$Plan;I)V"⟩
abbrev cX1_carry : ByteArray := prog_3_method_3_code
def yX1_carry : MethodName := ⟨RX1, "carry", "(LNoonValley$Plan;IJI)V"⟩
abbrev cX1_carryCall : ByteArray := prog_3_method_4_code
def yX1_carryCall : MethodName := ⟨RX1, "carryCall", "(LNoonValley$Plan;II)Z"⟩
abbrev cX1_shout : ByteArray := prog_3_method_5_code
def yX1_shout : MethodName := ⟨RX1, "shout", "(III)Z"⟩
abbrev cX1_tell : ByteArray := prog_3_method_6_code
def yX1_tell : MethodName := ⟨RX1, "tell", "(II)Z"⟩
abbrev cX1_whoKnows : ByteArray := prog_3_method_7_code
def yX1_whoKnows : MethodName := ⟨RX1, "whoKnows", "(I)I"⟩
abbrev cX1_whoIsToldOnce : ByteArray := prog_3_method_8_code
def yX1_whoIsToldOnce : MethodName := ⟨RX1, "whoIsToldOnce", "(I)I"⟩
abbrev cX1_peopleOfNews : ByteArray := prog_3_method_9_code
def yX1_peopleOfNews : MethodName := ⟨RX1, "peopleOfNews", "([II)I"⟩
abbrev cX1_isBroken : ByteArray := prog_3_method_10_code
def yX1_isBroken : MethodName := ⟨RX1, "isBroken", "(LNoonValley$Valley;)Z"⟩
abbrev cX1_isDone : ByteArray := prog_3_method_11_code
def yX1_isDone : MethodName := ⟨RX1, "isDone", "(LNoonValley$Valley;I)Z"⟩
abbrev cX1_bears : ByteArray := prog_3_method_12_code
def yX1_bears : MethodName := ⟨RX1, "bears", "(LNoonValley$Plan;JI)Z"⟩
abbrev cX1_fewestToBreak : ByteArray := prog_3_method_13_code
def yX1_fewestToBreak : MethodName := ⟨RX1, "fewestToBreak", "(LNoonValley$Plan;)I"⟩
abbrev cX1_findBreaking : ByteArray := prog_3_method_14_code
def yX1_findBreaking : MethodName := ⟨RX1, "findBreaking", "(LNoonValley$Plan;JII)Z"⟩
abbrev cX1_breakingCall : ByteArray := prog_3_method_15_code
def yX1_breakingCall : MethodName := ⟨RX1, "breakingCall", "(I)I"⟩
abbrev cX1_lowestBreaker : ByteArray := prog_3_method_16_code
def yX1_lowestBreaker : MethodName := ⟨RX1, "lowestBreaker", "(LNoonValley$Plan;)I"⟩
def RX2 : String := "NoonValley$Chance"
def TX2 : u_T := fun k => match k with
  | 0 => ("NoonValley$Chance", "now", "[J", false)
  | _ => ("NoonValley$Chance", "next", "[J", false)
def tyX2 : Nat → FieldType := fun k => match k with
  | 0 => .array .long
  | _ => .array .long
theorem nmX2 : ∀ a, a < 2 → ∀ b, b < 2 → a ≠ b → (TX2 a).2.1 ≠ (TX2 b).2.1 := by decide +kernel
theorem tyX2_ok : ∀ k, k < 2 → parseFieldDescriptor (TX2 k).2.2.1 = some (tyX2 k) := by decide +kernel
abbrev cX2_init : ByteArray := prog_4_method_1_code
def yX2_init : MethodName := ⟨RX2, "<init>", "()V"⟩
abbrev cX2_countWays : ByteArray := prog_4_method_2_code
def yX2_countWays : MethodName := ⟨RX2, "countWays", "(III)J"⟩
abbrev cX2_goOn : ByteArray := prog_4_method_3_code
def yX2_goOn : MethodName := ⟨RX2, "goOn", "(II)V"⟩
abbrev cX2_power : ByteArray := prog_4_method_4_code
def yX2_power : MethodName := ⟨RX2, "power", "(II)J"⟩
abbrev cX2_other : ByteArray := prog_4_method_5_code
def yX2_other : MethodName := ⟨RX2, "other", "(II)I"⟩
abbrev cX2_drawHours : ByteArray := prog_4_method_6_code
def yX2_drawHours : MethodName := ⟨RX2, "drawHours", "(IIJ)I"⟩
def RX3 : String := "NoonValley$Gossip"
def TX3 : u_T := fun k => match k with
  | 0 => ("NoonValley$Gossip", "valley", "LNoonValley$Valley;", false)
  | 1 => ("NoonValley$Gossip", "all", "I", false)
  | _ => ("NoonValley$Gossip", "knows", "[I", true)
def tyX3 : Nat → FieldType := fun k => match k with
  | 0 => .object "NoonValley$Valley"
  | 1 => .int
  | _ => .array .int
theorem nmX3 : ∀ a, a < 3 → ∀ b, b < 3 → a ≠ b → (TX3 a).2.1 ≠ (TX3 b).2.1 := nm_by (fun a => (TX3 a).2.1) (nm_iv [411635779659129, 23161964, 1560925927283]) (by decide +kernel)
theorem tyX3_ok : ∀ k, k < 3 → parseFieldDescriptor (TX3 k).2.2.1 = some (tyX3 k) := by decide +kernel
abbrev cX3_init : ByteArray := prog_5_method_1_code
def yX3_init : MethodName := ⟨RX3, "<init>", "()V"⟩
abbrev cX3_lowerEnd : ByteArray := prog_5_method_2_code
def yX3_lowerEnd : MethodName := ⟨RX3, "lowerEnd", "(I)I"⟩
abbrev cX3_upperEnd : ByteArray := prog_5_method_3_code
def yX3_upperEnd : MethodName := ⟨RX3, "upperEnd", "(I)I"⟩
abbrev cX3_fewestCalls : ByteArray := prog_5_method_4_code
def yX3_fewestCalls : MethodName := ⟨RX3, "fewestCalls", "(LNoonValley$Valley;)I"⟩
abbrev cX3_search : ByteArray := prog_5_method_5_code
def yX3_search : MethodName := ⟨RX3, "search", "(LNoonValley$Valley;)I"⟩
abbrev cX3_goOn : ByteArray := prog_5_method_6_code
def yX3_goOn : MethodName := ⟨RX3, "goOn", "(II)Z"⟩
abbrev cX3_canEnd : ByteArray := prog_5_method_7_code
def yX3_canEnd : MethodName := ⟨RX3, "canEnd", "(I)Z"⟩
def RX4 : String := "NoonValley$Plan"
def TX4 : u_T := fun k => match k with
  | 0 => ("NoonValley$Plan", "valley", "LNoonValley$Valley;", true)
  | 1 => ("NoonValley$Plan", "count", "I", false)
  | 2 => ("NoonValley$Plan", "hours", "[I", true)
  | 3 => ("NoonValley$Plan", "kinds", "[I", true)
  | 4 => ("NoonValley$Plan", "callers", "[I", true)
  | 5 => ("NoonValley$Plan", "called", "[I", true)
  | 6 => ("NoonValley$Plan", "order", "[I", true)
  | 7 => ("NoonValley$Plan", "verdict", "[I", true)
  | _ => ("NoonValley$Plan", "others", "[I", true)
def tyX4 : Nat → FieldType := fun k => match k with
  | 0 => .object "NoonValley$Valley"
  | 1 => .int
  | 2 => .array .int
  | 3 => .array .int
  | 4 => .array .int
  | 5 => .array .int
  | 6 => .array .int
  | 7 => .array .int
  | _ => .array .int
theorem nmX4 : ∀ a, a < 9 → ∀ b, b < 9 → a ≠ b → (TX4 a).2.1 ≠ (TX4 b).2.1 := nm_by (fun a => (TX4 a).2.1) (nm_iv [411635779659129, 1526583357044, 1548058194547, 1560841970803, 100030735035232883, 390745058731364, 1578172179826, 105383183275090804, 404020735079027]) (by decide +kernel)
theorem tyX4_ok : ∀ k, k < 9 → parseFieldDescriptor (TX4 k).2.2.1 = some (tyX4 k) := by decide +kernel
abbrev cX4_init : ByteArray := prog_6_method_1_code
def yX4_init : MethodName := ⟨RX4, "<init>", "(LNoonValley$Valley;)V"⟩
abbrev cX4_hasRoom : ByteArray := prog_6_method_2_code
def yX4_hasRoom : MethodName := ⟨RX4, "hasRoom", "()Z"⟩
abbrev cX4_append : ByteArray := prog_6_method_3_code
def yX4_append : MethodName := ⟨RX4, "append", "(IIII)I"⟩
abbrev cX4_judge : ByteArray := prog_6_method_4_code
def yX4_judge : MethodName := ⟨RX4, "judge", "()V"⟩
abbrev cX4_verdictOf : ByteArray := prog_6_method_5_code
def yX4_verdictOf : MethodName := ⟨RX4, "verdictOf", "(III)I"⟩
def RX5 : String := "NoonValley$Rows"
def TX5 : u_T := fun k => match k with
  | 0 => ("NoonValley$Rows", "sets", "[I", true)
  | 1 => ("NoonValley$Rows", "rows", "[I", true)
  | 2 => ("NoonValley$Rows", "met", "[Z", true)
  | 3 => ("NoonValley$Rows", "count", "I", false)
  | 4 => ("NoonValley$Rows", "choices", "[I", true)
  | _ => ("NoonValley$Rows", "people", "I", false)
def tyX5 : Nat → FieldType := fun k => match k with
  | 0 => .array .int
  | 1 => .array .int
  | 2 => .array .boolean
  | 3 => .int
  | 4 => .array .int
  | _ => .int
theorem nmX5 : ∀ a, a < 6 → ∀ b, b < 6 → a ≠ b → (TX5 a).2.1 ≠ (TX5 b).2.1 := nm_by (fun a => (TX5 a).2.1) (nm_iv [6230996083, 6214874995, 23946612, 1526583357044, 100038444451063155, 405055940357221]) (by decide +kernel)
theorem tyX5_ok : ∀ k, k < 6 → parseFieldDescriptor (TX5 k).2.2.1 = some (tyX5 k) := by decide +kernel
abbrev cX5_init : ByteArray := prog_7_method_1_code
def yX5_init : MethodName := ⟨RX5, "<init>", "()V"⟩
abbrev cX5_calledIn : ByteArray := prog_7_method_2_code
def yX5_calledIn : MethodName := ⟨RX5, "calledIn", "(II)I"⟩
abbrev cX5_forget : ByteArray := prog_7_method_3_code
def yX5_forget : MethodName := ⟨RX5, "forget", "()V"⟩
abbrev cX5_append : ByteArray := prog_7_method_4_code
def yX5_append : MethodName := ⟨RX5, "append", "(I)V"⟩
abbrev cX5_findAll : ByteArray := prog_7_method_5_code
def yX5_findAll : MethodName := ⟨RX5, "findAll", "(IIII)V"⟩
abbrev cX5_take : ByteArray := prog_7_method_6_code
def yX5_take : MethodName := ⟨RX5, "take", "(III)V"⟩
def RX6 : String := "NoonValley$Shutting"
def TX6 : u_T := fun k => match k with
  | 0 => ("NoonValley$Shutting", "valley", "LNoonValley$Valley;", false)
  | 1 => ("NoonValley$Shutting", "goal", "I", false)
  | 2 => ("NoonValley$Shutting", "hour", "I", false)
  | 3 => ("NoonValley$Shutting", "before", "I", false)
  | _ => ("NoonValley$Shutting", "used", "I", false)
def tyX6 : Nat → FieldType := fun k => match k with
  | 0 => .object "NoonValley$Valley"
  | 1 => .int
  | 2 => .int
  | 3 => .int
  | _ => .int
theorem nmX6 : ∀ a, a < 5 → ∀ b, b < 5 → a ≠ b → (TX6 a).2.1 ≠ (TX6 b).2.1 := nm_by (fun a => (TX6 a).2.1) (nm_iv [411635779659129, 6030319980, 6047102322, 389662626509413, 6265464164]) (by decide +kernel)
theorem tyX6_ok : ∀ k, k < 5 → parseFieldDescriptor (TX6 k).2.2.1 = some (tyX6 k) := by decide +kernel
abbrev cX6_init : ByteArray := prog_8_method_1_code
def yX6_init : MethodName := ⟨RX6, "<init>", "()V"⟩
abbrev cX6_fewestLines : ByteArray := prog_8_method_2_code
def yX6_fewestLines : MethodName := ⟨RX6, "fewestLines", "(LNoonValley$Valley;III)I"⟩
abbrev cX6_choose : ByteArray := prog_8_method_3_code
def yX6_choose : MethodName := ⟨RX6, "choose", "(III)I"⟩
abbrev cX6_flood : ByteArray := prog_8_method_4_code
def yX6_flood : MethodName := ⟨RX6, "flood", "(IIII)I"⟩
abbrev cX6_across : ByteArray := prog_8_method_5_code
def yX6_across : MethodName := ⟨RX6, "across", "(II)I"⟩
def RX7 : String := "NoonValley$Spreading"
def TX7 : u_T := fun k => match k with
  | 0 => ("NoonValley$Spreading", "rows", "LNoonValley$Rows;", true)
  | 1 => ("NoonValley$Spreading", "people", "I", false)
  | 2 => ("NoonValley$Spreading", "deaf", "I", false)
  | 3 => ("NoonValley$Spreading", "takingPart", "I", false)
  | 4 => ("NoonValley$Spreading", "must", "I", false)
  | 5 => ("NoonValley$Spreading", "callable", "[I", true)
  | 6 => ("NoonValley$Spreading", "powers", "[I", true)
  | 7 => ("NoonValley$Spreading", "stateAt", "[I", true)
  | 8 => ("NoonValley$Spreading", "comeTo", "[I", true)
  | 9 => ("NoonValley$Spreading", "good", "[I", true)
  | 10 => ("NoonValley$Spreading", "now", "[I", false)
  | 11 => ("NoonValley$Spreading", "next", "[I", false)
  | 12 => ("NoonValley$Spreading", "nowCount", "I", false)
  | 13 => ("NoonValley$Spreading", "nextCount", "I", false)
  | 14 => ("NoonValley$Spreading", "addedA", "I", false)
  | 15 => ("NoonValley$Spreading", "addedB", "I", false)
  | _ => ("NoonValley$Spreading", "spared", "I", false)
def tyX7 : Nat → FieldType := fun k => match k with
  | 0 => .object "NoonValley$Rows"
  | 1 => .int
  | 2 => .int
  | 3 => .int
  | 4 => .int
  | 5 => .array .int
  | 6 => .array .int
  | 7 => .array .int
  | 8 => .array .int
  | 9 => .array .int
  | 10 => .array .int
  | 11 => .array .int
  | 12 => .int
  | 13 => .int
  | 14 => .int
  | 15 => .int
  | _ => .int
theorem nmX7 : ∀ a, a < 17 → ∀ b, b < 17 → a ≠ b → (TX7 a).2.1 ≠ (TX7 b).2.1 := nm_by (fun a => (TX7 a).2.1) (nm_iv [6214874995, 405055940357221, 5979332966, 1758517405641482468160116, 6131381108, 25607868168951458917, 405099023528563, 104555178273096052, 390805204587631, 6030323556, 24014711, 6147111028, 26404454271812988532, 6758820052805713489524, 388558785700929, 388558785700930, 408401485129060]) (by decide +kernel)
theorem tyX7_ok : ∀ k, k < 17 → parseFieldDescriptor (TX7 k).2.2.1 = some (tyX7 k) := by decide +kernel
abbrev cX7_init : ByteArray := prog_9_method_1_code
def yX7_init : MethodName := ⟨RX7, "<init>", "()V"⟩
abbrev cX7_state : ByteArray := prog_9_method_2_code
def yX7_state : MethodName := ⟨RX7, "state", "(II)I"⟩
abbrev cX7_knownIn : ByteArray := prog_9_method_3_code
def yX7_knownIn : MethodName := ⟨RX7, "knownIn", "(I)I"⟩
abbrev cX7_onceIn : ByteArray := prog_9_method_4_code
def yX7_onceIn : MethodName := ⟨RX7, "onceIn", "(I)I"⟩
abbrev cX7_placeOf : ByteArray := prog_9_method_5_code
def yX7_placeOf : MethodName := ⟨RX7, "placeOf", "(I)I"⟩
abbrev cX7_prepare : ByteArray := prog_9_method_6_code
def yX7_prepare : MethodName := ⟨RX7, "prepare", "(LNoonValley$Valley;I)V"⟩
abbrev cX7_openLine : ByteArray := prog_9_method_7_code
def yX7_openLine : MethodName := ⟨RX7, "openLine", "(II)V"⟩
abbrev cX7_leastHours : ByteArray := prog_9_method_8_code
def yX7_leastHours : MethodName := ⟨RX7, "leastHours", "(III)I"⟩
abbrev cX7_isDone : ByteArray := prog_9_method_9_code
def yX7_isDone : MethodName := ⟨RX7, "isDone", "(I)Z"⟩
abbrev cX7_isDoneInOne : ByteArray := prog_9_method_10_code
def yX7_isDoneInOne : MethodName := ⟨RX7, "isDoneInOne", "()Z"⟩
abbrev cX7_begin : ByteArray := prog_9_method_11_code
def yX7_begin : MethodName := ⟨RX7, "begin", "(II)V"⟩
abbrev cX7_swap : ByteArray := prog_9_method_12_code
def yX7_swap : MethodName := ⟨RX7, "swap", "()V"⟩
abbrev cX7_arrive : ByteArray := prog_9_method_13_code
def yX7_arrive : MethodName := ⟨RX7, "arrive", "(II)V"⟩
abbrev cX7_arriveByAll : ByteArray := prog_9_method_14_code
def yX7_arriveByAll : MethodName := ⟨RX7, "arriveByAll", "(III)V"⟩
abbrev cX7_findRows : ByteArray := prog_9_method_15_code
def yX7_findRows : MethodName := ⟨RX7, "findRows", "(III)V"⟩
abbrev cX7_stateAfter : ByteArray := prog_9_method_16_code
def yX7_stateAfter : MethodName := ⟨RX7, "stateAfter", "(II)I"⟩
abbrev cX7_understands : ByteArray := prog_9_method_17_code
def yX7_understands : MethodName := ⟨RX7, "understands", "(I)I"⟩
abbrev cX7_comeToBy : ByteArray := prog_9_method_18_code
def yX7_comeToBy : MethodName := ⟨RX7, "comeToBy", "(III)I"⟩
abbrev cX7_comeToAfter : ByteArray := prog_9_method_19_code
def yX7_comeToAfter : MethodName := ⟨RX7, "comeToAfter", "(II)I"⟩
abbrev cX7_upperEnd : ByteArray := prog_9_method_20_code
def yX7_upperEnd : MethodName := ⟨RX7, "upperEnd", "(III)I"⟩
abbrev cX7_lowestRow : ByteArray := prog_9_method_21_code
def yX7_lowestRow : MethodName := ⟨RX7, "lowestRow", "(III)I"⟩
abbrev cX7_markGood : ByteArray := prog_9_method_22_code
def yX7_markGood : MethodName := ⟨RX7, "markGood", "(II)V"⟩
abbrev cX7_lowestGood : ByteArray := prog_9_method_23_code
def yX7_lowestGood : MethodName := ⟨RX7, "lowestGood", "(III)I"⟩
abbrev cX7_findAdded : ByteArray := prog_9_method_24_code
def yX7_findAdded : MethodName := ⟨RX7, "findAdded", "(LNoonValley$Valley;I)Z"⟩
abbrev cX7_hoursFromFirst : ByteArray := prog_9_method_25_code
def yX7_hoursFromFirst : MethodName := ⟨RX7, "hoursFromFirst", "(I)I"⟩
abbrev cX7_canHaveBegun : ByteArray := prog_9_method_26_code
def yX7_canHaveBegun : MethodName := ⟨RX7, "canHaveBegun", "(LNoonValley$Valley;II)Z"⟩
abbrev cX7_spreadAsTold : ByteArray := prog_9_method_27_code
def yX7_spreadAsTold : MethodName := ⟨RX7, "spreadAsTold", "(IIII)V"⟩
def RX8 : String := "NoonValley$Tape"
def TX8 : u_T := fun k => match k with
  | 0 => ("NoonValley$Tape", "bytes", "[I", true)
  | 1 => ("NoonValley$Tape", "length", "I", false)
  | _ => ("NoonValley$Tape", "place", "I", false)
def tyX8 : Nat → FieldType := fun k => match k with
  | 0 => .array .int
  | 1 => .int
  | _ => .int
theorem nmX8 : ∀ a, a < 3 → ∀ b, b < 3 → a ≠ b → (TX8 a).2.1 ≠ (TX8 b).2.1 := nm_by (fun a => (TX8 a).2.1) (nm_iv [1522456094067, 400657876481128, 1582366286693]) (by decide +kernel)
theorem tyX8_ok : ∀ k, k < 3 → parseFieldDescriptor (TX8 k).2.2.1 = some (tyX8 k) := by decide +kernel
abbrev cX8_init : ByteArray := prog_10_method_1_code
def yX8_init : MethodName := ⟨RX8, "<init>", "()V"⟩
abbrev cX8_append : ByteArray := prog_10_method_2_code
def yX8_append : MethodName := ⟨RX8, "append", "(IIIII)I"⟩
abbrev cX8_cut : ByteArray := prog_10_method_3_code
def yX8_cut : MethodName := ⟨RX8, "cut", "(I)Z"⟩
abbrev cX8_at : ByteArray := prog_10_method_4_code
def yX8_at : MethodName := ⟨RX8, "at", "(I)I"⟩
abbrev cX8_bytesIn : ByteArray := prog_10_method_5_code
def yX8_bytesIn : MethodName := ⟨RX8, "bytesIn", "(I)I"⟩
abbrev cX8_appendNumber : ByteArray := prog_10_method_6_code
def yX8_appendNumber : MethodName := ⟨RX8, "appendNumber", "(I)V"⟩
abbrev cX8_read : ByteArray := prog_10_method_7_code
def yX8_read : MethodName := ⟨RX8, "read", "(LNoonValley$Valley;)I"⟩
abbrev cX8_skipBlanks : ByteArray := prog_10_method_8_code
def yX8_skipBlanks : MethodName := ⟨RX8, "skipBlanks", "()V"⟩
abbrev cX8_statement : ByteArray := prog_10_method_9_code
def yX8_statement : MethodName := ⟨RX8, "statement", "(LNoonValley$Valley;)Z"⟩
abbrev cX8_lineOf : ByteArray := prog_10_method_10_code
def yX8_lineOf : MethodName := ⟨RX8, "lineOf", "(LNoonValley$Valley;I)Z"⟩
abbrev cX8_newsOf : ByteArray := prog_10_method_11_code
def yX8_newsOf : MethodName := ⟨RX8, "newsOf", "(LNoonValley$Valley;[I)Z"⟩
abbrev cX8_deafOne : ByteArray := prog_10_method_12_code
def yX8_deafOne : MethodName := ⟨RX8, "deafOne", "(LNoonValley$Valley;)Z"⟩
abbrev cX8_number : ByteArray := prog_10_method_13_code
def yX8_number : MethodName := ⟨RX8, "number", "(III)I"⟩
abbrev cX8_isDigit : ByteArray := prog_10_method_14_code
def yX8_isDigit : MethodName := ⟨RX8, "isDigit", "(I)Z"⟩
def RX9 : String := "NoonValley$Trade"
def TX9 : u_T := fun k => match k with
  | 0 => ("NoonValley$Trade", "now", "[I", false)
  | 1 => ("NoonValley$Trade", "next", "[I", false)
  | _ => ("NoonValley$Trade", "open", "[Z", true)
def tyX9 : Nat → FieldType := fun k => match k with
  | 0 => .array .int
  | 1 => .array .int
  | _ => .array .boolean
theorem nmX9 : ∀ a, a < 3 → ∀ b, b < 3 → a ≠ b → (TX9 a).2.1 ≠ (TX9 b).2.1 := nm_by (fun a => (TX9 a).2.1) (nm_iv [24014711, 6147111028, 6164604270]) (by decide +kernel)
theorem tyX9_ok : ∀ k, k < 3 → parseFieldDescriptor (TX9 k).2.2.1 = some (tyX9 k) := by decide +kernel
abbrev cX9_init : ByteArray := prog_11_method_1_code
def yX9_init : MethodName := ⟨RX9, "<init>", "()V"⟩
abbrev cX9_fewestCalls : ByteArray := prog_11_method_2_code
def yX9_fewestCalls : MethodName := ⟨RX9, "fewestCalls", "(LNoonValley$Valley;I)I"⟩
abbrev cX9_lookAtLines : ByteArray := prog_11_method_3_code
def yX9_lookAtLines : MethodName := ⟨RX9, "lookAtLines", "(LNoonValley$Valley;I)V"⟩
abbrev cX9_goOn : ByteArray := prog_11_method_4_code
def yX9_goOn : MethodName := ⟨RX9, "goOn", "(II)V"⟩
abbrev cX9_improve : ByteArray := prog_11_method_5_code
def yX9_improve : MethodName := ⟨RX9, "improve", "(II)V"⟩
abbrev cX9_join : ByteArray := prog_11_method_6_code
def yX9_join : MethodName := ⟨RX9, "join", "(II)I"⟩
abbrev cX9_goal : ByteArray := prog_11_method_7_code
def yX9_goal : MethodName := ⟨RX9, "goal", "(LNoonValley$Valley;)I"⟩
abbrev cX9_placeOf : ByteArray := prog_11_method_8_code
def yX9_placeOf : MethodName := ⟨RX9, "placeOf", "(I)I"⟩
abbrev cX9_stateAt : ByteArray := prog_11_method_9_code
def yX9_stateAt : MethodName := ⟨RX9, "stateAt", "(I)I"⟩
def RX10 : String := "NoonValley$Valley"
def TX10 : u_T := fun k => match k with
  | 0 => ("NoonValley$Valley", "people", "I", false)
  | 1 => ("NoonValley$Valley", "lineCount", "I", false)
  | 2 => ("NoonValley$Valley", "deaf", "I", false)
  | 3 => ("NoonValley$Valley", "knows", "[I", true)
  | 4 => ("NoonValley$Valley", "must", "[I", true)
  | 5 => ("NoonValley$Valley", "mustNot", "[I", true)
  | 6 => ("NoonValley$Valley", "firstNews", "[I", true)
  | 7 => ("NoonValley$Valley", "mustNews", "[I", true)
  | 8 => ("NoonValley$Valley", "mustNotNews", "[I", true)
  | 9 => ("NoonValley$Valley", "lines", "[I", true)
  | 10 => ("NoonValley$Valley", "callable", "[I", true)
  | 11 => ("NoonValley$Valley", "cards", "[I", true)
  | 12 => ("NoonValley$Valley", "cardLength", "[I", true)
  | 13 => ("NoonValley$Valley", "tales", "[I", true)
  | 14 => ("NoonValley$Valley", "gossipLength", "I", false)
  | _ => ("NoonValley$Valley", "gossipLines", "[I", true)
def tyX10 : Nat → FieldType := fun k => match k with
  | 0 => .int
  | 1 => .int
  | 2 => .int
  | 3 => .array .int
  | 4 => .array .int
  | 5 => .array .int
  | 6 => .array .int
  | 7 => .array .int
  | 8 => .array .int
  | 9 => .array .int
  | 10 => .array .int
  | 11 => .array .int
  | 12 => .array .int
  | 13 => .array .int
  | 14 => .int
  | _ => .array .int
theorem nmX10 : ∀ a, a < 16 → ∀ b, b < 16 → a ≠ b → (TX10 a).2.1 ≠ (TX10 b).2.1 := nm_by (fun a => (TX10 a).2.1) (nm_iv [405055940357221, 6722211963792004574836, 5979332966, 1560925927283, 6131381108, 102867505232375668, 6611532640852715599731, 26334081339487516531, 441812570794162375761426291, 1565136938355, 25607868168951458917, 1526348276851, 1678237678391090399900776, 1599362327923, 111239854492958858566288503912, 434530681613120541341672819]) (by decide +kernel)
theorem tyX10_ok : ∀ k, k < 16 → parseFieldDescriptor (TX10 k).2.2.1 = some (tyX10 k) := by decide +kernel
abbrev cX10_init : ByteArray := prog_12_method_1_code
def yX10_init : MethodName := ⟨RX10, "<init>", "()V"⟩
abbrev cX10_forget : ByteArray := prog_12_method_2_code
def yX10_forget : MethodName := ⟨RX10, "forget", "()V"⟩
abbrev cX10_settle : ByteArray := prog_12_method_3_code
def yX10_settle : MethodName := ⟨RX10, "settle", "()V"⟩
abbrev cX10_newsOfOne : ByteArray := prog_12_method_4_code
def yX10_newsOfOne : MethodName := ⟨RX10, "newsOfOne", "([II)I"⟩
abbrev cX10_hasPerson : ByteArray := prog_12_method_5_code
def yX10_hasPerson : MethodName := ⟨RX10, "hasPerson", "(I)Z"⟩
abbrev cX10_hasCouple : ByteArray := prog_12_method_6_code
def yX10_hasCouple : MethodName := ⟨RX10, "hasCouple", "(II)Z"⟩
abbrev cX10_everyone : ByteArray := prog_12_method_7_code
def yX10_everyone : MethodName := ⟨RX10, "everyone", "()I"⟩
abbrev cX10_hasRoomForLine : ByteArray := prog_12_method_8_code
def yX10_hasRoomForLine : MethodName := ⟨RX10, "hasRoomForLine", "()Z"⟩
abbrev cX10_appendLine : ByteArray := prog_12_method_9_code
def yX10_appendLine : MethodName := ⟨RX10, "appendLine", "(IIIII)V"⟩
abbrev cX10_hasLine : ByteArray := prog_12_method_10_code
def yX10_hasLine : MethodName := ⟨RX10, "hasLine", "(I)Z"⟩
abbrev cX10_lineFact : ByteArray := prog_12_method_11_code
def yX10_lineFact : MethodName := ⟨RX10, "lineFact", "(II)I"⟩
abbrev cX10_lineA : ByteArray := prog_12_method_12_code
def yX10_lineA : MethodName := ⟨RX10, "lineA", "(I)I"⟩
abbrev cX10_lineB : ByteArray := prog_12_method_13_code
def yX10_lineB : MethodName := ⟨RX10, "lineB", "(I)I"⟩
abbrev cX10_isOneWay : ByteArray := prog_12_method_14_code
def yX10_isOneWay : MethodName := ⟨RX10, "isOneWay", "(I)Z"⟩
abbrev cX10_isOpen : ByteArray := prog_12_method_15_code
def yX10_isOpen : MethodName := ⟨RX10, "isOpen", "(II)Z"⟩
abbrev cX10_works : ByteArray := prog_12_method_16_code
def yX10_works : MethodName := ⟨RX10, "works", "(II)Z"⟩
abbrev cX10_setDown : ByteArray := prog_12_method_17_code
def yX10_setDown : MethodName := ⟨RX10, "setDown", "(II)V"⟩
abbrev cX10_lookAtLines : ByteArray := prog_12_method_18_code
def yX10_lookAtLines : MethodName := ⟨RX10, "lookAtLines", "()V"⟩
abbrev cX10_callable : ByteArray := prog_12_method_19_code
def yX10_callable : MethodName := ⟨RX10, "callable", "(II)I"⟩
abbrev cX10_hasLineBetween : ByteArray := prog_12_method_20_code
def yX10_hasLineBetween : MethodName := ⟨RX10, "hasLineBetween", "(II)Z"⟩
abbrev cX10_neighbours : ByteArray := prog_12_method_21_code
def yX10_neighbours : MethodName := ⟨RX10, "neighbours", "(I)I"⟩
abbrev cX10_twoWayLines : ByteArray := prog_12_method_22_code
def yX10_twoWayLines : MethodName := ⟨RX10, "twoWayLines", "()I"⟩
abbrev cX10_holdsTogether : ByteArray := prog_12_method_23_code
def yX10_holdsTogether : MethodName := ⟨RX10, "holdsTogether", "()Z"⟩
abbrev cX10_appendToCard : ByteArray := prog_12_method_24_code
def yX10_appendToCard : MethodName := ⟨RX10, "appendToCard", "(II)I"⟩
abbrev cX10_emptyCards : ByteArray := prog_12_method_25_code
def yX10_emptyCards : MethodName := ⟨RX10, "emptyCards", "()V"⟩
abbrev cX10_nextOnCard : ByteArray := prog_12_method_26_code
def yX10_nextOnCard : MethodName := ⟨RX10, "nextOnCard", "(II)I"⟩
abbrev cX10_setTale : ByteArray := prog_12_method_27_code
def yX10_setTale : MethodName := ⟨RX10, "setTale", "(III)V"⟩
abbrev cX10_taleOf : ByteArray := prog_12_method_28_code
def yX10_taleOf : MethodName := ⟨RX10, "taleOf", "(II)I"⟩
abbrev cX10_whoseTaleIs : ByteArray := prog_12_method_29_code
def yX10_whoseTaleIs : MethodName := ⟨RX10, "whoseTaleIs", "(II)I"⟩
abbrev cX10_whoHasTale : ByteArray := prog_12_method_30_code
def yX10_whoHasTale : MethodName := ⟨RX10, "whoHasTale", "(I)I"⟩
def RX11 : String := "NoonValley"
def TX11 : u_T := fun k => match k with
  | 0 => ("NoonValley", "tape", "LNoonValley$Tape;", true)
  | 1 => ("NoonValley", "valleys", "[LNoonValley$Valley;", true)
  | 2 => ("NoonValley", "plans", "[LNoonValley$Plan;", true)
  | 3 => ("NoonValley", "carrying", "LNoonValley$Carrying;", true)
  | 4 => ("NoonValley", "spreading", "LNoonValley$Spreading;", true)
  | 5 => ("NoonValley", "shutting", "LNoonValley$Shutting;", true)
  | 6 => ("NoonValley", "gossip", "LNoonValley$Gossip;", true)
  | 7 => ("NoonValley", "trade", "LNoonValley$Trade;", true)
  | 8 => ("NoonValley", "cards", "LNoonValley$Cards;", true)
  | 9 => ("NoonValley", "chance", "LNoonValley$Chance;", true)
  | 10 => ("NoonValley", "spare", "LNoonValley$Valley;", false)
  | 11 => ("NoonValley", "valleyCount", "I", false)
  | 12 => ("NoonValley", "planCount", "I", false)
  | _ => ("NoonValley", "callCount", "I", false)
def tyX11 : Nat → FieldType := fun k => match k with
  | 0 => .object "NoonValley$Tape"
  | 1 => .array (.object "NoonValley$Valley")
  | 2 => .array (.object "NoonValley$Plan")
  | 3 => .object "NoonValley$Carrying"
  | 4 => .object "NoonValley$Spreading"
  | 5 => .object "NoonValley$Shutting"
  | 6 => .object "NoonValley$Gossip"
  | 7 => .object "NoonValley$Trade"
  | 8 => .object "NoonValley$Cards"
  | 9 => .object "NoonValley$Chance"
  | 10 => .object "NoonValley$Valley"
  | 11 => .int
  | 12 => .int
  | _ => .int
theorem nmX11 : ∀ a, a < 14 → ∀ b, b < 14 → a ≠ b → (TX11 a).2.1 ≠ (TX11 b).2.1 := nm_by (fun a => (TX11 a).2.1) (nm_iv [6247510117, 105378759592737139, 1582366289523, 25607874792194141799, 6851844701494807457383, 26762769928678895207, 395203352684912, 1599646819429, 1526348276851, 390774939083621, 1595318301285, 452598326143852086841142900, 6796211463589863976564, 6555614251122943159924]) (by decide +kernel)
theorem tyX11_ok : ∀ k, k < 14 → parseFieldDescriptor (TX11 k).2.2.1 = some (tyX11 k) := by decide +kernel
abbrev cX11_init : ByteArray := prog_1_method_1_code
def yX11_init : MethodName := ⟨RX11, "<init>", "()V"⟩
abbrev cX11_feed : ByteArray := prog_1_method_2_code
def yX11_feed : MethodName := ⟨RX11, "feed", "(IIIII)I"⟩
abbrev cX11_end : ByteArray := prog_1_method_3_code
def yX11_end : MethodName := ⟨RX11, "end", "(I)Z"⟩
abbrev cX11_fault : ByteArray := prog_1_method_4_code
def yX11_fault : MethodName := ⟨RX11, "fault", "()I"⟩
abbrev cX11_valley : ByteArray := prog_1_method_5_code
def yX11_valley : MethodName := ⟨RX11, "valley", "()I"⟩
abbrev cX11_told : ByteArray := prog_1_method_6_code
def yX11_told : MethodName := ⟨RX11, "told", "(II)I"⟩
abbrev cX11_line : ByteArray := prog_1_method_7_code
def yX11_line : MethodName := ⟨RX11, "line", "(III)I"⟩
abbrev cX11_down : ByteArray := prog_1_method_8_code
def yX11_down : MethodName := ⟨RX11, "down", "(III)Z"⟩
abbrev cX11_may : ByteArray := prog_1_method_9_code
def yX11_may : MethodName := ⟨RX11, "may", "(IIII)I"⟩
abbrev cX11_plan : ByteArray := prog_1_method_10_code
def yX11_plan : MethodName := ⟨RX11, "plan", "(I)I"⟩
abbrev cX11_call : ByteArray := prog_1_method_11_code
def yX11_call : MethodName := ⟨RX11, "call", "(IIIII)I"⟩
abbrev cX11_lawful : ByteArray := prog_1_method_12_code
def yX11_lawful : MethodName := ⟨RX11, "lawful", "(II)I"⟩
abbrev cX11_unlawful : ByteArray := prog_1_method_13_code
def yX11_unlawful : MethodName := ⟨RX11, "unlawful", "(I)I"⟩
abbrev cX11_known : ByteArray := prog_1_method_14_code
def yX11_known : MethodName := ⟨RX11, "known", "(III)I"⟩
abbrev cX11_together : ByteArray := prog_1_method_15_code
def yX11_together : MethodName := ⟨RX11, "together", "(III)I"⟩
abbrev cX11_when : ByteArray := prog_1_method_16_code
def yX11_when : MethodName := ⟨RX11, "when", "(II)I"⟩
abbrev cX11_least : ByteArray := prog_1_method_17_code
def yX11_least : MethodName := ⟨RX11, "least", "(III)I"⟩
abbrev cX11_found : ByteArray := prog_1_method_18_code
def yX11_found : MethodName := ⟨RX11, "found", "(IIIII)I"⟩
abbrev cX11_reach : ByteArray := prog_1_method_19_code
def yX11_reach : MethodName := ⟨RX11, "reach", "(IIII)I"⟩
abbrev cX11_from : ByteArray := prog_1_method_20_code
def yX11_from : MethodName := ⟨RX11, "from", "(III)I"⟩
abbrev cX11_added : ByteArray := prog_1_method_21_code
def yX11_added : MethodName := ⟨RX11, "added", "(III)I"⟩
abbrev cX11_shut : ByteArray := prog_1_method_22_code
def yX11_shut : MethodName := ⟨RX11, "shut", "(IIII)I"⟩
abbrev cX11_fewest : ByteArray := prog_1_method_23_code
def yX11_fewest : MethodName := ⟨RX11, "fewest", "(I)I"⟩
abbrev cX11_gossip : ByteArray := prog_1_method_24_code
def yX11_gossip : MethodName := ⟨RX11, "gossip", "(II)I"⟩
abbrev cX11_ends : ByteArray := prog_1_method_25_code
def yX11_ends : MethodName := ⟨RX11, "ends", "(II)I"⟩
abbrev cX11_trade : ByteArray := prog_1_method_26_code
def yX11_trade : MethodName := ⟨RX11, "trade", "(III)I"⟩
abbrev cX11_card : ByteArray := prog_1_method_27_code
def yX11_card : MethodName := ⟨RX11, "card", "(III)I"⟩
abbrev cX11_blank : ByteArray := prog_1_method_28_code
def yX11_blank : MethodName := ⟨RX11, "blank", "(I)Z"⟩
abbrev cX11_kept : ByteArray := prog_1_method_29_code
def yX11_kept : MethodName := ⟨RX11, "kept", "(II)I"⟩
abbrev cX11_tree : ByteArray := prog_1_method_30_code
def yX11_tree : MethodName := ⟨RX11, "tree", "(IIII)I"⟩
abbrev cX11_breaks : ByteArray := prog_1_method_31_code
def yX11_breaks : MethodName := ⟨RX11, "breaks", "(II)I"⟩
abbrev cX11_breaker : ByteArray := prog_1_method_32_code
def yX11_breaker : MethodName := ⟨RX11, "breaker", "(I)I"⟩
abbrev cX11_ways : ByteArray := prog_1_method_33_code
def yX11_ways : MethodName := ⟨RX11, "ways", "(III)J"⟩
abbrev cX11_drawn : ByteArray := prog_1_method_34_code
def yX11_drawn : MethodName := ⟨RX11, "drawn", "(IIJ)I"⟩
abbrev cX11_tale : ByteArray := prog_1_method_35_code
def yX11_tale : MethodName := ⟨RX11, "tale", "(IIII)Z"⟩
abbrev cX11_who : ByteArray := prog_1_method_36_code
def yX11_who : MethodName := ⟨RX11, "who", "(II)I"⟩
abbrev cX11_fits : ByteArray := prog_1_method_37_code
def yX11_fits : MethodName := ⟨RX11, "fits", "(II)I"⟩
abbrev cX11_count : ByteArray := prog_1_method_38_code
def yX11_count : MethodName := ⟨RX11, "count", "(I)I"⟩
abbrev cX11_valleyAt : ByteArray := prog_1_method_39_code
def yX11_valleyAt : MethodName := ⟨RX11, "valleyAt", "(I)LNoonValley$Valley;"⟩
abbrev cX11_planAt : ByteArray := prog_1_method_40_code
def yX11_planAt : MethodName := ⟨RX11, "planAt", "(I)LNoonValley$Plan;"⟩
abbrev cX11_isHour : ByteArray := prog_1_method_41_code
def yX11_isHour : MethodName := ⟨RX11, "isHour", "(I)Z"⟩
abbrev cX11_isHourOrFirst : ByteArray := prog_1_method_42_code
def yX11_isHourOrFirst : MethodName := ⟨RX11, "isHourOrFirst", "(I)Z"⟩
abbrev cX11_isNews : ByteArray := prog_1_method_43_code
def yX11_isNews : MethodName := ⟨RX11, "isNews", "(I)Z"⟩
abbrev cX11_has : ByteArray := prog_1_method_44_code
def yX11_has : MethodName := ⟨RX11, "has", "(II)Z"⟩
abbrev cX11_lowestOf : ByteArray := prog_1_method_45_code
def yX11_lowestOf : MethodName := ⟨RX11, "lowestOf", "(I)I"⟩
def RX12 : String := "NoonValleyModel"
def TX12 : u_T := fun k => match k with
  | 0 => ("NoonValleyModel", "thrown", "I", false)
  | 1 => ("NoonValleyModel", "tape", "[B", true)
  | 2 => ("NoonValleyModel", "length", "I", false)
  | 3 => ("NoonValleyModel", "at", "I", false)
  | 4 => ("NoonValleyModel", "fault", "I", false)
  | 5 => ("NoonValleyModel", "number", "I", false)
  | 6 => ("NoonValleyModel", "people", "[I", true)
  | 7 => ("NoonValleyModel", "lines", "[I", true)
  | 8 => ("NoonValleyModel", "deaf", "[I", true)
  | 9 => ("NoonValleyModel", "knows", "[I", true)
  | 10 => ("NoonValleyModel", "musts", "[I", true)
  | 11 => ("NoonValleyModel", "mustNots", "[I", true)
  | 12 => ("NoonValleyModel", "lineA", "[I", true)
  | 13 => ("NoonValleyModel", "lineB", "[I", true)
  | 14 => ("NoonValleyModel", "lineF", "[I", true)
  | 15 => ("NoonValleyModel", "lineT", "[I", true)
  | 16 => ("NoonValleyModel", "lineDown", "[I", true)
  | 17 => ("NoonValleyModel", "isOne", "[Z", true)
  | 18 => ("NoonValleyModel", "valleys", "I", false)
  | 19 => ("NoonValleyModel", "moreA", "I", false)
  | 20 => ("NoonValleyModel", "moreB", "I", false)
  | 21 => ("NoonValleyModel", "planOf", "[I", true)
  | 22 => ("NoonValleyModel", "calls", "[I", true)
  | 23 => ("NoonValleyModel", "callHour", "[I", true)
  | 24 => ("NoonValleyModel", "callKind", "[I", true)
  | 25 => ("NoonValleyModel", "callOne", "[I", true)
  | 26 => ("NoonValleyModel", "callOther", "[I", true)
  | 27 => ("NoonValleyModel", "plans", "I", false)
  | 28 => ("NoonValleyModel", "law", "[I", true)
  | 29 => ("NoonValleyModel", "reached", "[I", true)
  | 30 => ("NoonValleyModel", "after", "[I", true)
  | 31 => ("NoonValleyModel", "once", "[I", true)
  | 32 => ("NoonValleyModel", "fresh", "[I", true)
  | 33 => ("NoonValleyModel", "twice", "[I", true)
  | 34 => ("NoonValleyModel", "need", "[B", true)
  | 35 => ("NoonValleyModel", "row", "[I", true)
  | 36 => ("NoonValleyModel", "lowRow", "[I", true)
  | 37 => ("NoonValleyModel", "askValley", "I", false)
  | 38 => ("NoonValleyModel", "askMust", "I", false)
  | 39 => ("NoonValleyModel", "askNot", "I", false)
  | 40 => ("NoonValleyModel", "bestNeed", "I", false)
  | 41 => ("NoonValleyModel", "askHour", "I", false)
  | 42 => ("NoonValleyModel", "askWanted", "I", false)
  | 43 => ("NoonValleyModel", "findsRow", "Z", false)
  | 44 => ("NoonValleyModel", "nextKnow", "I", false)
  | 45 => ("NoonValleyModel", "nextOnce", "I", false)
  | 46 => ("NoonValleyModel", "things", "[I", true)
  | 47 => ("NoonValleyModel", "gossipRow", "[I", true)
  | 48 => ("NoonValleyModel", "isLower", "[Z", true)
  | 49 => ("NoonValleyModel", "cost", "[I", true)
  | 50 => ("NoonValleyModel", "costNext", "[I", true)
  | 51 => ("NoonValleyModel", "tradeCosts", "[I", true)
  | 52 => ("NoonValleyModel", "cards", "[I", true)
  | 53 => ("NoonValleyModel", "cardLong", "[I", true)
  | 54 => ("NoonValleyModel", "gone", "[I", true)
  | 55 => ("NoonValleyModel", "below", "[I", true)
  | 56 => ("NoonValleyModel", "belowMany", "[I", true)
  | 57 => ("NoonValleyModel", "time", "[I", true)
  | 58 => ("NoonValleyModel", "broken", "[I", true)
  | 59 => ("NoonValleyModel", "ways", "[J", true)
  | 60 => ("NoonValleyModel", "waysNext", "[J", true)
  | 61 => ("NoonValleyModel", "tales", "[I", true)
  | 62 => ("NoonValleyModel", "can", "[Z", true)
  | _ => ("NoonValleyModel", "canNext", "[Z", true)
def tyX12 : Nat → FieldType := fun k => match k with
  | 0 => .int
  | 1 => .array .byte
  | 2 => .int
  | 3 => .int
  | 4 => .int
  | 5 => .int
  | 6 => .array .int
  | 7 => .array .int
  | 8 => .array .int
  | 9 => .array .int
  | 10 => .array .int
  | 11 => .array .int
  | 12 => .array .int
  | 13 => .array .int
  | 14 => .array .int
  | 15 => .array .int
  | 16 => .array .int
  | 17 => .array .boolean
  | 18 => .int
  | 19 => .int
  | 20 => .int
  | 21 => .array .int
  | 22 => .array .int
  | 23 => .array .int
  | 24 => .array .int
  | 25 => .array .int
  | 26 => .array .int
  | 27 => .int
  | 28 => .array .int
  | 29 => .array .int
  | 30 => .array .int
  | 31 => .array .int
  | 32 => .array .int
  | 33 => .array .int
  | 34 => .array .byte
  | 35 => .array .int
  | 36 => .array .int
  | 37 => .int
  | 38 => .int
  | 39 => .int
  | 40 => .int
  | 41 => .int
  | 42 => .int
  | 43 => .boolean
  | 44 => .int
  | 45 => .int
  | 46 => .array .int
  | 47 => .array .int
  | 48 => .array .boolean
  | 49 => .array .int
  | 50 => .array .int
  | 51 => .array .int
  | 52 => .array .int
  | 53 => .array .int
  | 54 => .array .int
  | 55 => .array .int
  | 56 => .array .int
  | 57 => .array .int
  | 58 => .array .int
  | 59 => .array .long
  | 60 => .array .long
  | 61 => .array .int
  | 62 => .array .boolean
  | _ => .array .boolean
theorem nmX12 : ∀ a, a < 64 → ∀ b, b < 64 → a ≠ b → (TX12 a).2.1 ≠ (TX12 b).2.1 := nm_by (fun a => (TX12 a).2.1) (nm_iv [409466922039150, 6247510117, 400657876481128, 90484, 1539233377396, 402925602104690, 405055940357221, 1565136938355, 5979332966, 1560925927283, 1569633563763, 26334081339488171123, 1565136938305, 1565136938306, 1565136938310, 1565136938324, 26258640483579295598, 1552417779301, 105378759592737139, 1569532831041, 1569532831042, 405085770108774, 1526347885683, 25607868168532882802, 25607868168582819428, 100030735033790053, 6555614251174565799282, 1582366289523, 23880055, 104257210336961892, 1517842359666, 6164472677, 1539517543272, 1599731229541, 6147106148, 24276855, 400700975771511, 6520017494132772332921, 99487571477099380, 388623326146420, 25536944205442934116, 99487571392820594, 6520017495232318039396, 25826294915843387255, 26401640831406468983, 26401640831473574757, 409466770974579, 6630412011918953967479, 101739238717351282, 5963215732, 25611816549247973492, 1758830278297370565506163, 1526348276851, 25607874731310018151, 6030323301, 1522120028023, 6537455740946686766713, 6248033637, 389718611813742, 6297844083, 27049034373107382388, 1599362327923, 23290222, 100030743121852532]) (by decide +kernel)
theorem tyX12_ok : ∀ k, k < 64 → parseFieldDescriptor (TX12 k).2.2.1 = some (tyX12 k) := by decide +kernel
abbrev cX12_init : ByteArray := prog_14_method_1_code
def yX12_init : MethodName := ⟨RX12, "<init>", "()V"⟩
abbrev cX12_isIn : ByteArray := prog_14_method_3_code
def yX12_isIn : MethodName := ⟨RX12, "isIn", "(III)Z"⟩
abbrev cX12_bytesIn : ByteArray := prog_14_method_4_code
def yX12_bytesIn : MethodName := ⟨RX12, "bytesIn", "(I)I"⟩
abbrev cX12_put : ByteArray := prog_14_method_5_code
def yX12_put : MethodName := ⟨RX12, "put", "(I)V"⟩
abbrev cX12_feed : ByteArray := prog_14_method_6_code
def yX12_feed : MethodName := ⟨RX12, "feed", "(IIIII)I"⟩
abbrev cX12_end : ByteArray := prog_14_method_7_code
def yX12_end : MethodName := ⟨RX12, "end", "(I)Z"⟩
abbrev cX12_here : ByteArray := prog_14_method_8_code
def yX12_here : MethodName := ⟨RX12, "here", "()I"⟩
abbrev cX12_look : ByteArray := prog_14_method_9_code
def yX12_look : MethodName := ⟨RX12, "look", "()I"⟩
abbrev cX12_fails : ByteArray := prog_14_method_10_code
def yX12_fails : MethodName := ⟨RX12, "fails", "(I)Z"⟩
abbrev cX12_isDigit : ByteArray := prog_14_method_11_code
def yX12_isDigit : MethodName := ⟨RX12, "isDigit", "()Z"⟩
abbrev cX12_number : ByteArray := prog_14_method_12_code
def yX12_number : MethodName := ⟨RX12, "number", "(III)Z"⟩
abbrev cX12_readLine : ByteArray := prog_14_method_13_code
def yX12_readLine : MethodName := ⟨RX12, "readLine", "(IZ)Z"⟩
abbrev cX12_readBit : ByteArray := prog_14_method_14_code
def yX12_readBit : MethodName := ⟨RX12, "readBit", "(I[IZ)Z"⟩
abbrev cX12_statement : ByteArray := prog_14_method_15_code
def yX12_statement : MethodName := ⟨RX12, "statement", "(I)Z"⟩
abbrev cX12_readValley : ByteArray := prog_14_method_16_code
def yX12_readValley : MethodName := ⟨RX12, "readValley", "()Z"⟩
abbrev cX12_fault : ByteArray := prog_14_method_17_code
def yX12_fault : MethodName := ⟨RX12, "fault", "()I"⟩
abbrev cX12_valley : ByteArray := prog_14_method_18_code
def yX12_valley : MethodName := ⟨RX12, "valley", "()I"⟩
abbrev cX12_isValley : ByteArray := prog_14_method_19_code
def yX12_isValley : MethodName := ⟨RX12, "isValley", "(I)Z"⟩
abbrev cX12_isPerson : ByteArray := prog_14_method_20_code
def yX12_isPerson : MethodName := ⟨RX12, "isPerson", "(II)Z"⟩
abbrev cX12_isNews : ByteArray := prog_14_method_21_code
def yX12_isNews : MethodName := ⟨RX12, "isNews", "(I)Z"⟩
abbrev cX12_isHour : ByteArray := prog_14_method_22_code
def yX12_isHour : MethodName := ⟨RX12, "isHour", "(I)Z"⟩
abbrev cX12_everybody : ByteArray := prog_14_method_23_code
def yX12_everybody : MethodName := ⟨RX12, "everybody", "(I)I"⟩
abbrev cX12_told : ByteArray := prog_14_method_24_code
def yX12_told : MethodName := ⟨RX12, "told", "(II)I"⟩
abbrev cX12_isLine : ByteArray := prog_14_method_25_code
def yX12_isLine : MethodName := ⟨RX12, "isLine", "(II)Z"⟩
abbrev cX12_line : ByteArray := prog_14_method_26_code
def yX12_line : MethodName := ⟨RX12, "line", "(III)I"⟩
abbrev cX12_down : ByteArray := prog_14_method_27_code
def yX12_down : MethodName := ⟨RX12, "down", "(III)Z"⟩
abbrev cX12_works : ByteArray := prog_14_method_28_code
def yX12_works : MethodName := ⟨RX12, "works", "(II)Z"⟩
abbrev cX12_joins : ByteArray := prog_14_method_29_code
def yX12_joins : MethodName := ⟨RX12, "joins", "(III)Z"⟩
abbrev cX12_mayCall : ByteArray := prog_14_method_30_code
def yX12_mayCall : MethodName := ⟨RX12, "mayCall", "(IIII)Z"⟩
abbrev cX12_may : ByteArray := prog_14_method_31_code
def yX12_may : MethodName := ⟨RX12, "may", "(IIII)I"⟩
abbrev cX12_isPlan : ByteArray := prog_14_method_32_code
def yX12_isPlan : MethodName := ⟨RX12, "isPlan", "(I)Z"⟩
abbrev cX12_plan : ByteArray := prog_14_method_33_code
def yX12_plan : MethodName := ⟨RX12, "plan", "(I)I"⟩
abbrev cX12_call : ByteArray := prog_14_method_34_code
def yX12_call : MethodName := ⟨RX12, "call", "(IIIII)I"⟩
abbrev cX12_reaches : ByteArray := prog_14_method_35_code
def yX12_reaches : MethodName := ⟨RX12, "reaches", "(II)I"⟩
abbrev cX12_judge : ByteArray := prog_14_method_36_code
def yX12_judge : MethodName := ⟨RX12, "judge", "(I)V"⟩
abbrev cX12_isCall : ByteArray := prog_14_method_37_code
def yX12_isCall : MethodName := ⟨RX12, "isCall", "(II)Z"⟩
abbrev cX12_lawful : ByteArray := prog_14_method_38_code
def yX12_lawful : MethodName := ⟨RX12, "lawful", "(II)I"⟩
abbrev cX12_unlawful : ByteArray := prog_14_method_39_code
def yX12_unlawful : MethodName := ⟨RX12, "unlawful", "(I)I"⟩
abbrev cX12_tells : ByteArray := prog_14_method_40_code
def yX12_tells : MethodName := ⟨RX12, "tells", "(IIII)V"⟩
abbrev cX12_carry : ByteArray := prog_14_method_41_code
def yX12_carry : MethodName := ⟨RX12, "carry", "(IJI)V"⟩
abbrev cX12_notFor : ByteArray := prog_14_method_42_code
def yX12_notFor : MethodName := ⟨RX12, "notFor", "(II)I"⟩
abbrev cX12_mustOf : ByteArray := prog_14_method_43_code
def yX12_mustOf : MethodName := ⟨RX12, "mustOf", "(II)I"⟩
abbrev cX12_carryAll : ByteArray := prog_14_method_44_code
def yX12_carryAll : MethodName := ⟨RX12, "carryAll", "(I)V"⟩
abbrev cX12_known : ByteArray := prog_14_method_45_code
def yX12_known : MethodName := ⟨RX12, "known", "(III)I"⟩
abbrev cX12_together : ByteArray := prog_14_method_46_code
def yX12_together : MethodName := ⟨RX12, "together", "(III)I"⟩
abbrev cX12_allKnow : ByteArray := prog_14_method_47_code
def yX12_allKnow : MethodName := ⟨RX12, "allKnow", "(III)Z"⟩
abbrev cX12_when : ByteArray := prog_14_method_48_code
def yX12_when : MethodName := ⟨RX12, "when", "(II)I"⟩
abbrev cX12_ask : ByteArray := prog_14_method_49_code
def yX12_ask : MethodName := ⟨RX12, "ask", "(II)V"⟩
abbrev cX12_needed : ByteArray := prog_14_method_50_code
def yX12_needed : MethodName := ⟨RX12, "needed", "(III)I"⟩
abbrev cX12_rowsLeast : ByteArray := prog_14_method_51_code
def yX12_rowsLeast : MethodName := ⟨RX12, "rowsLeast", "(III)I"⟩
abbrev cX12_tryRow : ByteArray := prog_14_method_52_code
def yX12_tryRow : MethodName := ⟨RX12, "tryRow", "(IIIIII)I"⟩
abbrev cX12_isAsked : ByteArray := prog_14_method_53_code
def yX12_isAsked : MethodName := ⟨RX12, "isAsked", "(II)Z"⟩
abbrev cX12_leastFrom : ByteArray := prog_14_method_54_code
def yX12_leastFrom : MethodName := ⟨RX12, "leastFrom", "(III)I"⟩
abbrev cX12_least : ByteArray := prog_14_method_55_code
def yX12_least : MethodName := ⟨RX12, "least", "(III)I"⟩
abbrev cX12_lowest : ByteArray := prog_14_method_56_code
def yX12_lowest : MethodName := ⟨RX12, "lowest", "(IIIIIII)Z"⟩
abbrev cX12_found : ByteArray := prog_14_method_57_code
def yX12_found : MethodName := ⟨RX12, "found", "(IIIII)I"⟩
abbrev cX12_from : ByteArray := prog_14_method_58_code
def yX12_from : MethodName := ⟨RX12, "from", "(III)I"⟩
abbrev cX12_hasLine : ByteArray := prog_14_method_59_code
def yX12_hasLine : MethodName := ⟨RX12, "hasLine", "(III)Z"⟩
abbrev cX12_added : ByteArray := prog_14_method_60_code
def yX12_added : MethodName := ⟨RX12, "added", "(III)I"⟩
abbrev cX12_spread : ByteArray := prog_14_method_61_code
def yX12_spread : MethodName := ⟨RX12, "spread", "(IIIIII)I"⟩
abbrev cX12_reach : ByteArray := prog_14_method_62_code
def yX12_reach : MethodName := ⟨RX12, "reach", "(IIII)I"⟩
abbrev cX12_comesTo : ByteArray := prog_14_method_63_code
def yX12_comesTo : MethodName := ⟨RX12, "comesTo", "(IIIIII)Z"⟩
abbrev cX12_shut : ByteArray := prog_14_method_64_code
def yX12_shut : MethodName := ⟨RX12, "shut", "(IIII)I"⟩
abbrev cX12_holdsAll : ByteArray := prog_14_method_65_code
def yX12_holdsAll : MethodName := ⟨RX12, "holdsAll", "(I)Z"⟩
abbrev cX12_gossips : ByteArray := prog_14_method_66_code
def yX12_gossips : MethodName := ⟨RX12, "gossips", "(III)Z"⟩
abbrev cX12_fewestOf : ByteArray := prog_14_method_67_code
def yX12_fewestOf : MethodName := ⟨RX12, "fewestOf", "(I)I"⟩
abbrev cX12_fewest : ByteArray := prog_14_method_68_code
def yX12_fewest : MethodName := ⟨RX12, "fewest", "(I)I"⟩
abbrev cX12_gossip : ByteArray := prog_14_method_69_code
def yX12_gossip : MethodName := ⟨RX12, "gossip", "(II)I"⟩
abbrev cX12_ends : ByteArray := prog_14_method_70_code
def yX12_ends : MethodName := ⟨RX12, "ends", "(II)I"⟩
abbrev cX12_mayTrade : ByteArray := prog_14_method_71_code
def yX12_mayTrade : MethodName := ⟨RX12, "mayTrade", "(IIII)Z"⟩
abbrev cX12_traded : ByteArray := prog_14_method_72_code
def yX12_traded : MethodName := ⟨RX12, "traded", "(III)I"⟩
abbrev cX12_meet : ByteArray := prog_14_method_73_code
def yX12_meet : MethodName := ⟨RX12, "meet", "(II)V"⟩
abbrev cX12_layTrades : ByteArray := prog_14_method_74_code
def yX12_layTrades : MethodName := ⟨RX12, "layTrades", "(I)V"⟩
abbrev cX12_trade : ByteArray := prog_14_method_75_code
def yX12_trade : MethodName := ⟨RX12, "trade", "(III)I"⟩
abbrev cX12_card : ByteArray := prog_14_method_76_code
def yX12_card : MethodName := ⟨RX12, "card", "(III)I"⟩
abbrev cX12_blank : ByteArray := prog_14_method_77_code
def yX12_blank : MethodName := ⟨RX12, "blank", "(I)Z"⟩
abbrev cX12_kept : ByteArray := prog_14_method_78_code
def yX12_kept : MethodName := ⟨RX12, "kept", "(II)I"⟩
abbrev cX12_isTree : ByteArray := prog_14_method_79_code
def yX12_isTree : MethodName := ⟨RX12, "isTree", "(I)Z"⟩
abbrev cX12_isBeside : ByteArray := prog_14_method_80_code
def yX12_isBeside : MethodName := ⟨RX12, "isBeside", "(III)Z"⟩
abbrev cX12_layTree : ByteArray := prog_14_method_81_code
def yX12_layTree : MethodName := ⟨RX12, "layTree", "(III)V"⟩
abbrev cX12_tree : ByteArray := prog_14_method_82_code
def yX12_tree : MethodName := ⟨RX12, "tree", "(IIII)I"⟩
abbrev cX12_bears : ByteArray := prog_14_method_83_code
def yX12_bears : MethodName := ⟨RX12, "bears", "(IJI)Z"⟩
abbrev cX12_breaksBy : ByteArray := prog_14_method_84_code
def yX12_breaksBy : MethodName := ⟨RX12, "breaksBy", "(IIIIJ)Z"⟩
abbrev cX12_breaks : ByteArray := prog_14_method_85_code
def yX12_breaks : MethodName := ⟨RX12, "breaks", "(II)I"⟩
abbrev cX12_breaker : ByteArray := prog_14_method_86_code
def yX12_breaker : MethodName := ⟨RX12, "breaker", "(I)I"⟩
abbrev cX12_choose : ByteArray := prog_14_method_87_code
def yX12_choose : MethodName := ⟨RX12, "choose", "(IIIIJ)V"⟩
abbrev cX12_ways : ByteArray := prog_14_method_88_code
def yX12_ways : MethodName := ⟨RX12, "ways", "(III)J"⟩
abbrev cX12_drawn : ByteArray := prog_14_method_89_code
def yX12_drawn : MethodName := ⟨RX12, "drawn", "(IIJ)I"⟩
abbrev cX12_tale : ByteArray := prog_14_method_90_code
def yX12_tale : MethodName := ⟨RX12, "tale", "(IIII)Z"⟩
abbrev cX12_taleOf : ByteArray := prog_14_method_91_code
def yX12_taleOf : MethodName := ⟨RX12, "taleOf", "(III)I"⟩
abbrev cX12_isAsTold : ByteArray := prog_14_method_92_code
def yX12_isAsTold : MethodName := ⟨RX12, "isAsTold", "(IIII)Z"⟩
abbrev cX12_goRows : ByteArray := prog_14_method_93_code
def yX12_goRows : MethodName := ⟨RX12, "goRows", "(IIIIIIII)V"⟩
abbrev cX12_canBegin : ByteArray := prog_14_method_94_code
def yX12_canBegin : MethodName := ⟨RX12, "canBegin", "(III)Z"⟩
abbrev cX12_who : ByteArray := prog_14_method_95_code
def yX12_who : MethodName := ⟨RX12, "who", "(II)I"⟩
abbrev cX12_fits : ByteArray := prog_14_method_96_code
def yX12_fits : MethodName := ⟨RX12, "fits", "(II)I"⟩
abbrev cX12_count : ByteArray := prog_14_method_97_code
def yX12_count : MethodName := ⟨RX12, "count", "(I)I"⟩
def RJ6 : String := "java/lang/Integer"
abbrev cJ6_bitCount_0f7a4 : ByteArray := prog_17_method_49_code
def yJ6_bitCount_0f7a4 : MethodName := ⟨RJ6, "bitCount", "(I)I"⟩
def RJ7 : String := "java/util/Arrays"
abbrev cJ7_fill_d0a16 : ByteArray := prog_22_method_101_code
def yJ7_fill_d0a16 : MethodName := ⟨RJ7, "fill", "([JJ)V"⟩
abbrev cJ7_fill_53178 : ByteArray := prog_22_method_103_code
def yJ7_fill_53178 : MethodName := ⟨RJ7, "fill", "([II)V"⟩
def RL : String := "NoonValleyLaw"
abbrev cL_line : ByteArray := method_3_code
def yL_line : MethodName := ⟨RL, "line", "(LNoonValley;III[J)I"⟩
abbrev cL_law : ByteArray := code
