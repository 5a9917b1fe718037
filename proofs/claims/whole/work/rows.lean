section
/-- a private method of a class that the tables say can be made, by its rows of tables_1 -/
def lw_okq (q : MethodName × Nat) : Prop := (q.1.cls ≠ "java/lang/invoke/MethodHandle" ∧ q.1.cls ≠ "java/lang/invoke/VarHandle") ∧ Cond.instantiable q.1.cls q.2 ∈ tables_1 ∧ Cond.privateMethod q.1 ∈ tables_1 ∧ Cond.instanceMethod q.1 ∈ tables_1
theorem lw_p0 : lw_okq (⟨"PressedMen$Town", "measure", "()V"⟩, 4) := ⟨⟨by decide +kernel, by decide +kernel⟩, List.mem_of_getElem? (i := 28) (by decide +kernel), List.mem_of_getElem? (i := 218) (by decide +kernel), List.mem_of_getElem? (i := 219) (by decide +kernel)⟩
theorem lw_p1 : lw_okq (⟨"PressedMen", "findMan", "(I)LPressedMen$Man;"⟩, 19) := ⟨⟨by decide +kernel, by decide +kernel⟩, List.mem_of_getElem? (i := 20) (by decide +kernel), List.mem_of_getElem? (i := 298) (by decide +kernel), List.mem_of_getElem? (i := 299) (by decide +kernel)⟩
theorem lw_p2 : lw_okq (⟨"PressedMen$Man", "moveAsOf", "(I)I"⟩, 14) := ⟨⟨by decide +kernel, by decide +kernel⟩, List.mem_of_getElem? (i := 228) (by decide +kernel), List.mem_of_getElem? (i := 314) (by decide +kernel), List.mem_of_getElem? (i := 315) (by decide +kernel)⟩
theorem lw_p3 : lw_okq (⟨"PressedMen", "isPlace", "(I)Z"⟩, 19) := ⟨⟨by decide +kernel, by decide +kernel⟩, List.mem_of_getElem? (i := 20) (by decide +kernel), List.mem_of_getElem? (i := 322) (by decide +kernel), List.mem_of_getElem? (i := 323) (by decide +kernel)⟩
theorem lw_p4 : lw_okq (⟨"PressedMen", "findShip", "(I)LPressedMen$Ship;"⟩, 19) := ⟨⟨by decide +kernel, by decide +kernel⟩, List.mem_of_getElem? (i := 20) (by decide +kernel), List.mem_of_getElem? (i := 326) (by decide +kernel), List.mem_of_getElem? (i := 327) (by decide +kernel)⟩
theorem lw_p5 : lw_okq (⟨"PressedMen", "menIn", "(I)I"⟩, 19) := ⟨⟨by decide +kernel, by decide +kernel⟩, List.mem_of_getElem? (i := 20) (by decide +kernel), List.mem_of_getElem? (i := 330) (by decide +kernel), List.mem_of_getElem? (i := 331) (by decide +kernel)⟩
theorem lw_p6 : lw_okq (⟨"PressedMen", "hideTheShy", "()V"⟩, 19) := ⟨⟨by decide +kernel, by decide +kernel⟩, List.mem_of_getElem? (i := 20) (by decide +kernel), List.mem_of_getElem? (i := 351) (by decide +kernel), List.mem_of_getElem? (i := 352) (by decide +kernel)⟩
theorem lw_p7 : lw_okq (⟨"PressedMen$Man", "makeRoom", "()V"⟩, 14) := ⟨⟨by decide +kernel, by decide +kernel⟩, List.mem_of_getElem? (i := 228) (by decide +kernel), List.mem_of_getElem? (i := 360) (by decide +kernel), List.mem_of_getElem? (i := 361) (by decide +kernel)⟩
theorem lw_p8 : lw_okq (⟨"PressedMen", "sickenTheCrowd", "()V"⟩, 19) := ⟨⟨by decide +kernel, by decide +kernel⟩, List.mem_of_getElem? (i := 20) (by decide +kernel), List.mem_of_getElem? (i := 378) (by decide +kernel), List.mem_of_getElem? (i := 379) (by decide +kernel)⟩
theorem lw_p9 : lw_okq (⟨"PressedMen", "sendTheSickHome", "()V"⟩, 19) := ⟨⟨by decide +kernel, by decide +kernel⟩, List.mem_of_getElem? (i := 20) (by decide +kernel), List.mem_of_getElem? (i := 385) (by decide +kernel), List.mem_of_getElem? (i := 386) (by decide +kernel)⟩
theorem lw_p10 : lw_okq (⟨"PressedMen", "findPaper", "(I)LPressedMen$Paper;"⟩, 19) := ⟨⟨by decide +kernel, by decide +kernel⟩, List.mem_of_getElem? (i := 20) (by decide +kernel), List.mem_of_getElem? (i := 456) (by decide +kernel), List.mem_of_getElem? (i := 457) (by decide +kernel)⟩
theorem lw_p11 : lw_okq (⟨"PressedMen$Paper", "describes", "(LPressedMen$Man;)Z"⟩, 6) := ⟨⟨by decide +kernel, by decide +kernel⟩, List.mem_of_getElem? (i := 413) (by decide +kernel), List.mem_of_getElem? (i := 472) (by decide +kernel), List.mem_of_getElem? (i := 473) (by decide +kernel)⟩
theorem lw_p12 : lw_okq (⟨"PressedMen", "findAct", "(I)LPressedMen$Act;"⟩, 19) := ⟨⟨by decide +kernel, by decide +kernel⟩, List.mem_of_getElem? (i := 20) (by decide +kernel), List.mem_of_getElem? (i := 534) (by decide +kernel), List.mem_of_getElem? (i := 535) (by decide +kernel)⟩
theorem lw_p13 : lw_okq (⟨"PressedMen$Act", "goesOnWith", "(I)Z"⟩, 6) := ⟨⟨by decide +kernel, by decide +kernel⟩, List.mem_of_getElem? (i := 502) (by decide +kernel), List.mem_of_getElem? (i := 542) (by decide +kernel), List.mem_of_getElem? (i := 543) (by decide +kernel)⟩
theorem lw_p14 : lw_okq (⟨"PressedMen$Act", "takesDigit", "(I)Z"⟩, 6) := ⟨⟨by decide +kernel, by decide +kernel⟩, List.mem_of_getElem? (i := 502) (by decide +kernel), List.mem_of_getElem? (i := 546) (by decide +kernel), List.mem_of_getElem? (i := 547) (by decide +kernel)⟩
theorem lw_p15 : lw_okq (⟨"PressedMen", "actInForce", "(I)I"⟩, 19) := ⟨⟨by decide +kernel, by decide +kernel⟩, List.mem_of_getElem? (i := 20) (by decide +kernel), List.mem_of_getElem? (i := 566) (by decide +kernel), List.mem_of_getElem? (i := 567) (by decide +kernel)⟩
def lw_privs_1 : List (MethodName × Nat) := [(⟨"PressedMen$Town", "measure", "()V"⟩, 4), (⟨"PressedMen", "findMan", "(I)LPressedMen$Man;"⟩, 19), (⟨"PressedMen$Man", "moveAsOf", "(I)I"⟩, 14), (⟨"PressedMen", "isPlace", "(I)Z"⟩, 19), (⟨"PressedMen", "findShip", "(I)LPressedMen$Ship;"⟩, 19), (⟨"PressedMen", "menIn", "(I)I"⟩, 19), (⟨"PressedMen", "hideTheShy", "()V"⟩, 19), (⟨"PressedMen$Man", "makeRoom", "()V"⟩, 14), (⟨"PressedMen", "sickenTheCrowd", "()V"⟩, 19), (⟨"PressedMen", "sendTheSickHome", "()V"⟩, 19), (⟨"PressedMen", "findPaper", "(I)LPressedMen$Paper;"⟩, 19), (⟨"PressedMen$Paper", "describes", "(LPressedMen$Man;)Z"⟩, 6), (⟨"PressedMen", "findAct", "(I)LPressedMen$Act;"⟩, 19), (⟨"PressedMen$Act", "goesOnWith", "(I)Z"⟩, 6), (⟨"PressedMen$Act", "takesDigit", "(I)Z"⟩, 6), (⟨"PressedMen", "actInForce", "(I)I"⟩, 19)]
theorem lw_r1 : ∀ q ∈ lw_privs_1, lw_okq q := List.forall_mem_cons.mpr ⟨lw_p0, List.forall_mem_cons.mpr ⟨lw_p1, List.forall_mem_cons.mpr ⟨lw_p2, List.forall_mem_cons.mpr ⟨lw_p3, List.forall_mem_cons.mpr ⟨lw_p4, List.forall_mem_cons.mpr ⟨lw_p5, List.forall_mem_cons.mpr ⟨lw_p6, List.forall_mem_cons.mpr ⟨lw_p7, List.forall_mem_cons.mpr ⟨lw_p8, List.forall_mem_cons.mpr ⟨lw_p9, List.forall_mem_cons.mpr ⟨lw_p10, List.forall_mem_cons.mpr ⟨lw_p11, List.forall_mem_cons.mpr ⟨lw_p12, List.forall_mem_cons.mpr ⟨lw_p13, List.forall_mem_cons.mpr ⟨lw_p14, List.forall_mem_cons.mpr ⟨lw_p15, fun _ h => absurd h List.not_mem_nil⟩⟩⟩⟩⟩⟩⟩⟩⟩⟩⟩⟩⟩⟩⟩⟩
theorem lw_p16 : lw_okq (⟨"PressedMen", "isPaperOrNone", "(I)Z"⟩, 19) := ⟨⟨by decide +kernel, by decide +kernel⟩, List.mem_of_getElem? (i := 20) (by decide +kernel), List.mem_of_getElem? (i := 574) (by decide +kernel), List.mem_of_getElem? (i := 575) (by decide +kernel)⟩
theorem lw_p17 : lw_okq (⟨"PressedMen", "mayAsShown", "(LPressedMen$Man;I)Z"⟩, 19) := ⟨⟨by decide +kernel, by decide +kernel⟩, List.mem_of_getElem? (i := 20) (by decide +kernel), List.mem_of_getElem? (i := 578) (by decide +kernel), List.mem_of_getElem? (i := 579) (by decide +kernel)⟩
theorem lw_p18 : lw_okq (⟨"PressedMen$Act", "testHolds", "(ILPressedMen$Man;Z)Z"⟩, 6) := ⟨⟨by decide +kernel, by decide +kernel⟩, List.mem_of_getElem? (i := 502) (by decide +kernel), List.mem_of_getElem? (i := 587) (by decide +kernel), List.mem_of_getElem? (i := 588) (by decide +kernel)⟩
theorem lw_p19 : lw_okq (⟨"PressedMen$Act", "numberBehind", "(I)I"⟩, 6) := ⟨⟨by decide +kernel, by decide +kernel⟩, List.mem_of_getElem? (i := 502) (by decide +kernel), List.mem_of_getElem? (i := 591) (by decide +kernel), List.mem_of_getElem? (i := 592) (by decide +kernel)⟩
theorem lw_p20 : lw_okq (⟨"PressedMen", "mayInTruth", "(I)Z"⟩, 19) := ⟨⟨by decide +kernel, by decide +kernel⟩, List.mem_of_getElem? (i := 20) (by decide +kernel), List.mem_of_getElem? (i := 603) (by decide +kernel), List.mem_of_getElem? (i := 604) (by decide +kernel)⟩
theorem lw_p21 : lw_okq (⟨"PressedMen", "holdsInTruth", "(LPressedMen$Act;I)Z"⟩, 19) := ⟨⟨by decide +kernel, by decide +kernel⟩, List.mem_of_getElem? (i := 20) (by decide +kernel), List.mem_of_getElem? (i := 607) (by decide +kernel), List.mem_of_getElem? (i := 608) (by decide +kernel)⟩
theorem lw_p22 : lw_okq (⟨"PressedMen", "isCoveredInTruth", "(LPressedMen$Man;I)Z"⟩, 19) := ⟨⟨by decide +kernel, by decide +kernel⟩, List.mem_of_getElem? (i := 20) (by decide +kernel), List.mem_of_getElem? (i := 611) (by decide +kernel), List.mem_of_getElem? (i := 612) (by decide +kernel)⟩
theorem lw_p23 : lw_okq (⟨"PressedMen", "isWithinReach", "(I)Z"⟩, 19) := ⟨⟨by decide +kernel, by decide +kernel⟩, List.mem_of_getElem? (i := 20) (by decide +kernel), List.mem_of_getElem? (i := 619) (by decide +kernel), List.mem_of_getElem? (i := 620) (by decide +kernel)⟩
theorem lw_p24 : lw_okq (⟨"PressedMen", "isInShipAtHome", "(I)Z"⟩, 19) := ⟨⟨by decide +kernel, by decide +kernel⟩, List.mem_of_getElem? (i := 20) (by decide +kernel), List.mem_of_getElem? (i := 623) (by decide +kernel), List.mem_of_getElem? (i := 624) (by decide +kernel)⟩
theorem lw_p25 : lw_okq (⟨"PressedMen", "isInShipOf", "(II)Z"⟩, 19) := ⟨⟨by decide +kernel, by decide +kernel⟩, List.mem_of_getElem? (i := 20) (by decide +kernel), List.mem_of_getElem? (i := 628) (by decide +kernel), List.mem_of_getElem? (i := 629) (by decide +kernel)⟩
theorem lw_p26 : lw_okq (⟨"PressedMen", "isWronged", "(LPressedMen$Man;)Z"⟩, 19) := ⟨⟨by decide +kernel, by decide +kernel⟩, List.mem_of_getElem? (i := 20) (by decide +kernel), List.mem_of_getElem? (i := 683) (by decide +kernel), List.mem_of_getElem? (i := 684) (by decide +kernel)⟩
theorem lw_p27 : lw_okq (⟨"PressedMen", "countTheTakeable", "()V"⟩, 19) := ⟨⟨by decide +kernel, by decide +kernel⟩, List.mem_of_getElem? (i := 20) (by decide +kernel), List.mem_of_getElem? (i := 719) (by decide +kernel), List.mem_of_getElem? (i := 720) (by decide +kernel)⟩
theorem lw_p28 : lw_okq (⟨"PressedMen$Gangs", "findFirstWalks", "(I)V"⟩, 4) := ⟨⟨by decide +kernel, by decide +kernel⟩, List.mem_of_getElem? (i := 80) (by decide +kernel), List.mem_of_getElem? (i := 746) (by decide +kernel), List.mem_of_getElem? (i := 747) (by decide +kernel)⟩
theorem lw_p29 : lw_okq (⟨"PressedMen$Gangs", "walkOut", "(III)Z"⟩, 4) := ⟨⟨by decide +kernel, by decide +kernel⟩, List.mem_of_getElem? (i := 80) (by decide +kernel), List.mem_of_getElem? (i := 750) (by decide +kernel), List.mem_of_getElem? (i := 751) (by decide +kernel)⟩
theorem lw_p30 : lw_okq (⟨"PressedMen$Gangs", "kindWalked", "(I)I"⟩, 4) := ⟨⟨by decide +kernel, by decide +kernel⟩, List.mem_of_getElem? (i := 80) (by decide +kernel), List.mem_of_getElem? (i := 758) (by decide +kernel), List.mem_of_getElem? (i := 759) (by decide +kernel)⟩
theorem lw_p31 : lw_okq (⟨"PressedMen$Gangs", "firstMate", "(III)I"⟩, 4) := ⟨⟨by decide +kernel, by decide +kernel⟩, List.mem_of_getElem? (i := 80) (by decide +kernel), List.mem_of_getElem? (i := 767) (by decide +kernel), List.mem_of_getElem? (i := 768) (by decide +kernel)⟩
def lw_privs_2 : List (MethodName × Nat) := [(⟨"PressedMen", "isPaperOrNone", "(I)Z"⟩, 19), (⟨"PressedMen", "mayAsShown", "(LPressedMen$Man;I)Z"⟩, 19), (⟨"PressedMen$Act", "testHolds", "(ILPressedMen$Man;Z)Z"⟩, 6), (⟨"PressedMen$Act", "numberBehind", "(I)I"⟩, 6), (⟨"PressedMen", "mayInTruth", "(I)Z"⟩, 19), (⟨"PressedMen", "holdsInTruth", "(LPressedMen$Act;I)Z"⟩, 19), (⟨"PressedMen", "isCoveredInTruth", "(LPressedMen$Man;I)Z"⟩, 19), (⟨"PressedMen", "isWithinReach", "(I)Z"⟩, 19), (⟨"PressedMen", "isInShipAtHome", "(I)Z"⟩, 19), (⟨"PressedMen", "isInShipOf", "(II)Z"⟩, 19), (⟨"PressedMen", "isWronged", "(LPressedMen$Man;)Z"⟩, 19), (⟨"PressedMen", "countTheTakeable", "()V"⟩, 19), (⟨"PressedMen$Gangs", "findFirstWalks", "(I)V"⟩, 4), (⟨"PressedMen$Gangs", "walkOut", "(III)Z"⟩, 4), (⟨"PressedMen$Gangs", "kindWalked", "(I)I"⟩, 4), (⟨"PressedMen$Gangs", "firstMate", "(III)I"⟩, 4)]
theorem lw_r2 : ∀ q ∈ lw_privs_2, lw_okq q := List.forall_mem_cons.mpr ⟨lw_p16, List.forall_mem_cons.mpr ⟨lw_p17, List.forall_mem_cons.mpr ⟨lw_p18, List.forall_mem_cons.mpr ⟨lw_p19, List.forall_mem_cons.mpr ⟨lw_p20, List.forall_mem_cons.mpr ⟨lw_p21, List.forall_mem_cons.mpr ⟨lw_p22, List.forall_mem_cons.mpr ⟨lw_p23, List.forall_mem_cons.mpr ⟨lw_p24, List.forall_mem_cons.mpr ⟨lw_p25, List.forall_mem_cons.mpr ⟨lw_p26, List.forall_mem_cons.mpr ⟨lw_p27, List.forall_mem_cons.mpr ⟨lw_p28, List.forall_mem_cons.mpr ⟨lw_p29, List.forall_mem_cons.mpr ⟨lw_p30, List.forall_mem_cons.mpr ⟨lw_p31, fun _ h => absurd h List.not_mem_nil⟩⟩⟩⟩⟩⟩⟩⟩⟩⟩⟩⟩⟩⟩⟩⟩
theorem lw_p32 : lw_okq (⟨"PressedMen$Gangs", "menMet", "(I)I"⟩, 4) := ⟨⟨by decide +kernel, by decide +kernel⟩, List.mem_of_getElem? (i := 80) (by decide +kernel), List.mem_of_getElem? (i := 771) (by decide +kernel), List.mem_of_getElem? (i := 772) (by decide +kernel)⟩
theorem lw_p33 : lw_okq (⟨"PressedMen$Gangs", "menMetByBoth", "(II)I"⟩, 4) := ⟨⟨by decide +kernel, by decide +kernel⟩, List.mem_of_getElem? (i := 80) (by decide +kernel), List.mem_of_getElem? (i := 775) (by decide +kernel), List.mem_of_getElem? (i := 776) (by decide +kernel)⟩
theorem lw_p34 : lw_okq (⟨"PressedMen", "seamenIn", "(I)I"⟩, 19) := ⟨⟨by decide +kernel, by decide +kernel⟩, List.mem_of_getElem? (i := 20) (by decide +kernel), List.mem_of_getElem? (i := 816) (by decide +kernel), List.mem_of_getElem? (i := 817) (by decide +kernel)⟩
theorem lw_p35 : lw_okq (⟨"PressedMen", "kingsAtHome", "()I"⟩, 19) := ⟨⟨by decide +kernel, by decide +kernel⟩, List.mem_of_getElem? (i := 20) (by decide +kernel), List.mem_of_getElem? (i := 855) (by decide +kernel), List.mem_of_getElem? (i := 856) (by decide +kernel)⟩
theorem lw_p36 : lw_okq (⟨"PressedMen", "musterLevy", "(I)V"⟩, 19) := ⟨⟨by decide +kernel, by decide +kernel⟩, List.mem_of_getElem? (i := 20) (by decide +kernel), List.mem_of_getElem? (i := 859) (by decide +kernel), List.mem_of_getElem? (i := 860) (by decide +kernel)⟩
theorem lw_p37 : lw_okq (⟨"PressedMen", "leastTaken", "(I)I"⟩, 19) := ⟨⟨by decide +kernel, by decide +kernel⟩, List.mem_of_getElem? (i := 20) (by decide +kernel), List.mem_of_getElem? (i := 876) (by decide +kernel), List.mem_of_getElem? (i := 877) (by decide +kernel)⟩
theorem lw_p38 : lw_okq (⟨"PressedMen", "findTicket", "(I)LPressedMen$Ticket;"⟩, 19) := ⟨⟨by decide +kernel, by decide +kernel⟩, List.mem_of_getElem? (i := 20) (by decide +kernel), List.mem_of_getElem? (i := 935) (by decide +kernel), List.mem_of_getElem? (i := 936) (by decide +kernel)⟩
theorem lw_p39 : lw_okq (⟨"PressedMen", "give", "(LPressedMen$Ticket;II)V"⟩, 19) := ⟨⟨by decide +kernel, by decide +kernel⟩, List.mem_of_getElem? (i := 20) (by decide +kernel), List.mem_of_getElem? (i := 942) (by decide +kernel), List.mem_of_getElem? (i := 943) (by decide +kernel)⟩
theorem lw_p40 : lw_okq (⟨"PressedMen", "owedTo", "(I)I"⟩, 19) := ⟨⟨by decide +kernel, by decide +kernel⟩, List.mem_of_getElem? (i := 20) (by decide +kernel), List.mem_of_getElem? (i := 962) (by decide +kernel), List.mem_of_getElem? (i := 963) (by decide +kernel)⟩
theorem lw_p41 : lw_okq (⟨"PressedMen", "menOffTheStreets", "()I"⟩, 19) := ⟨⟨by decide +kernel, by decide +kernel⟩, List.mem_of_getElem? (i := 20) (by decide +kernel), List.mem_of_getElem? (i := 970) (by decide +kernel), List.mem_of_getElem? (i := 971) (by decide +kernel)⟩
theorem lw_p42 : lw_okq (⟨"PressedMenModel", "noStreet", "(I)Z"⟩, 39) := ⟨⟨by decide +kernel, by decide +kernel⟩, List.mem_of_getElem? (i := 974) (by decide +kernel), List.mem_of_getElem? (i := 1111) (by decide +kernel), List.mem_of_getElem? (i := 1112) (by decide +kernel)⟩
theorem lw_p43 : lw_okq (⟨"PressedMenModel", "measure", "()V"⟩, 39) := ⟨⟨by decide +kernel, by decide +kernel⟩, List.mem_of_getElem? (i := 974) (by decide +kernel), List.mem_of_getElem? (i := 1119) (by decide +kernel), List.mem_of_getElem? (i := 1120) (by decide +kernel)⟩
theorem lw_p44 : lw_okq (⟨"PressedMenModel", "noMan", "(I)Z"⟩, 39) := ⟨⟨by decide +kernel, by decide +kernel⟩, List.mem_of_getElem? (i := 974) (by decide +kernel), List.mem_of_getElem? (i := 1138) (by decide +kernel), List.mem_of_getElem? (i := 1139) (by decide +kernel)⟩
theorem lw_p45 : lw_okq (⟨"PressedMenModel", "many", "(I)I"⟩, 39) := ⟨⟨by decide +kernel, by decide +kernel⟩, List.mem_of_getElem? (i := 974) (by decide +kernel), List.mem_of_getElem? (i := 1157) (by decide +kernel), List.mem_of_getElem? (i := 1158) (by decide +kernel)⟩
theorem lw_p46 : lw_okq (⟨"PressedMenModel", "placeOf", "(I)I"⟩, 39) := ⟨⟨by decide +kernel, by decide +kernel⟩, List.mem_of_getElem? (i := 974) (by decide +kernel), List.mem_of_getElem? (i := 1161) (by decide +kernel), List.mem_of_getElem? (i := 1162) (by decide +kernel)⟩
theorem lw_p47 : lw_okq (⟨"PressedMenModel", "goOn", "()V"⟩, 39) := ⟨⟨by decide +kernel, by decide +kernel⟩, List.mem_of_getElem? (i := 974) (by decide +kernel), List.mem_of_getElem? (i := 1173) (by decide +kernel), List.mem_of_getElem? (i := 1174) (by decide +kernel)⟩
def lw_privs_3 : List (MethodName × Nat) := [(⟨"PressedMen$Gangs", "menMet", "(I)I"⟩, 4), (⟨"PressedMen$Gangs", "menMetByBoth", "(II)I"⟩, 4), (⟨"PressedMen", "seamenIn", "(I)I"⟩, 19), (⟨"PressedMen", "kingsAtHome", "()I"⟩, 19), (⟨"PressedMen", "musterLevy", "(I)V"⟩, 19), (⟨"PressedMen", "leastTaken", "(I)I"⟩, 19), (⟨"PressedMen", "findTicket", "(I)LPressedMen$Ticket;"⟩, 19), (⟨"PressedMen", "give", "(LPressedMen$Ticket;II)V"⟩, 19), (⟨"PressedMen", "owedTo", "(I)I"⟩, 19), (⟨"PressedMen", "menOffTheStreets", "()I"⟩, 19), (⟨"PressedMenModel", "noStreet", "(I)Z"⟩, 39), (⟨"PressedMenModel", "measure", "()V"⟩, 39), (⟨"PressedMenModel", "noMan", "(I)Z"⟩, 39), (⟨"PressedMenModel", "many", "(I)I"⟩, 39), (⟨"PressedMenModel", "placeOf", "(I)I"⟩, 39), (⟨"PressedMenModel", "goOn", "()V"⟩, 39)]
theorem lw_r3 : ∀ q ∈ lw_privs_3, lw_okq q := List.forall_mem_cons.mpr ⟨lw_p32, List.forall_mem_cons.mpr ⟨lw_p33, List.forall_mem_cons.mpr ⟨lw_p34, List.forall_mem_cons.mpr ⟨lw_p35, List.forall_mem_cons.mpr ⟨lw_p36, List.forall_mem_cons.mpr ⟨lw_p37, List.forall_mem_cons.mpr ⟨lw_p38, List.forall_mem_cons.mpr ⟨lw_p39, List.forall_mem_cons.mpr ⟨lw_p40, List.forall_mem_cons.mpr ⟨lw_p41, List.forall_mem_cons.mpr ⟨lw_p42, List.forall_mem_cons.mpr ⟨lw_p43, List.forall_mem_cons.mpr ⟨lw_p44, List.forall_mem_cons.mpr ⟨lw_p45, List.forall_mem_cons.mpr ⟨lw_p46, List.forall_mem_cons.mpr ⟨lw_p47, fun _ h => absurd h List.not_mem_nil⟩⟩⟩⟩⟩⟩⟩⟩⟩⟩⟩⟩⟩⟩⟩⟩
theorem lw_p48 : lw_okq (⟨"PressedMenModel", "heardAt", "(I)I"⟩, 39) := ⟨⟨by decide +kernel, by decide +kernel⟩, List.mem_of_getElem? (i := 974) (by decide +kernel), List.mem_of_getElem? (i := 1180) (by decide +kernel), List.mem_of_getElem? (i := 1181) (by decide +kernel)⟩
theorem lw_p49 : lw_okq (⟨"PressedMenModel", "go", "(II)V"⟩, 39) := ⟨⟨by decide +kernel, by decide +kernel⟩, List.mem_of_getElem? (i := 974) (by decide +kernel), List.mem_of_getElem? (i := 1184) (by decide +kernel), List.mem_of_getElem? (i := 1185) (by decide +kernel)⟩
theorem lw_p50 : lw_okq (⟨"PressedMenModel", "noPaper", "(I)Z"⟩, 39) := ⟨⟨by decide +kernel, by decide +kernel⟩, List.mem_of_getElem? (i := 974) (by decide +kernel), List.mem_of_getElem? (i := 1210) (by decide +kernel), List.mem_of_getElem? (i := 1211) (by decide +kernel)⟩
theorem lw_p51 : lw_okq (⟨"PressedMenModel", "covers", "(III)I"⟩, 39) := ⟨⟨by decide +kernel, by decide +kernel⟩, List.mem_of_getElem? (i := 974) (by decide +kernel), List.mem_of_getElem? (i := 1218) (by decide +kernel), List.mem_of_getElem? (i := 1219) (by decide +kernel)⟩
theorem lw_p52 : lw_okq (⟨"PressedMenModel", "faultOf", "(I)I"⟩, 39) := ⟨⟨by decide +kernel, by decide +kernel⟩, List.mem_of_getElem? (i := 974) (by decide +kernel), List.mem_of_getElem? (i := 1244) (by decide +kernel), List.mem_of_getElem? (i := 1245) (by decide +kernel)⟩
theorem lw_p53 : lw_okq (⟨"PressedMenModel", "forceOf", "(I)I"⟩, 39) := ⟨⟨by decide +kernel, by decide +kernel⟩, List.mem_of_getElem? (i := 974) (by decide +kernel), List.mem_of_getElem? (i := 1257) (by decide +kernel), List.mem_of_getElem? (i := 1258) (by decide +kernel)⟩
theorem lw_p54 : lw_okq (⟨"PressedMenModel", "asShown", "(II)Z"⟩, 39) := ⟨⟨by decide +kernel, by decide +kernel⟩, List.mem_of_getElem? (i := 974) (by decide +kernel), List.mem_of_getElem? (i := 1265) (by decide +kernel), List.mem_of_getElem? (i := 1266) (by decide +kernel)⟩
theorem lw_p55 : lw_okq (⟨"PressedMenModel", "mayBe", "(IZ)Z"⟩, 39) := ⟨⟨by decide +kernel, by decide +kernel⟩, List.mem_of_getElem? (i := 974) (by decide +kernel), List.mem_of_getElem? (i := 1269) (by decide +kernel), List.mem_of_getElem? (i := 1270) (by decide +kernel)⟩
theorem lw_p56 : lw_okq (⟨"PressedMenModel", "test", "(IIIZ)Z"⟩, 39) := ⟨⟨by decide +kernel, by decide +kernel⟩, List.mem_of_getElem? (i := 974) (by decide +kernel), List.mem_of_getElem? (i := 1273) (by decide +kernel), List.mem_of_getElem? (i := 1274) (by decide +kernel)⟩
theorem lw_p57 : lw_okq (⟨"PressedMenModel", "truly", "(I)Z"⟩, 39) := ⟨⟨by decide +kernel, by decide +kernel⟩, List.mem_of_getElem? (i := 974) (by decide +kernel), List.mem_of_getElem? (i := 1285) (by decide +kernel), List.mem_of_getElem? (i := 1286) (by decide +kernel)⟩
theorem lw_p58 : lw_okq (⟨"PressedMenModel", "isHere", "(I)Z"⟩, 39) := ⟨⟨by decide +kernel, by decide +kernel⟩, List.mem_of_getElem? (i := 974) (by decide +kernel), List.mem_of_getElem? (i := 1293) (by decide +kernel), List.mem_of_getElem? (i := 1294) (by decide +kernel)⟩
theorem lw_p59 : lw_okq (⟨"PressedMenModel", "isWronged", "(I)Z"⟩, 39) := ⟨⟨by decide +kernel, by decide +kernel⟩, List.mem_of_getElem? (i := 974) (by decide +kernel), List.mem_of_getElem? (i := 1305) (by decide +kernel), List.mem_of_getElem? (i := 1306) (by decide +kernel)⟩
theorem lw_p60 : lw_okq (⟨"PressedMenModel", "look", "(II)I"⟩, 39) := ⟨⟨by decide +kernel, by decide +kernel⟩, List.mem_of_getElem? (i := 974) (by decide +kernel), List.mem_of_getElem? (i := 1338) (by decide +kernel), List.mem_of_getElem? (i := 1339) (by decide +kernel)⟩
theorem lw_p61 : lw_okq (⟨"PressedMenModel", "meet", "(III)I"⟩, 39) := ⟨⟨by decide +kernel, by decide +kernel⟩, List.mem_of_getElem? (i := 974) (by decide +kernel), List.mem_of_getElem? (i := 1342) (by decide +kernel), List.mem_of_getElem? (i := 1343) (by decide +kernel)⟩
theorem lw_p62 : lw_okq (⟨"PressedMenModel", "noShip", "(I)Z"⟩, 39) := ⟨⟨by decide +kernel, by decide +kernel⟩, List.mem_of_getElem? (i := 974) (by decide +kernel), List.mem_of_getElem? (i := 1358) (by decide +kernel), List.mem_of_getElem? (i := 1359) (by decide +kernel)⟩
theorem lw_p63 : lw_okq (⟨"PressedMenModel", "skilled", "(I)I"⟩, 39) := ⟨⟨by decide +kernel, by decide +kernel⟩, List.mem_of_getElem? (i := 974) (by decide +kernel), List.mem_of_getElem? (i := 1362) (by decide +kernel), List.mem_of_getElem? (i := 1363) (by decide +kernel)⟩
def lw_privs_4 : List (MethodName × Nat) := [(⟨"PressedMenModel", "heardAt", "(I)I"⟩, 39), (⟨"PressedMenModel", "go", "(II)V"⟩, 39), (⟨"PressedMenModel", "noPaper", "(I)Z"⟩, 39), (⟨"PressedMenModel", "covers", "(III)I"⟩, 39), (⟨"PressedMenModel", "faultOf", "(I)I"⟩, 39), (⟨"PressedMenModel", "forceOf", "(I)I"⟩, 39), (⟨"PressedMenModel", "asShown", "(II)Z"⟩, 39), (⟨"PressedMenModel", "mayBe", "(IZ)Z"⟩, 39), (⟨"PressedMenModel", "test", "(IIIZ)Z"⟩, 39), (⟨"PressedMenModel", "truly", "(I)Z"⟩, 39), (⟨"PressedMenModel", "isHere", "(I)Z"⟩, 39), (⟨"PressedMenModel", "isWronged", "(I)Z"⟩, 39), (⟨"PressedMenModel", "look", "(II)I"⟩, 39), (⟨"PressedMenModel", "meet", "(III)I"⟩, 39), (⟨"PressedMenModel", "noShip", "(I)Z"⟩, 39), (⟨"PressedMenModel", "skilled", "(I)I"⟩, 39)]
theorem lw_r4 : ∀ q ∈ lw_privs_4, lw_okq q := List.forall_mem_cons.mpr ⟨lw_p48, List.forall_mem_cons.mpr ⟨lw_p49, List.forall_mem_cons.mpr ⟨lw_p50, List.forall_mem_cons.mpr ⟨lw_p51, List.forall_mem_cons.mpr ⟨lw_p52, List.forall_mem_cons.mpr ⟨lw_p53, List.forall_mem_cons.mpr ⟨lw_p54, List.forall_mem_cons.mpr ⟨lw_p55, List.forall_mem_cons.mpr ⟨lw_p56, List.forall_mem_cons.mpr ⟨lw_p57, List.forall_mem_cons.mpr ⟨lw_p58, List.forall_mem_cons.mpr ⟨lw_p59, List.forall_mem_cons.mpr ⟨lw_p60, List.forall_mem_cons.mpr ⟨lw_p61, List.forall_mem_cons.mpr ⟨lw_p62, List.forall_mem_cons.mpr ⟨lw_p63, fun _ h => absurd h List.not_mem_nil⟩⟩⟩⟩⟩⟩⟩⟩⟩⟩⟩⟩⟩⟩⟩⟩
theorem lw_p64 : lw_okq (⟨"PressedMenModel", "spared", "(II)I"⟩, 39) := ⟨⟨by decide +kernel, by decide +kernel⟩, List.mem_of_getElem? (i := 974) (by decide +kernel), List.mem_of_getElem? (i := 1373) (by decide +kernel), List.mem_of_getElem? (i := 1374) (by decide +kernel)⟩
theorem lw_p65 : lw_okq (⟨"PressedMenModel", "mayGo", "(I)Z"⟩, 39) := ⟨⟨by decide +kernel, by decide +kernel⟩, List.mem_of_getElem? (i := 974) (by decide +kernel), List.mem_of_getElem? (i := 1393) (by decide +kernel), List.mem_of_getElem? (i := 1394) (by decide +kernel)⟩
theorem lw_p66 : lw_okq (⟨"PressedMenModel", "fewest", "(II)I"⟩, 39) := ⟨⟨by decide +kernel, by decide +kernel⟩, List.mem_of_getElem? (i := 974) (by decide +kernel), List.mem_of_getElem? (i := 1397) (by decide +kernel), List.mem_of_getElem? (i := 1398) (by decide +kernel)⟩
theorem lw_p67 : lw_okq (⟨"PressedMenModel", "noTicket", "(I)Z"⟩, 39) := ⟨⟨by decide +kernel, by decide +kernel⟩, List.mem_of_getElem? (i := 974) (by decide +kernel), List.mem_of_getElem? (i := 1422) (by decide +kernel), List.mem_of_getElem? (i := 1423) (by decide +kernel)⟩
theorem lw_p68 : lw_okq (⟨"PressedMenModel", "give", "(III)V"⟩, 39) := ⟨⟨by decide +kernel, by decide +kernel⟩, List.mem_of_getElem? (i := 974) (by decide +kernel), List.mem_of_getElem? (i := 1430) (by decide +kernel), List.mem_of_getElem? (i := 1431) (by decide +kernel)⟩
def lw_privs_5 : List (MethodName × Nat) := [(⟨"PressedMenModel", "spared", "(II)I"⟩, 39), (⟨"PressedMenModel", "mayGo", "(I)Z"⟩, 39), (⟨"PressedMenModel", "fewest", "(II)I"⟩, 39), (⟨"PressedMenModel", "noTicket", "(I)Z"⟩, 39), (⟨"PressedMenModel", "give", "(III)V"⟩, 39)]
theorem lw_r5 : ∀ q ∈ lw_privs_5, lw_okq q := List.forall_mem_cons.mpr ⟨lw_p64, List.forall_mem_cons.mpr ⟨lw_p65, List.forall_mem_cons.mpr ⟨lw_p66, List.forall_mem_cons.mpr ⟨lw_p67, List.forall_mem_cons.mpr ⟨lw_p68, fun _ h => absurd h List.not_mem_nil⟩⟩⟩⟩⟩
def lw_privs : List (MethodName × Nat) := lw_privs_1 ++ (lw_privs_2 ++ (lw_privs_3 ++ (lw_privs_4 ++ (lw_privs_5))))
def lw_tbl : List Cond := k2_sels lw_privs ++ tables_1
theorem lw_privs_ok : ∀ q ∈ lw_privs, lw_okq q := by
  show ∀ q ∈ lw_privs_1 ++ (lw_privs_2 ++ (lw_privs_3 ++ (lw_privs_4 ++ (lw_privs_5)))), lw_okq q
  exact List.forall_mem_append.mpr ⟨lw_r1, List.forall_mem_append.mpr ⟨lw_r2, List.forall_mem_append.mpr ⟨lw_r3, List.forall_mem_append.mpr ⟨lw_r4, lw_r5⟩⟩⟩⟩
end
section
def RX0 : String := "PressedMen$Act"
def TX0 : u_T := fun k => match k with
  | 0 => ("PressedMen$Act", "tide", "I", true)
  | 1 => ("PressedMen$Act", "size", "I", false)
  | 2 => ("PressedMen$Act", "signs", "[B", true)
  | 3 => ("PressedMen$Act", "textsDue", "I", false)
  | 4 => ("PressedMen$Act", "digitsDue", "I", false)
  | _ => ("PressedMen$Act", "broken", "I", false)
def tyX0 : Nat → FieldType := fun k => match k with
  | 0 => .int
  | 1 => .int
  | 2 => .array .byte
  | 3 => .int
  | 4 => .int
  | _ => .int
abbrev wsX00 : List Cond := u_ws RX0 TX0 6
theorem nmX0 : ∀ a, a < 6 → ∀ b, b < 6 → a ≠ b → (TX0 a).2.1 ≠ (TX0 b).2.1 := by decide +kernel
theorem tyX0_ok : ∀ k, k < 6 → parseFieldDescriptor (TX0 k).2.2.1 = some (tyX0 k) := by decide +kernel
abbrev cX0_init : ByteArray := prog_2_method_1_code
def yX0_init : MethodName := ⟨RX0, "<init>", "(I)V"⟩
abbrev cX0_add : ByteArray := prog_2_method_2_code
def yX0_add : MethodName := ⟨RX0, "add", "(I)V"⟩
abbrev cX0_goesOnWith : ByteArray := prog_2_method_3_code
def yX0_goesOnWith : MethodName := ⟨RX0, "goesOnWith", "(I)Z"⟩
abbrev cX0_takesDigit : ByteArray := prog_2_method_4_code
def yX0_takesDigit : MethodName := ⟨RX0, "takesDigit", "(I)Z"⟩
abbrev cX0_isDigit : ByteArray := prog_2_method_5_code
def yX0_isDigit : MethodName := ⟨RX0, "isDigit", "(I)Z"⟩
abbrev cX0_faultAt : ByteArray := prog_2_method_6_code
def yX0_faultAt : MethodName := ⟨RX0, "faultAt", "()I"⟩
abbrev cX0_holds : ByteArray := prog_2_method_7_code
def yX0_holds : MethodName := ⟨RX0, "holds", "(LPressedMen$Man;Z)Z"⟩
abbrev cX0_testHolds : ByteArray := prog_2_method_8_code
def yX0_testHolds : MethodName := ⟨RX0, "testHolds", "(ILPressedMen$Man;Z)Z"⟩
abbrev cX0_numberBehind : ByteArray := prog_2_method_9_code
def yX0_numberBehind : MethodName := ⟨RX0, "numberBehind", "(I)I"⟩
def RX1 : String := "PressedMen$Gangs"
def TX1 : u_T := fun k => match k with
  | 0 => ("PressedMen$Gangs", "town", "LPressedMen$Town;", true)
  | 1 => ("PressedMen$Gangs", "takeable", "[I", true)
  | 2 => ("PressedMen$Gangs", "firstWalks", "[I", true)
  | _ => ("PressedMen$Gangs", "walked", "[I", true)
def tyX1 : Nat → FieldType := fun k => match k with
  | 0 => .object "PressedMen$Town"
  | 1 => .array .int
  | 2 => .array .int
  | _ => .array .int
abbrev wsX10 : List Cond := u_ws RX1 TX1 4
theorem nmX1 : ∀ a, a < 4 → ∀ b, b < 4 → a ≠ b → (TX1 a).2.1 ≠ (TX1 b).2.1 := by decide +kernel
theorem tyX1_ok : ∀ k, k < 4 → parseFieldDescriptor (TX1 k).2.2.1 = some (tyX1 k) := by decide +kernel
abbrev cX1_init : ByteArray := prog_3_method_1_code
def yX1_init : MethodName := ⟨RX1, "<init>", "(LPressedMen$Town;)V"⟩
abbrev cX1_forgetMen : ByteArray := prog_3_method_2_code
def yX1_forgetMen : MethodName := ⟨RX1, "forgetMen", "()V"⟩
abbrev cX1_addMan : ByteArray := prog_3_method_3_code
def yX1_addMan : MethodName := ⟨RX1, "addMan", "(I)V"⟩
abbrev cX1_streetOf : ByteArray := prog_3_method_4_code
def yX1_streetOf : MethodName := ⟨RX1, "streetOf", "(II)I"⟩
abbrev cX1_mostMet : ByteArray := prog_3_method_5_code
def yX1_mostMet : MethodName := ⟨RX1, "mostMet", "(I)I"⟩
abbrev cX1_lay : ByteArray := prog_3_method_6_code
def yX1_lay : MethodName := ⟨RX1, "lay", "(II)V"⟩
abbrev cX1_firstMate : ByteArray := prog_3_method_7_code
def yX1_firstMate : MethodName := ⟨RX1, "firstMate", "(III)I"⟩
abbrev cX1_menMet : ByteArray := prog_3_method_8_code
def yX1_menMet : MethodName := ⟨RX1, "menMet", "(I)I"⟩
abbrev cX1_menMetByBoth : ByteArray := prog_3_method_9_code
def yX1_menMetByBoth : MethodName := ⟨RX1, "menMetByBoth", "(II)I"⟩
abbrev cX1_findFirstWalks : ByteArray := prog_3_method_10_code
def yX1_findFirstWalks : MethodName := ⟨RX1, "findFirstWalks", "(I)V"⟩
abbrev cX1_walkOut : ByteArray := prog_3_method_11_code
def yX1_walkOut : MethodName := ⟨RX1, "walkOut", "(III)Z"⟩
abbrev cX1_kindWalked : ByteArray := prog_3_method_12_code
def yX1_kindWalked : MethodName := ⟨RX1, "kindWalked", "(I)I"⟩
def RX2 : String := "PressedMen$Levy"
def TX2 : u_T := fun k => match k with
  | 0 => ("PressedMen$Levy", "atHand", "I", false)
  | 1 => ("PressedMen$Levy", "seamenAtHand", "I", false)
  | 2 => ("PressedMen$Levy", "toSpare", "I", false)
  | _ => ("PressedMen$Levy", "seamenToSpare", "I", false)
def tyX2 : Nat → FieldType := fun k => match k with
  | 0 => .int
  | 1 => .int
  | 2 => .int
  | _ => .int
abbrev wsX20 : List Cond := u_ws RX2 TX2 4
theorem nmX2 : ∀ a, a < 4 → ∀ b, b < 4 → a ≠ b → (TX2 a).2.1 ≠ (TX2 b).2.1 := by decide +kernel
theorem tyX2_ok : ∀ k, k < 4 → parseFieldDescriptor (TX2 k).2.2.1 = some (tyX2 k) := by decide +kernel
abbrev cX2_init : ByteArray := prog_4_method_1_code
def yX2_init : MethodName := ⟨RX2, "<init>", "()V"⟩
abbrev cX2_begin : ByteArray := prog_4_method_2_code
def yX2_begin : MethodName := ⟨RX2, "begin", "(II)V"⟩
abbrev cX2_addCrew : ByteArray := prog_4_method_3_code
def yX2_addCrew : MethodName := ⟨RX2, "addCrew", "(II)V"⟩
abbrev cX2_addSpare : ByteArray := prog_4_method_4_code
def yX2_addSpare : MethodName := ⟨RX2, "addSpare", "(II)V"⟩
abbrev cX2_leastFor : ByteArray := prog_4_method_5_code
def yX2_leastFor : MethodName := ⟨RX2, "leastFor", "(II)I"⟩
def RX3 : String := "PressedMen$Man"
def TX3 : u_T := fun k => match k with
  | 0 => ("PressedMen$Man", "age", "I", true)
  | 1 => ("PressedMen$Man", "hair", "I", true)
  | 2 => ("PressedMen$Man", "scar", "I", true)
  | 3 => ("PressedMen$Man", "height", "I", true)
  | 4 => ("PressedMen$Man", "trade", "I", true)
  | 5 => ("PressedMen$Man", "years", "I", true)
  | 6 => ("PressedMen$Man", "home", "I", true)
  | 7 => ("PressedMen$Man", "isShy", "Z", false)
  | 8 => ("PressedMen$Man", "place", "I", false)
  | 9 => ("PressedMen$Man", "got", "I", false)
  | 10 => ("PressedMen$Man", "lastTaking", "LPressedMen$Taking;", false)
  | 11 => ("PressedMen$Man", "moveTides", "[I", false)
  | 12 => ("PressedMen$Man", "movePlaces", "[I", false)
  | _ => ("PressedMen$Man", "moves", "I", false)
def tyX3 : Nat → FieldType := fun k => match k with
  | 0 => .int
  | 1 => .int
  | 2 => .int
  | 3 => .int
  | 4 => .int
  | 5 => .int
  | 6 => .int
  | 7 => .boolean
  | 8 => .int
  | 9 => .int
  | 10 => .object "PressedMen$Taking"
  | 11 => .array .int
  | 12 => .array .int
  | _ => .int
abbrev wsX30 : List Cond := u_ws RX3 TX3 14
theorem nmX3 : ∀ a, a < 14 → ∀ b, b < 14 → a ≠ b → (TX3 a).2.1 ≠ (TX3 b).2.1 := by decide +kernel
theorem tyX3_ok : ∀ k, k < 14 → parseFieldDescriptor (TX3 k).2.2.1 = some (tyX3 k) := by decide +kernel
abbrev cX3_init : ByteArray := prog_5_method_1_code
def yX3_init : MethodName := ⟨RX3, "<init>", "(IIIIIII)V"⟩
abbrev cX3_isSeaman : ByteArray := prog_5_method_2_code
def yX3_isSeaman : MethodName := ⟨RX3, "isSeaman", "()Z"⟩
abbrev cX3_goTo : ByteArray := prog_5_method_3_code
def yX3_goTo : MethodName := ⟨RX3, "goTo", "(II)I"⟩
abbrev cX3_makeRoom : ByteArray := prog_5_method_4_code
def yX3_makeRoom : MethodName := ⟨RX3, "makeRoom", "()V"⟩
abbrev cX3_lastMoved : ByteArray := prog_5_method_5_code
def yX3_lastMoved : MethodName := ⟨RX3, "lastMoved", "()I"⟩
abbrev cX3_moveAsOf : ByteArray := prog_5_method_6_code
def yX3_moveAsOf : MethodName := ⟨RX3, "moveAsOf", "(I)I"⟩
abbrev cX3_placeAsOf : ByteArray := prog_5_method_7_code
def yX3_placeAsOf : MethodName := ⟨RX3, "placeAsOf", "(I)I"⟩
abbrev cX3_tidesOffShore : ByteArray := prog_5_method_8_code
def yX3_tidesOffShore : MethodName := ⟨RX3, "tidesOffShore", "(I)I"⟩
def RX4 : String := "PressedMen$Paper"
def TX4 : u_T := fun k => match k with
  | 0 => ("PressedMen$Paper", "owner", "I", true)
  | 1 => ("PressedMen$Paper", "hair", "I", true)
  | 2 => ("PressedMen$Paper", "scar", "I", true)
  | 3 => ("PressedMen$Paper", "ages", "LPressedMen$Span;", true)
  | 4 => ("PressedMen$Paper", "heights", "LPressedMen$Span;", true)
  | _ => ("PressedMen$Paper", "tides", "LPressedMen$Span;", true)
def tyX4 : Nat → FieldType := fun k => match k with
  | 0 => .int
  | 1 => .int
  | 2 => .int
  | 3 => .object "PressedMen$Span"
  | 4 => .object "PressedMen$Span"
  | _ => .object "PressedMen$Span"
abbrev wsX40 : List Cond := u_ws RX4 TX4 6
theorem nmX4 : ∀ a, a < 6 → ∀ b, b < 6 → a ≠ b → (TX4 a).2.1 ≠ (TX4 b).2.1 := by decide +kernel
theorem tyX4_ok : ∀ k, k < 6 → parseFieldDescriptor (TX4 k).2.2.1 = some (tyX4 k) := by decide +kernel
abbrev cX4_init : ByteArray := prog_6_method_1_code
def yX4_init : MethodName := ⟨RX4, "<init>", "(IIILPressedMen$Span;LPressedMen$Span;LPressedMen$Span;)V"⟩
abbrev cX4_coverage : ByteArray := prog_6_method_2_code
def yX4_coverage : MethodName := ⟨RX4, "coverage", "(LPressedMen$Man;I)I"⟩
abbrev cX4_describes : ByteArray := prog_6_method_3_code
def yX4_describes : MethodName := ⟨RX4, "describes", "(LPressedMen$Man;)Z"⟩
def RX5 : String := "PressedMen$Register"
def TX5 : u_T := fun k => match k with
  | 0 => ("PressedMen$Register", "size", "I", false)
  | 1 => ("PressedMen$Register", "takings", "[LPressedMen$Taking;", true)
  | _ => ("PressedMen$Register", "quietUpTo", "I", false)
def tyX5 : Nat → FieldType := fun k => match k with
  | 0 => .int
  | 1 => .array (.object "PressedMen$Taking")
  | _ => .int
abbrev wsX50 : List Cond := u_ws RX5 TX5 3
theorem nmX5 : ∀ a, a < 3 → ∀ b, b < 3 → a ≠ b → (TX5 a).2.1 ≠ (TX5 b).2.1 := by decide +kernel
theorem tyX5_ok : ∀ k, k < 3 → parseFieldDescriptor (TX5 k).2.2.1 = some (tyX5 k) := by decide +kernel
abbrev cX5_init : ByteArray := prog_7_method_1_code
def yX5_init : MethodName := ⟨RX5, "<init>", "()V"⟩
abbrev cX5_add : ByteArray := prog_7_method_2_code
def yX5_add : MethodName := ⟨RX5, "add", "(LPressedMen$Taking;)V"⟩
abbrev cX5_find : ByteArray := prog_7_method_3_code
def yX5_find : MethodName := ⟨RX5, "find", "(I)LPressedMen$Taking;"⟩
abbrev cX5_hush : ByteArray := prog_7_method_4_code
def yX5_hush : MethodName := ⟨RX5, "hush", "()V"⟩
abbrev cX5_takingsInNews : ByteArray := prog_7_method_5_code
def yX5_takingsInNews : MethodName := ⟨RX5, "takingsInNews", "()I"⟩
abbrev cX5_firstHeard : ByteArray := prog_7_method_6_code
def yX5_firstHeard : MethodName := ⟨RX5, "firstHeard", "(ILPressedMen$Town;)I"⟩
abbrev cX5_menWhoShowed : ByteArray := prog_7_method_7_code
def yX5_menWhoShowed : MethodName := ⟨RX5, "menWhoShowed", "(III)I"⟩
def RX6 : String := "PressedMen$Ship"
def TX6 : u_T := fun k => match k with
  | 0 => ("PressedMen$Ship", "kind", "I", true)
  | 1 => ("PressedMen$Ship", "need", "I", true)
  | 2 => ("PressedMen$Ship", "seamen", "I", true)
  | 3 => ("PressedMen$Ship", "least", "I", true)
  | _ => ("PressedMen$Ship", "atHome", "Z", false)
def tyX6 : Nat → FieldType := fun k => match k with
  | 0 => .int
  | 1 => .int
  | 2 => .int
  | 3 => .int
  | _ => .boolean
abbrev wsX60 : List Cond := u_ws RX6 TX6 5
theorem nmX6 : ∀ a, a < 5 → ∀ b, b < 5 → a ≠ b → (TX6 a).2.1 ≠ (TX6 b).2.1 := by decide +kernel
theorem tyX6_ok : ∀ k, k < 5 → parseFieldDescriptor (TX6 k).2.2.1 = some (tyX6 k) := by decide +kernel
abbrev cX6_init : ByteArray := prog_8_method_1_code
def yX6_init : MethodName := ⟨RX6, "<init>", "(IIII)V"⟩
def RX7 : String := "PressedMen$Span"
def TX7 : u_T := fun k => match k with
  | 0 => ("PressedMen$Span", "from", "I", true)
  | _ => ("PressedMen$Span", "to", "I", true)
def tyX7 : Nat → FieldType := fun k => match k with
  | 0 => .int
  | _ => .int
abbrev wsX70 : List Cond := u_ws RX7 TX7 2
theorem nmX7 : ∀ a, a < 2 → ∀ b, b < 2 → a ≠ b → (TX7 a).2.1 ≠ (TX7 b).2.1 := by decide +kernel
theorem tyX7_ok : ∀ k, k < 2 → parseFieldDescriptor (TX7 k).2.2.1 = some (tyX7 k) := by decide +kernel
abbrev cX7_init : ByteArray := prog_9_method_1_code
def yX7_init : MethodName := ⟨RX7, "<init>", "(II)V"⟩
abbrev cX7_holds : ByteArray := prog_9_method_2_code
def yX7_holds : MethodName := ⟨RX7, "holds", "(I)Z"⟩
abbrev cX7_width : ByteArray := prog_9_method_3_code
def yX7_width : MethodName := ⟨RX7, "width", "()I"⟩
def RX8 : String := "PressedMen$Taking"
def TX8 : u_T := fun k => match k with
  | 0 => ("PressedMen$Taking", "tide", "I", true)
  | 1 => ("PressedMen$Taking", "man", "I", true)
  | 2 => ("PressedMen$Taking", "paper", "I", true)
  | 3 => ("PressedMen$Taking", "from", "I", true)
  | 4 => ("PressedMen$Taking", "rightAsShown", "Z", true)
  | _ => ("PressedMen$Taking", "rightInTruth", "Z", true)
def tyX8 : Nat → FieldType := fun k => match k with
  | 0 => .int
  | 1 => .int
  | 2 => .int
  | 3 => .int
  | 4 => .boolean
  | _ => .boolean
abbrev wsX80 : List Cond := u_ws RX8 TX8 6
theorem nmX8 : ∀ a, a < 6 → ∀ b, b < 6 → a ≠ b → (TX8 a).2.1 ≠ (TX8 b).2.1 := by decide +kernel
theorem tyX8_ok : ∀ k, k < 6 → parseFieldDescriptor (TX8 k).2.2.1 = some (tyX8 k) := by decide +kernel
abbrev cX8_init : ByteArray := prog_10_method_1_code
def yX8_init : MethodName := ⟨RX8, "<init>", "(IIIIZZ)V"⟩
def RX9 : String := "PressedMen$Ticket"
def TX9 : u_T := fun k => match k with
  | 0 => ("PressedMen$Ticket", "man", "I", true)
  | 1 => ("PressedMen$Ticket", "worth", "I", true)
  | 2 => ("PressedMen$Ticket", "holder", "I", false)
  | 3 => ("PressedMen$Ticket", "isPaid", "Z", false)
  | _ => ("PressedMen$Ticket", "paidFalsely", "I", false)
def tyX9 : Nat → FieldType := fun k => match k with
  | 0 => .int
  | 1 => .int
  | 2 => .int
  | 3 => .boolean
  | _ => .int
abbrev wsX90 : List Cond := u_ws RX9 TX9 5
theorem nmX9 : ∀ a, a < 5 → ∀ b, b < 5 → a ≠ b → (TX9 a).2.1 ≠ (TX9 b).2.1 := by decide +kernel
theorem tyX9_ok : ∀ k, k < 5 → parseFieldDescriptor (TX9 k).2.2.1 = some (tyX9 k) := by decide +kernel
abbrev cX9_init : ByteArray := prog_11_method_1_code
def yX9_init : MethodName := ⟨RX9, "<init>", "(II)V"⟩
def RX10 : String := "PressedMen$Town"
def TX10 : u_T := fun k => match k with
  | 0 => ("PressedMen$Town", "streets", "I", false)
  | 1 => ("PressedMen$Town", "ways", "[Z", true)
  | 2 => ("PressedMen$Town", "hops", "[I", true)
  | _ => ("PressedMen$Town", "measured", "Z", false)
def tyX10 : Nat → FieldType := fun k => match k with
  | 0 => .int
  | 1 => .array .boolean
  | 2 => .array .int
  | _ => .boolean
abbrev wsX100 : List Cond := u_ws RX10 TX10 4
theorem nmX10 : ∀ a, a < 4 → ∀ b, b < 4 → a ≠ b → (TX10 a).2.1 ≠ (TX10 b).2.1 := by decide +kernel
theorem tyX10_ok : ∀ k, k < 4 → parseFieldDescriptor (TX10 k).2.2.1 = some (tyX10 k) := by decide +kernel
abbrev cX10_init : ByteArray := prog_12_method_1_code
def yX10_init : MethodName := ⟨RX10, "<init>", "()V"⟩
abbrev cX10_has : ByteArray := prog_12_method_2_code
def yX10_has : MethodName := ⟨RX10, "has", "(I)Z"⟩
abbrev cX10_cell : ByteArray := prog_12_method_3_code
def yX10_cell : MethodName := ⟨RX10, "cell", "(II)I"⟩
abbrev cX10_resize : ByteArray := prog_12_method_4_code
def yX10_resize : MethodName := ⟨RX10, "resize", "(I)V"⟩
abbrev cX10_setWay : ByteArray := prog_12_method_5_code
def yX10_setWay : MethodName := ⟨RX10, "setWay", "(IIZ)Z"⟩
abbrev cX10_isStep : ByteArray := prog_12_method_6_code
def yX10_isStep : MethodName := ⟨RX10, "isStep", "(II)Z"⟩
abbrev cX10_hops : ByteArray := prog_12_method_7_code
def yX10_hops : MethodName := ⟨RX10, "hops", "(II)I"⟩
abbrev cX10_measure : ByteArray := prog_12_method_8_code
def yX10_measure : MethodName := ⟨RX10, "measure", "()V"⟩
def RX11 : String := "PressedMen"
def TX11 : u_T := fun k => match k with
  | 0 => ("PressedMen", "town", "LPressedMen$Town;", true)
  | 1 => ("PressedMen", "men", "[LPressedMen$Man;", true)
  | 2 => ("PressedMen", "manCount", "I", false)
  | 3 => ("PressedMen", "papers", "[LPressedMen$Paper;", true)
  | 4 => ("PressedMen", "paperCount", "I", false)
  | 5 => ("PressedMen", "acts", "[LPressedMen$Act;", true)
  | 6 => ("PressedMen", "actCount", "I", false)
  | 7 => ("PressedMen", "register", "LPressedMen$Register;", true)
  | 8 => ("PressedMen", "ships", "[LPressedMen$Ship;", true)
  | 9 => ("PressedMen", "shipCount", "I", false)
  | 10 => ("PressedMen", "tickets", "[LPressedMen$Ticket;", true)
  | 11 => ("PressedMen", "ticketCount", "I", false)
  | 12 => ("PressedMen", "purses", "[I", true)
  | 13 => ("PressedMen", "heardBy", "[I", true)
  | 14 => ("PressedMen", "laying", "LPressedMen$Gangs;", true)
  | 15 => ("PressedMen", "levy", "LPressedMen$Levy;", true)
  | 16 => ("PressedMen", "now", "I", false)
  | 17 => ("PressedMen", "room", "I", false)
  | _ => ("PressedMen", "rate", "I", false)
def tyX11 : Nat → FieldType := fun k => match k with
  | 0 => .object "PressedMen$Town"
  | 1 => .array (.object "PressedMen$Man")
  | 2 => .int
  | 3 => .array (.object "PressedMen$Paper")
  | 4 => .int
  | 5 => .array (.object "PressedMen$Act")
  | 6 => .int
  | 7 => .object "PressedMen$Register"
  | 8 => .array (.object "PressedMen$Ship")
  | 9 => .int
  | 10 => .array (.object "PressedMen$Ticket")
  | 11 => .int
  | 12 => .array .int
  | 13 => .array .int
  | 14 => .object "PressedMen$Gangs"
  | 15 => .object "PressedMen$Levy"
  | 16 => .int
  | 17 => .int
  | _ => .int
abbrev wsX110 : List Cond := u_ws RX11 TX11 19
theorem nmX11 : ∀ a, a < 19 → ∀ b, b < 19 → a ≠ b → (TX11 a).2.1 ≠ (TX11 b).2.1 := by decide +kernel
theorem tyX11_ok : ∀ k, k < 19 → parseFieldDescriptor (TX11 k).2.2.1 = some (tyX11 k) := by decide +kernel
abbrev cX11_init : ByteArray := prog_1_method_1_code
def yX11_init : MethodName := ⟨RX11, "<init>", "()V"⟩
abbrev cX11_streets : ByteArray := prog_1_method_2_code
def yX11_streets : MethodName := ⟨RX11, "streets", "(I)I"⟩
abbrev cX11_way : ByteArray := prog_1_method_3_code
def yX11_way : MethodName := ⟨RX11, "way", "(IIZ)I"⟩
abbrev cX11_far : ByteArray := prog_1_method_4_code
def yX11_far : MethodName := ⟨RX11, "far", "(II)I"⟩
abbrev cX11_man : ByteArray := prog_1_method_5_code
def yX11_man : MethodName := ⟨RX11, "man", "(IIIIIII)I"⟩
abbrev cX11_about : ByteArray := prog_1_method_6_code
def yX11_about : MethodName := ⟨RX11, "about", "(II)I"⟩
abbrev cX11_shy : ByteArray := prog_1_method_7_code
def yX11_shy : MethodName := ⟨RX11, "shy", "(IZ)I"⟩
abbrev cX11_where : ByteArray := prog_1_method_8_code
def yX11_where : MethodName := ⟨RX11, "where", "(II)I"⟩
abbrev cX11_at : ByteArray := prog_1_method_9_code
def yX11_at : MethodName := ⟨RX11, "at", "(I)I"⟩
abbrev cX11_tide : ByteArray := prog_1_method_10_code
def yX11_tide : MethodName := ⟨RX11, "tide", "()I"⟩
abbrev cX11_pass : ByteArray := prog_1_method_11_code
def yX11_pass : MethodName := ⟨RX11, "pass", "(I)I"⟩
abbrev cX11_walk : ByteArray := prog_1_method_12_code
def yX11_walk : MethodName := ⟨RX11, "walk", "(II)I"⟩
abbrev cX11_run : ByteArray := prog_1_method_13_code
def yX11_run : MethodName := ⟨RX11, "run", "(I)I"⟩
abbrev cX11_paper : ByteArray := prog_1_method_14_code
def yX11_paper : MethodName := ⟨RX11, "paper", "(IIIIIIIII)I"⟩
abbrev cX11_cover : ByteArray := prog_1_method_15_code
def yX11_cover : MethodName := ⟨RX11, "cover", "(III)I"⟩
abbrev cX11_same : ByteArray := prog_1_method_16_code
def yX11_same : MethodName := ⟨RX11, "same", "(II)I"⟩
abbrev cX11_shown : ByteArray := prog_1_method_17_code
def yX11_shown : MethodName := ⟨RX11, "shown", "(II)I"⟩
abbrev cX11_act : ByteArray := prog_1_method_18_code
def yX11_act : MethodName := ⟨RX11, "act", "(I)I"⟩
abbrev cX11_sign : ByteArray := prog_1_method_19_code
def yX11_sign : MethodName := ⟨RX11, "sign", "(II)I"⟩
abbrev cX11_fault : ByteArray := prog_1_method_20_code
def yX11_fault : MethodName := ⟨RX11, "fault", "(I)I"⟩
abbrev cX11_force : ByteArray := prog_1_method_21_code
def yX11_force : MethodName := ⟨RX11, "force", "(I)I"⟩
abbrev cX11_may : ByteArray := prog_1_method_22_code
def yX11_may : MethodName := ⟨RX11, "may", "(II)I"⟩
abbrev cX11_mayTruly : ByteArray := prog_1_method_23_code
def yX11_mayTruly : MethodName := ⟨RX11, "mayTruly", "(I)I"⟩
abbrev cX11_take : ByteArray := prog_1_method_24_code
def yX11_take : MethodName := ⟨RX11, "take", "(II)I"⟩
abbrev cX11_taking : ByteArray := prog_1_method_25_code
def yX11_taking : MethodName := ⟨RX11, "taking", "(II)I"⟩
abbrev cX11_wronged : ByteArray := prog_1_method_26_code
def yX11_wronged : MethodName := ⟨RX11, "wronged", "()I"⟩
abbrev cX11_wrongedMan : ByteArray := prog_1_method_27_code
def yX11_wrongedMan : MethodName := ⟨RX11, "wrongedMan", "(I)I"⟩
abbrev cX11_letGo : ByteArray := prog_1_method_28_code
def yX11_letGo : MethodName := ⟨RX11, "letGo", "(I)I"⟩
abbrev cX11_quiet : ByteArray := prog_1_method_29_code
def yX11_quiet : MethodName := ⟨RX11, "quiet", "()I"⟩
abbrev cX11_heard : ByteArray := prog_1_method_30_code
def yX11_heard : MethodName := ⟨RX11, "heard", "(I)I"⟩
abbrev cX11_tender : ByteArray := prog_1_method_31_code
def yX11_tender : MethodName := ⟨RX11, "tender", "(II)I"⟩
abbrev cX11_met : ByteArray := prog_1_method_32_code
def yX11_met : MethodName := ⟨RX11, "met", "(II)I"⟩
abbrev cX11_laid : ByteArray := prog_1_method_33_code
def yX11_laid : MethodName := ⟨RX11, "laid", "(IIII)I"⟩
abbrev cX11_ship : ByteArray := prog_1_method_34_code
def yX11_ship : MethodName := ⟨RX11, "ship", "(IIII)I"⟩
abbrev cX11_of : ByteArray := prog_1_method_35_code
def yX11_of : MethodName := ⟨RX11, "of", "(II)I"⟩
abbrev cX11_spare : ByteArray := prog_1_method_36_code
def yX11_spare : MethodName := ⟨RX11, "spare", "(II)I"⟩
abbrev cX11_board : ByteArray := prog_1_method_37_code
def yX11_board : MethodName := ⟨RX11, "board", "(II)I"⟩
abbrev cX11_turn : ByteArray := prog_1_method_38_code
def yX11_turn : MethodName := ⟨RX11, "turn", "(II)I"⟩
abbrev cX11_notAshore : ByteArray := prog_1_method_39_code
def yX11_notAshore : MethodName := ⟨RX11, "notAshore", "(II)I"⟩
abbrev cX11_taken : ByteArray := prog_1_method_40_code
def yX11_taken : MethodName := ⟨RX11, "taken", "(II)I"⟩
abbrev cX11_fleet : ByteArray := prog_1_method_41_code
def yX11_fleet : MethodName := ⟨RX11, "fleet", "(I)I"⟩
abbrev cX11_sail : ByteArray := prog_1_method_42_code
def yX11_sail : MethodName := ⟨RX11, "sail", "(I)I"⟩
abbrev cX11_comeHome : ByteArray := prog_1_method_43_code
def yX11_comeHome : MethodName := ⟨RX11, "comeHome", "(I)I"⟩
abbrev cX11_ticket : ByteArray := prog_1_method_44_code
def yX11_ticket : MethodName := ⟨RX11, "ticket", "(III)I"⟩
abbrev cX11_sell : ByteArray := prog_1_method_45_code
def yX11_sell : MethodName := ⟨RX11, "sell", "(III)I"⟩
abbrev cX11_pay : ByteArray := prog_1_method_46_code
def yX11_pay : MethodName := ⟨RX11, "pay", "(II)I"⟩
abbrev cX11_ticketOf : ByteArray := prog_1_method_47_code
def yX11_ticketOf : MethodName := ⟨RX11, "ticketOf", "(II)I"⟩
abbrev cX11_purse : ByteArray := prog_1_method_48_code
def yX11_purse : MethodName := ⟨RX11, "purse", "(I)I"⟩
abbrev cX11_wages : ByteArray := prog_1_method_49_code
def yX11_wages : MethodName := ⟨RX11, "wages", "(IZ)I"⟩
abbrev cX11_count : ByteArray := prog_1_method_50_code
def yX11_count : MethodName := ⟨RX11, "count", "(I)I"⟩
abbrev cX11_within : ByteArray := prog_1_method_51_code
def yX11_within : MethodName := ⟨RX11, "within", "(III)Z"⟩
abbrev cX11_asNumber : ByteArray := prog_1_method_52_code
def yX11_asNumber : MethodName := ⟨RX11, "asNumber", "(Z)I"⟩
abbrev cX11_isTide : ByteArray := prog_1_method_53_code
def yX11_isTide : MethodName := ⟨RX11, "isTide", "(I)Z"⟩
abbrev cX11_isWeather : ByteArray := prog_1_method_54_code
def yX11_isWeather : MethodName := ⟨RX11, "isWeather", "(I)Z"⟩
abbrev cX11_isHolder : ByteArray := prog_1_method_55_code
def yX11_isHolder : MethodName := ⟨RX11, "isHolder", "(I)Z"⟩
abbrev cX11_isMark : ByteArray := prog_1_method_56_code
def yX11_isMark : MethodName := ⟨RX11, "isMark", "(I)Z"⟩
abbrev cX11_isSpan : ByteArray := prog_1_method_57_code
def yX11_isSpan : MethodName := ⟨RX11, "isSpan", "(III)Z"⟩
abbrev cX11_isStreet : ByteArray := prog_1_method_58_code
def yX11_isStreet : MethodName := ⟨RX11, "isStreet", "(I)Z"⟩
abbrev cX11_isShip : ByteArray := prog_1_method_59_code
def yX11_isShip : MethodName := ⟨RX11, "isShip", "(I)Z"⟩
abbrev cX11_isAshore : ByteArray := prog_1_method_60_code
def yX11_isAshore : MethodName := ⟨RX11, "isAshore", "(I)Z"⟩
abbrev cX11_findMan : ByteArray := prog_1_method_61_code
def yX11_findMan : MethodName := ⟨RX11, "findMan", "(I)LPressedMen$Man;"⟩
abbrev cX11_findPaper : ByteArray := prog_1_method_62_code
def yX11_findPaper : MethodName := ⟨RX11, "findPaper", "(I)LPressedMen$Paper;"⟩
abbrev cX11_isPaperOrNone : ByteArray := prog_1_method_63_code
def yX11_isPaperOrNone : MethodName := ⟨RX11, "isPaperOrNone", "(I)Z"⟩
abbrev cX11_findAct : ByteArray := prog_1_method_64_code
def yX11_findAct : MethodName := ⟨RX11, "findAct", "(I)LPressedMen$Act;"⟩
abbrev cX11_findShip : ByteArray := prog_1_method_65_code
def yX11_findShip : MethodName := ⟨RX11, "findShip", "(I)LPressedMen$Ship;"⟩
abbrev cX11_findTicket : ByteArray := prog_1_method_66_code
def yX11_findTicket : MethodName := ⟨RX11, "findTicket", "(I)LPressedMen$Ticket;"⟩
abbrev cX11_isPlace : ByteArray := prog_1_method_67_code
def yX11_isPlace : MethodName := ⟨RX11, "isPlace", "(I)Z"⟩
abbrev cX11_isInShipAtHome : ByteArray := prog_1_method_68_code
def yX11_isInShipAtHome : MethodName := ⟨RX11, "isInShipAtHome", "(I)Z"⟩
abbrev cX11_isInShipOf : ByteArray := prog_1_method_69_code
def yX11_isInShipOf : MethodName := ⟨RX11, "isInShipOf", "(II)Z"⟩
abbrev cX11_isWithinReach : ByteArray := prog_1_method_70_code
def yX11_isWithinReach : MethodName := ⟨RX11, "isWithinReach", "(I)Z"⟩
abbrev cX11_menIn : ByteArray := prog_1_method_71_code
def yX11_menIn : MethodName := ⟨RX11, "menIn", "(I)I"⟩
abbrev cX11_seamenIn : ByteArray := prog_1_method_72_code
def yX11_seamenIn : MethodName := ⟨RX11, "seamenIn", "(I)I"⟩
abbrev cX11_menOffTheStreets : ByteArray := prog_1_method_73_code
def yX11_menOffTheStreets : MethodName := ⟨RX11, "menOffTheStreets", "()I"⟩
abbrev cX11_hideTheShy : ByteArray := prog_1_method_74_code
def yX11_hideTheShy : MethodName := ⟨RX11, "hideTheShy", "()V"⟩
abbrev cX11_sickenTheCrowd : ByteArray := prog_1_method_75_code
def yX11_sickenTheCrowd : MethodName := ⟨RX11, "sickenTheCrowd", "()V"⟩
abbrev cX11_sendTheSickHome : ByteArray := prog_1_method_76_code
def yX11_sendTheSickHome : MethodName := ⟨RX11, "sendTheSickHome", "()V"⟩
abbrev cX11_actInForce : ByteArray := prog_1_method_77_code
def yX11_actInForce : MethodName := ⟨RX11, "actInForce", "(I)I"⟩
abbrev cX11_mayAsShown : ByteArray := prog_1_method_78_code
def yX11_mayAsShown : MethodName := ⟨RX11, "mayAsShown", "(LPressedMen$Man;I)Z"⟩
abbrev cX11_mayInTruth : ByteArray := prog_1_method_79_code
def yX11_mayInTruth : MethodName := ⟨RX11, "mayInTruth", "(I)Z"⟩
abbrev cX11_holdsInTruth : ByteArray := prog_1_method_80_code
def yX11_holdsInTruth : MethodName := ⟨RX11, "holdsInTruth", "(LPressedMen$Act;I)Z"⟩
abbrev cX11_isCoveredInTruth : ByteArray := prog_1_method_81_code
def yX11_isCoveredInTruth : MethodName := ⟨RX11, "isCoveredInTruth", "(LPressedMen$Man;I)Z"⟩
abbrev cX11_countTheTakeable : ByteArray := prog_1_method_82_code
def yX11_countTheTakeable : MethodName := ⟨RX11, "countTheTakeable", "()V"⟩
abbrev cX11_isWronged : ByteArray := prog_1_method_83_code
def yX11_isWronged : MethodName := ⟨RX11, "isWronged", "(LPressedMen$Man;)Z"⟩
abbrev cX11_spareOf : ByteArray := prog_1_method_84_code
def yX11_spareOf : MethodName := ⟨RX11, "spareOf", "(LPressedMen$Ship;II)I"⟩
abbrev cX11_kingsAtHome : ByteArray := prog_1_method_85_code
def yX11_kingsAtHome : MethodName := ⟨RX11, "kingsAtHome", "()I"⟩
abbrev cX11_musterLevy : ByteArray := prog_1_method_86_code
def yX11_musterLevy : MethodName := ⟨RX11, "musterLevy", "(I)V"⟩
abbrev cX11_leastTaken : ByteArray := prog_1_method_87_code
def yX11_leastTaken : MethodName := ⟨RX11, "leastTaken", "(I)I"⟩
abbrev cX11_give : ByteArray := prog_1_method_88_code
def yX11_give : MethodName := ⟨RX11, "give", "(LPressedMen$Ticket;II)V"⟩
abbrev cX11_owedTo : ByteArray := prog_1_method_89_code
def yX11_owedTo : MethodName := ⟨RX11, "owedTo", "(I)I"⟩
def RX12 : String := "PressedMenModel"
def TX12 : u_T := fun k => match k with
  | 0 => ("PressedMenModel", "thrown", "I", false)
  | 1 => ("PressedMenModel", "streets", "I", false)
  | 2 => ("PressedMenModel", "isWay", "[Z", true)
  | 3 => ("PressedMenModel", "far", "[I", true)
  | 4 => ("PressedMenModel", "tide", "I", false)
  | 5 => ("PressedMenModel", "men", "I", false)
  | 6 => ("PressedMenModel", "man", "[I", true)
  | 7 => ("PressedMenModel", "sickSince", "[I", true)
  | 8 => ("PressedMenModel", "place", "[I", true)
  | 9 => ("PressedMenModel", "ships", "I", false)
  | 10 => ("PressedMenModel", "kind", "[I", true)
  | 11 => ("PressedMenModel", "need", "[I", true)
  | 12 => ("PressedMenModel", "seamen", "[I", true)
  | 13 => ("PressedMenModel", "least", "[I", true)
  | 14 => ("PressedMenModel", "isOut", "[Z", true)
  | 15 => ("PressedMenModel", "papers", "I", false)
  | 16 => ("PressedMenModel", "paper", "[I", true)
  | 17 => ("PressedMenModel", "acts", "I", false)
  | 18 => ("PressedMenModel", "actTide", "[I", true)
  | 19 => ("PressedMenModel", "signs", "[I", true)
  | 20 => ("PressedMenModel", "sign", "[I", true)
  | 21 => ("PressedMenModel", "stack", "[Z", true)
  | 22 => ("PressedMenModel", "takings", "I", false)
  | 23 => ("PressedMenModel", "taking", "[I", true)
  | 24 => ("PressedMenModel", "quietFrom", "I", false)
  | 25 => ("PressedMenModel", "room", "I", false)
  | 26 => ("PressedMenModel", "rate", "I", false)
  | 27 => ("PressedMenModel", "there", "[I", true)
  | 28 => ("PressedMenModel", "walked", "[I", true)
  | 29 => ("PressedMenModel", "metAt", "[I", true)
  | 30 => ("PressedMenModel", "bestCode", "I", false)
  | 31 => ("PressedMenModel", "tickets", "I", false)
  | 32 => ("PressedMenModel", "ticketMan", "[I", true)
  | 33 => ("PressedMenModel", "worth", "[I", true)
  | 34 => ("PressedMenModel", "holder", "[I", true)
  | 35 => ("PressedMenModel", "isPaid", "[Z", true)
  | 36 => ("PressedMenModel", "falsely", "[I", true)
  | 37 => ("PressedMenModel", "purse", "[I", true)
  | _ => ("PressedMenModel", "got", "[I", true)
def tyX12 : Nat → FieldType := fun k => match k with
  | 0 => .int
  | 1 => .int
  | 2 => .array .boolean
  | 3 => .array .int
  | 4 => .int
  | 5 => .int
  | 6 => .array .int
  | 7 => .array .int
  | 8 => .array .int
  | 9 => .int
  | 10 => .array .int
  | 11 => .array .int
  | 12 => .array .int
  | 13 => .array .int
  | 14 => .array .boolean
  | 15 => .int
  | 16 => .array .int
  | 17 => .int
  | 18 => .array .int
  | 19 => .array .int
  | 20 => .array .int
  | 21 => .array .boolean
  | 22 => .int
  | 23 => .array .int
  | 24 => .int
  | 25 => .int
  | 26 => .int
  | 27 => .array .int
  | 28 => .array .int
  | 29 => .array .int
  | 30 => .int
  | 31 => .int
  | 32 => .array .int
  | 33 => .array .int
  | 34 => .array .int
  | 35 => .array .boolean
  | 36 => .array .int
  | 37 => .array .int
  | _ => .array .int
abbrev wsX120 : List Cond := u_ws RX12 TX12 39
theorem nmX12 : ∀ a, a < 39 → ∀ b, b < 39 → a ≠ b → (TX12 a).2.1 ≠ (TX12 b).2.1 := by decide +kernel
theorem tyX12_ok : ∀ k, k < 39 → parseFieldDescriptor (TX12 k).2.2.1 = some (tyX12 k) := by decide +kernel
abbrev cX12_init : ByteArray := prog_14_method_1_code
def yX12_init : MethodName := ⟨RX12, "<init>", "()V"⟩
abbrev cX12_in : ByteArray := prog_14_method_3_code
def yX12_in : MethodName := ⟨RX12, "in", "(JJJ)Z"⟩
abbrev cX12_noStreet : ByteArray := prog_14_method_4_code
def yX12_noStreet : MethodName := ⟨RX12, "noStreet", "(I)Z"⟩
abbrev cX12_noMan : ByteArray := prog_14_method_5_code
def yX12_noMan : MethodName := ⟨RX12, "noMan", "(I)Z"⟩
abbrev cX12_noShip : ByteArray := prog_14_method_6_code
def yX12_noShip : MethodName := ⟨RX12, "noShip", "(I)Z"⟩
abbrev cX12_noPaper : ByteArray := prog_14_method_7_code
def yX12_noPaper : MethodName := ⟨RX12, "noPaper", "(I)Z"⟩
abbrev cX12_noTide : ByteArray := prog_14_method_8_code
def yX12_noTide : MethodName := ⟨RX12, "noTide", "(I)Z"⟩
abbrev cX12_streets : ByteArray := prog_14_method_9_code
def yX12_streets : MethodName := ⟨RX12, "streets", "(I)I"⟩
abbrev cX12_way : ByteArray := prog_14_method_10_code
def yX12_way : MethodName := ⟨RX12, "way", "(IIZ)I"⟩
abbrev cX12_measure : ByteArray := prog_14_method_11_code
def yX12_measure : MethodName := ⟨RX12, "measure", "()V"⟩
abbrev cX12_far : ByteArray := prog_14_method_12_code
def yX12_far : MethodName := ⟨RX12, "far", "(II)I"⟩
abbrev cX12_man : ByteArray := prog_14_method_13_code
def yX12_man : MethodName := ⟨RX12, "man", "(IIIIIII)I"⟩
abbrev cX12_about : ByteArray := prog_14_method_14_code
def yX12_about : MethodName := ⟨RX12, "about", "(II)I"⟩
abbrev cX12_shy : ByteArray := prog_14_method_15_code
def yX12_shy : MethodName := ⟨RX12, "shy", "(IZ)I"⟩
abbrev cX12_placeOf : ByteArray := prog_14_method_16_code
def yX12_placeOf : MethodName := ⟨RX12, "placeOf", "(I)I"⟩
abbrev cX12_go : ByteArray := prog_14_method_17_code
def yX12_go : MethodName := ⟨RX12, "go", "(II)V"⟩
abbrev cX12_isStreet : ByteArray := prog_14_method_18_code
def yX12_isStreet : MethodName := ⟨RX12, "isStreet", "(I)Z"⟩
abbrev cX12_isAboard : ByteArray := prog_14_method_19_code
def yX12_isAboard : MethodName := ⟨RX12, "isAboard", "(I)Z"⟩
abbrev cX12_isHere : ByteArray := prog_14_method_20_code
def yX12_isHere : MethodName := ⟨RX12, "isHere", "(I)Z"⟩
abbrev cX12_where : ByteArray := prog_14_method_21_code
def yX12_where : MethodName := ⟨RX12, "where", "(II)I"⟩
abbrev cX12_many : ByteArray := prog_14_method_22_code
def yX12_many : MethodName := ⟨RX12, "many", "(I)I"⟩
abbrev cX12_skilled : ByteArray := prog_14_method_23_code
def yX12_skilled : MethodName := ⟨RX12, "skilled", "(I)I"⟩
abbrev cX12_at : ByteArray := prog_14_method_24_code
def yX12_at : MethodName := ⟨RX12, "at", "(I)I"⟩
abbrev cX12_tide : ByteArray := prog_14_method_25_code
def yX12_tide : MethodName := ⟨RX12, "tide", "()I"⟩
abbrev cX12_heardAt : ByteArray := prog_14_method_26_code
def yX12_heardAt : MethodName := ⟨RX12, "heardAt", "(I)I"⟩
abbrev cX12_goOn : ByteArray := prog_14_method_27_code
def yX12_goOn : MethodName := ⟨RX12, "goOn", "()V"⟩
abbrev cX12_pass : ByteArray := prog_14_method_28_code
def yX12_pass : MethodName := ⟨RX12, "pass", "(I)I"⟩
abbrev cX12_walk : ByteArray := prog_14_method_29_code
def yX12_walk : MethodName := ⟨RX12, "walk", "(II)I"⟩
abbrev cX12_run : ByteArray := prog_14_method_30_code
def yX12_run : MethodName := ⟨RX12, "run", "(I)I"⟩
abbrev cX12_badSpan : ByteArray := prog_14_method_31_code
def yX12_badSpan : MethodName := ⟨RX12, "badSpan", "(III)Z"⟩
abbrev cX12_badLook : ByteArray := prog_14_method_32_code
def yX12_badLook : MethodName := ⟨RX12, "badLook", "(I)Z"⟩
abbrev cX12_paper : ByteArray := prog_14_method_33_code
def yX12_paper : MethodName := ⟨RX12, "paper", "(IIIIIIIII)I"⟩
abbrev cX12_covers : ByteArray := prog_14_method_34_code
def yX12_covers : MethodName := ⟨RX12, "covers", "(III)I"⟩
abbrev cX12_cover : ByteArray := prog_14_method_35_code
def yX12_cover : MethodName := ⟨RX12, "cover", "(III)I"⟩
abbrev cX12_same : ByteArray := prog_14_method_36_code
def yX12_same : MethodName := ⟨RX12, "same", "(II)I"⟩
abbrev cX12_shown : ByteArray := prog_14_method_37_code
def yX12_shown : MethodName := ⟨RX12, "shown", "(II)I"⟩
abbrev cX12_act : ByteArray := prog_14_method_38_code
def yX12_act : MethodName := ⟨RX12, "act", "(I)I"⟩
abbrev cX12_sign : ByteArray := prog_14_method_39_code
def yX12_sign : MethodName := ⟨RX12, "sign", "(II)I"⟩
abbrev cX12_hasDigits : ByteArray := prog_14_method_40_code
def yX12_hasDigits : MethodName := ⟨RX12, "hasDigits", "(I)Z"⟩
abbrev cX12_faultOf : ByteArray := prog_14_method_41_code
def yX12_faultOf : MethodName := ⟨RX12, "faultOf", "(I)I"⟩
abbrev cX12_fault : ByteArray := prog_14_method_42_code
def yX12_fault : MethodName := ⟨RX12, "fault", "(I)I"⟩
abbrev cX12_forceOf : ByteArray := prog_14_method_43_code
def yX12_forceOf : MethodName := ⟨RX12, "forceOf", "(I)I"⟩
abbrev cX12_force : ByteArray := prog_14_method_44_code
def yX12_force : MethodName := ⟨RX12, "force", "(I)I"⟩
abbrev cX12_test : ByteArray := prog_14_method_45_code
def yX12_test : MethodName := ⟨RX12, "test", "(IIIZ)Z"⟩
abbrev cX12_mayBe : ByteArray := prog_14_method_46_code
def yX12_mayBe : MethodName := ⟨RX12, "mayBe", "(IZ)Z"⟩
abbrev cX12_truly : ByteArray := prog_14_method_47_code
def yX12_truly : MethodName := ⟨RX12, "truly", "(I)Z"⟩
abbrev cX12_asShown : ByteArray := prog_14_method_48_code
def yX12_asShown : MethodName := ⟨RX12, "asShown", "(II)Z"⟩
abbrev cX12_may : ByteArray := prog_14_method_49_code
def yX12_may : MethodName := ⟨RX12, "may", "(II)I"⟩
abbrev cX12_mayTruly : ByteArray := prog_14_method_50_code
def yX12_mayTruly : MethodName := ⟨RX12, "mayTruly", "(I)I"⟩
abbrev cX12_take : ByteArray := prog_14_method_51_code
def yX12_take : MethodName := ⟨RX12, "take", "(II)I"⟩
abbrev cX12_taking : ByteArray := prog_14_method_52_code
def yX12_taking : MethodName := ⟨RX12, "taking", "(II)I"⟩
abbrev cX12_isWronged : ByteArray := prog_14_method_53_code
def yX12_isWronged : MethodName := ⟨RX12, "isWronged", "(I)Z"⟩
abbrev cX12_wronged : ByteArray := prog_14_method_54_code
def yX12_wronged : MethodName := ⟨RX12, "wronged", "()I"⟩
abbrev cX12_wrongedMan : ByteArray := prog_14_method_55_code
def yX12_wrongedMan : MethodName := ⟨RX12, "wrongedMan", "(I)I"⟩
abbrev cX12_letGo : ByteArray := prog_14_method_56_code
def yX12_letGo : MethodName := ⟨RX12, "letGo", "(I)I"⟩
abbrev cX12_quiet : ByteArray := prog_14_method_57_code
def yX12_quiet : MethodName := ⟨RX12, "quiet", "()I"⟩
abbrev cX12_heard : ByteArray := prog_14_method_58_code
def yX12_heard : MethodName := ⟨RX12, "heard", "(I)I"⟩
abbrev cX12_tender : ByteArray := prog_14_method_59_code
def yX12_tender : MethodName := ⟨RX12, "tender", "(II)I"⟩
abbrev cX12_meet : ByteArray := prog_14_method_60_code
def yX12_meet : MethodName := ⟨RX12, "meet", "(III)I"⟩
abbrev cX12_look : ByteArray := prog_14_method_61_code
def yX12_look : MethodName := ⟨RX12, "look", "(II)I"⟩
abbrev cX12_badGangs : ByteArray := prog_14_method_62_code
def yX12_badGangs : MethodName := ⟨RX12, "badGangs", "(II)Z"⟩
abbrev cX12_met : ByteArray := prog_14_method_63_code
def yX12_met : MethodName := ⟨RX12, "met", "(II)I"⟩
abbrev cX12_laid : ByteArray := prog_14_method_64_code
def yX12_laid : MethodName := ⟨RX12, "laid", "(IIII)I"⟩
abbrev cX12_ship : ByteArray := prog_14_method_65_code
def yX12_ship : MethodName := ⟨RX12, "ship", "(IIII)I"⟩
abbrev cX12_of : ByteArray := prog_14_method_66_code
def yX12_of : MethodName := ⟨RX12, "of", "(II)I"⟩
abbrev cX12_spared : ByteArray := prog_14_method_67_code
def yX12_spared : MethodName := ⟨RX12, "spared", "(II)I"⟩
abbrev cX12_badWeather : ByteArray := prog_14_method_68_code
def yX12_badWeather : MethodName := ⟨RX12, "badWeather", "(I)Z"⟩
abbrev cX12_spare : ByteArray := prog_14_method_69_code
def yX12_spare : MethodName := ⟨RX12, "spare", "(II)I"⟩
abbrev cX12_board : ByteArray := prog_14_method_70_code
def yX12_board : MethodName := ⟨RX12, "board", "(II)I"⟩
abbrev cX12_turn : ByteArray := prog_14_method_71_code
def yX12_turn : MethodName := ⟨RX12, "turn", "(II)I"⟩
abbrev cX12_notAshore : ByteArray := prog_14_method_72_code
def yX12_notAshore : MethodName := ⟨RX12, "notAshore", "(II)I"⟩
abbrev cX12_mayGo : ByteArray := prog_14_method_73_code
def yX12_mayGo : MethodName := ⟨RX12, "mayGo", "(I)Z"⟩
abbrev cX12_fewest : ByteArray := prog_14_method_74_code
def yX12_fewest : MethodName := ⟨RX12, "fewest", "(II)I"⟩
abbrev cX12_taken : ByteArray := prog_14_method_75_code
def yX12_taken : MethodName := ⟨RX12, "taken", "(II)I"⟩
abbrev cX12_fleet : ByteArray := prog_14_method_76_code
def yX12_fleet : MethodName := ⟨RX12, "fleet", "(I)I"⟩
abbrev cX12_sail : ByteArray := prog_14_method_77_code
def yX12_sail : MethodName := ⟨RX12, "sail", "(I)I"⟩
abbrev cX12_comeHome : ByteArray := prog_14_method_78_code
def yX12_comeHome : MethodName := ⟨RX12, "comeHome", "(I)I"⟩
abbrev cX12_noTicket : ByteArray := prog_14_method_79_code
def yX12_noTicket : MethodName := ⟨RX12, "noTicket", "(I)Z"⟩
abbrev cX12_noHolder : ByteArray := prog_14_method_80_code
def yX12_noHolder : MethodName := ⟨RX12, "noHolder", "(I)Z"⟩
abbrev cX12_ticket : ByteArray := prog_14_method_81_code
def yX12_ticket : MethodName := ⟨RX12, "ticket", "(III)I"⟩
abbrev cX12_give : ByteArray := prog_14_method_82_code
def yX12_give : MethodName := ⟨RX12, "give", "(III)V"⟩
abbrev cX12_sell : ByteArray := prog_14_method_83_code
def yX12_sell : MethodName := ⟨RX12, "sell", "(III)I"⟩
abbrev cX12_pay : ByteArray := prog_14_method_84_code
def yX12_pay : MethodName := ⟨RX12, "pay", "(II)I"⟩
abbrev cX12_ticketOf : ByteArray := prog_14_method_85_code
def yX12_ticketOf : MethodName := ⟨RX12, "ticketOf", "(II)I"⟩
abbrev cX12_purse : ByteArray := prog_14_method_86_code
def yX12_purse : MethodName := ⟨RX12, "purse", "(I)I"⟩
abbrev cX12_wages : ByteArray := prog_14_method_87_code
def yX12_wages : MethodName := ⟨RX12, "wages", "(IZ)I"⟩
abbrev cX12_count : ByteArray := prog_14_method_88_code
def yX12_count : MethodName := ⟨RX12, "count", "(I)I"⟩
def RJx8e188 : String := "java/lang/Cloneable"
def RJ6 : String := "java/lang/Integer"
abbrev cJ6_bitCount_0f7a4 : ByteArray := prog_16_method_49_code
def yJ6_bitCount_0f7a4 : MethodName := ⟨RJ6, "bitCount", "(I)I"⟩
def RJ13 : String := "java/lang/Long"
abbrev cJ13_bitCount_95d88 : ByteArray := prog_17_method_50_code
def yJ13_bitCount_95d88 : MethodName := ⟨RJ13, "bitCount", "(J)I"⟩
def RJ9 : String := "java/lang/Math"
abbrev cJ9_max_7cf53 : ByteArray := prog_18_method_65_code
def yJ9_max_7cf53 : MethodName := ⟨RJ9, "max", "(II)I"⟩
abbrev cJ9_min_7cf53 : ByteArray := prog_18_method_69_code
def yJ9_min_7cf53 : MethodName := ⟨RJ9, "min", "(II)I"⟩
def RJ10 : String := "java/lang/System"
def RJ7 : String := "java/util/Arrays"
abbrev cJ7_fill_53178 : ByteArray := prog_20_method_103_code
def yJ7_fill_53178 : MethodName := ⟨RJ7, "fill", "([II)V"⟩
abbrev cJ7_copyOf_59c91 : ByteArray := prog_20_method_123_code
def yJ7_copyOf_59c91 : MethodName := ⟨RJ7, "copyOf", "([II)[I"⟩
def RL : String := "PressedMenLaw"
abbrev cL_law : ByteArray := code
def yL_law : MethodName := ⟨RL, "law", "([I)Z"⟩
abbrev vwCl : List vw_C := [(RX0, TX0, 6), (RX1, TX1, 4), (RX2, TX2, 4), (RX3, TX3, 14), (RX4, TX4, 6), (RX5, TX5, 3), (RX6, TX6, 5), (RX7, TX7, 2), (RX8, TX8, 6), (RX9, TX9, 5), (RX10, TX10, 4), (RX11, TX11, 19), (RX12, TX12, 39)]
end
section
theorem dX0_init_0 : decode cX0_init 0 = .ok (.aload_n 0, 1) := by decide +kernel
theorem dX0_init_1 : decode cX0_init 1 = .ok (.invokespecial 3, 3) := by decide +kernel
theorem dX0_init_4 : decode cX0_init 4 = .ok (.aload_n 0, 1) := by decide +kernel
theorem dX0_init_5 : decode cX0_init 5 = .ok (.bipush 60, 2) := by decide +kernel
theorem dX0_init_7 : decode cX0_init 7 = .ok (.newarray .byte, 2) := by decide +kernel
theorem dX0_init_9 : decode cX0_init 9 = .ok (.putfield 9, 3) := by decide +kernel
theorem dX0_init_12 : decode cX0_init 12 = .ok (.aload_n 0, 1) := by decide +kernel
theorem dX0_init_13 : decode cX0_init 13 = .ok (.iconst 1, 1) := by decide +kernel
theorem dX0_init_14 : decode cX0_init 14 = .ok (.putfield 15, 3) := by decide +kernel
theorem dX0_init_17 : decode cX0_init 17 = .ok (.aload_n 0, 1) := by decide +kernel
theorem dX0_init_18 : decode cX0_init 18 = .ok (.bipush (-9), 2) := by decide +kernel
theorem dX0_init_20 : decode cX0_init 20 = .ok (.putfield 19, 3) := by decide +kernel
theorem dX0_init_23 : decode cX0_init 23 = .ok (.aload_n 0, 1) := by decide +kernel
theorem dX0_init_24 : decode cX0_init 24 = .ok (.iload_n 1, 1) := by decide +kernel
theorem dX0_init_25 : decode cX0_init 25 = .ok (.putfield 22, 3) := by decide +kernel
theorem dX0_init_28 : decode cX0_init 28 = .ok (.return_, 1) := by decide +kernel
theorem dX0_add_0 : decode cX0_add 0 = .ok (.aload_n 0, 1) := by decide +kernel
theorem dX0_add_1 : decode cX0_add 1 = .ok (.getfield 25, 3) := by decide +kernel
theorem dX0_add_4 : decode cX0_add 4 = .ok (.aload_n 0, 1) := by decide +kernel
theorem dX0_add_5 : decode cX0_add 5 = .ok (.getfield 9, 3) := by decide +kernel
theorem dX0_add_8 : decode cX0_add 8 = .ok (.arraylength, 1) := by decide +kernel
theorem dX0_add_9 : decode cX0_add 9 = .ok (.if_icmp .lt 4, 3) := by decide +kernel
theorem dX0_add_12 : decode cX0_add 12 = .ok (.return_, 1) := by decide +kernel
theorem dX0_add_13 : decode cX0_add 13 = .ok (.aload_n 0, 1) := by decide +kernel
theorem dX0_add_14 : decode cX0_add 14 = .ok (.getfield 19, 3) := by decide +kernel
theorem dX0_add_17 : decode cX0_add 17 = .ok (.bipush (-9), 2) := by decide +kernel
theorem dX0_add_19 : decode cX0_add 19 = .ok (.if_icmp .ne 19, 3) := by decide +kernel
theorem dX0_add_22 : decode cX0_add 22 = .ok (.aload_n 0, 1) := by decide +kernel
theorem dX0_add_23 : decode cX0_add 23 = .ok (.iload_n 1, 1) := by decide +kernel
theorem dX0_add_24 : decode cX0_add 24 = .ok (.invokevirtual 28, 3) := by decide +kernel
theorem dX0_add_27 : decode cX0_add 27 = .ok (.ifCond .ne 11, 3) := by decide +kernel
theorem dX0_add_30 : decode cX0_add 30 = .ok (.aload_n 0, 1) := by decide +kernel
theorem dX0_add_31 : decode cX0_add 31 = .ok (.aload_n 0, 1) := by decide +kernel
theorem dX0_add_32 : decode cX0_add 32 = .ok (.getfield 25, 3) := by decide +kernel
theorem dX0_add_35 : decode cX0_add 35 = .ok (.putfield 19, 3) := by decide +kernel
theorem dX0_add_38 : decode cX0_add 38 = .ok (.aload_n 0, 1) := by decide +kernel
theorem dX0_add_39 : decode cX0_add 39 = .ok (.getfield 9, 3) := by decide +kernel
theorem dX0_add_42 : decode cX0_add 42 = .ok (.aload_n 0, 1) := by decide +kernel
theorem dX0_add_43 : decode cX0_add 43 = .ok (.getfield 25, 3) := by decide +kernel
theorem dX0_add_46 : decode cX0_add 46 = .ok (.iload_n 1, 1) := by decide +kernel
theorem dX0_add_47 : decode cX0_add 47 = .ok (.i2b, 1) := by decide +kernel
theorem dX0_add_48 : decode cX0_add 48 = .ok (.bastore, 1) := by decide +kernel
theorem dX0_add_49 : decode cX0_add 49 = .ok (.aload_n 0, 1) := by decide +kernel
theorem dX0_add_50 : decode cX0_add 50 = .ok (.dup, 1) := by decide +kernel
theorem dX0_add_51 : decode cX0_add 51 = .ok (.getfield 25, 3) := by decide +kernel
theorem dX0_add_54 : decode cX0_add 54 = .ok (.iconst 1, 1) := by decide +kernel
theorem dX0_add_55 : decode cX0_add 55 = .ok (.iadd, 1) := by decide +kernel
theorem dX0_add_56 : decode cX0_add 56 = .ok (.putfield 25, 3) := by decide +kernel
theorem dX0_add_59 : decode cX0_add 59 = .ok (.return_, 1) := by decide +kernel
theorem dX0_goesOnWith_0 : decode cX0_goesOnWith 0 = .ok (.aload_n 0, 1) := by decide +kernel
theorem dX0_goesOnWith_1 : decode cX0_goesOnWith 1 = .ok (.getfield 32, 3) := by decide +kernel
theorem dX0_goesOnWith_4 : decode cX0_goesOnWith 4 = .ok (.ifCond .le 9, 3) := by decide +kernel
theorem dX0_goesOnWith_7 : decode cX0_goesOnWith 7 = .ok (.aload_n 0, 1) := by decide +kernel
theorem dX0_goesOnWith_8 : decode cX0_goesOnWith 8 = .ok (.iload_n 1, 1) := by decide +kernel
theorem dX0_goesOnWith_9 : decode cX0_goesOnWith 9 = .ok (.invokevirtual 35, 3) := by decide +kernel
theorem dX0_goesOnWith_12 : decode cX0_goesOnWith 12 = .ok (.ireturn, 1) := by decide +kernel
theorem dX0_goesOnWith_13 : decode cX0_goesOnWith 13 = .ok (.aload_n 0, 1) := by decide +kernel
theorem dX0_goesOnWith_14 : decode cX0_goesOnWith 14 = .ok (.getfield 15, 3) := by decide +kernel
theorem dX0_goesOnWith_17 : decode cX0_goesOnWith 17 = .ok (.ifCond .ne 5, 3) := by decide +kernel
theorem dX0_goesOnWith_20 : decode cX0_goesOnWith 20 = .ok (.iconst 0, 1) := by decide +kernel
theorem dX0_goesOnWith_21 : decode cX0_goesOnWith 21 = .ok (.ireturn, 1) := by decide +kernel
theorem dX0_goesOnWith_22 : decode cX0_goesOnWith 22 = .ok (.iload_n 1, 1) := by decide +kernel
theorem dX0_goesOnWith_23 : decode cX0_goesOnWith 23 = .ok (.lookupswitch 130 #[(33, 109), (38, 97), (65, 123), (89, 123), (97, 123), (104, 111), (112, 111), (115, 111), (116, 123), (121, 123), (124, 97)], 97) := by decide +kernel
theorem dX0_goesOnWith_120 : decode cX0_goesOnWith 120 = .ok (.aload_n 0, 1) := by decide +kernel
theorem dX0_goesOnWith_121 : decode cX0_goesOnWith 121 = .ok (.dup, 1) := by decide +kernel
theorem dX0_goesOnWith_122 : decode cX0_goesOnWith 122 = .ok (.getfield 15, 3) := by decide +kernel
theorem dX0_goesOnWith_125 : decode cX0_goesOnWith 125 = .ok (.iconst 1, 1) := by decide +kernel
theorem dX0_goesOnWith_126 : decode cX0_goesOnWith 126 = .ok (.iadd, 1) := by decide +kernel
theorem dX0_goesOnWith_127 : decode cX0_goesOnWith 127 = .ok (.putfield 15, 3) := by decide +kernel
theorem dX0_goesOnWith_130 : decode cX0_goesOnWith 130 = .ok (.iconst 1, 1) := by decide +kernel
theorem dX0_goesOnWith_131 : decode cX0_goesOnWith 131 = .ok (.ireturn, 1) := by decide +kernel
theorem dX0_goesOnWith_132 : decode cX0_goesOnWith 132 = .ok (.iconst 1, 1) := by decide +kernel
theorem dX0_goesOnWith_133 : decode cX0_goesOnWith 133 = .ok (.ireturn, 1) := by decide +kernel
theorem dX0_goesOnWith_134 : decode cX0_goesOnWith 134 = .ok (.aload_n 0, 1) := by decide +kernel
theorem dX0_goesOnWith_135 : decode cX0_goesOnWith 135 = .ok (.dup, 1) := by decide +kernel
theorem dX0_goesOnWith_136 : decode cX0_goesOnWith 136 = .ok (.getfield 15, 3) := by decide +kernel
theorem dX0_goesOnWith_139 : decode cX0_goesOnWith 139 = .ok (.iconst 1, 1) := by decide +kernel
theorem dX0_goesOnWith_140 : decode cX0_goesOnWith 140 = .ok (.isub, 1) := by decide +kernel
theorem dX0_goesOnWith_141 : decode cX0_goesOnWith 141 = .ok (.putfield 15, 3) := by decide +kernel
theorem dX0_goesOnWith_144 : decode cX0_goesOnWith 144 = .ok (.iconst 1, 1) := by decide +kernel
theorem dX0_goesOnWith_145 : decode cX0_goesOnWith 145 = .ok (.ireturn, 1) := by decide +kernel
theorem dX0_goesOnWith_146 : decode cX0_goesOnWith 146 = .ok (.aload_n 0, 1) := by decide +kernel
theorem dX0_goesOnWith_147 : decode cX0_goesOnWith 147 = .ok (.iconst 2, 1) := by decide +kernel
theorem dX0_goesOnWith_148 : decode cX0_goesOnWith 148 = .ok (.putfield 32, 3) := by decide +kernel
theorem dX0_goesOnWith_151 : decode cX0_goesOnWith 151 = .ok (.iconst 1, 1) := by decide +kernel
theorem dX0_goesOnWith_152 : decode cX0_goesOnWith 152 = .ok (.ireturn, 1) := by decide +kernel
theorem dX0_goesOnWith_153 : decode cX0_goesOnWith 153 = .ok (.iconst 0, 1) := by decide +kernel
theorem dX0_goesOnWith_154 : decode cX0_goesOnWith 154 = .ok (.ireturn, 1) := by decide +kernel
theorem dX0_takesDigit_0 : decode cX0_takesDigit 0 = .ok (.iload_n 1, 1) := by decide +kernel
theorem dX0_takesDigit_1 : decode cX0_takesDigit 1 = .ok (.invokestatic 38, 3) := by decide +kernel
theorem dX0_takesDigit_4 : decode cX0_takesDigit 4 = .ok (.ifCond .ne 5, 3) := by decide +kernel
theorem dX0_takesDigit_7 : decode cX0_takesDigit 7 = .ok (.iconst 0, 1) := by decide +kernel
theorem dX0_takesDigit_8 : decode cX0_takesDigit 8 = .ok (.ireturn, 1) := by decide +kernel
theorem dX0_takesDigit_9 : decode cX0_takesDigit 9 = .ok (.aload_n 0, 1) := by decide +kernel
theorem dX0_takesDigit_10 : decode cX0_takesDigit 10 = .ok (.dup, 1) := by decide +kernel
theorem dX0_takesDigit_11 : decode cX0_takesDigit 11 = .ok (.getfield 32, 3) := by decide +kernel
theorem dX0_takesDigit_14 : decode cX0_takesDigit 14 = .ok (.iconst 1, 1) := by decide +kernel
theorem dX0_takesDigit_15 : decode cX0_takesDigit 15 = .ok (.isub, 1) := by decide +kernel
theorem dX0_takesDigit_16 : decode cX0_takesDigit 16 = .ok (.putfield 32, 3) := by decide +kernel
theorem dX0_takesDigit_19 : decode cX0_takesDigit 19 = .ok (.aload_n 0, 1) := by decide +kernel
theorem dX0_takesDigit_20 : decode cX0_takesDigit 20 = .ok (.getfield 32, 3) := by decide +kernel
theorem dX0_takesDigit_23 : decode cX0_takesDigit 23 = .ok (.ifCond .ne 13, 3) := by decide +kernel
theorem dX0_takesDigit_26 : decode cX0_takesDigit 26 = .ok (.aload_n 0, 1) := by decide +kernel
theorem dX0_takesDigit_27 : decode cX0_takesDigit 27 = .ok (.dup, 1) := by decide +kernel
theorem dX0_takesDigit_28 : decode cX0_takesDigit 28 = .ok (.getfield 15, 3) := by decide +kernel
theorem dX0_takesDigit_31 : decode cX0_takesDigit 31 = .ok (.iconst 1, 1) := by decide +kernel
theorem dX0_takesDigit_32 : decode cX0_takesDigit 32 = .ok (.isub, 1) := by decide +kernel
theorem dX0_takesDigit_33 : decode cX0_takesDigit 33 = .ok (.putfield 15, 3) := by decide +kernel
theorem dX0_takesDigit_36 : decode cX0_takesDigit 36 = .ok (.iconst 1, 1) := by decide +kernel
theorem dX0_takesDigit_37 : decode cX0_takesDigit 37 = .ok (.ireturn, 1) := by decide +kernel
theorem dX0_isDigit_0 : decode cX0_isDigit 0 = .ok (.iload_n 0, 1) := by decide +kernel
theorem dX0_isDigit_1 : decode cX0_isDigit 1 = .ok (.bipush 48, 2) := by decide +kernel
theorem dX0_isDigit_3 : decode cX0_isDigit 3 = .ok (.bipush 57, 2) := by decide +kernel
theorem dX0_isDigit_5 : decode cX0_isDigit 5 = .ok (.invokestatic 41, 3) := by decide +kernel
theorem dX0_isDigit_8 : decode cX0_isDigit 8 = .ok (.ireturn, 1) := by decide +kernel
theorem dX0_faultAt_0 : decode cX0_faultAt 0 = .ok (.aload_n 0, 1) := by decide +kernel
theorem dX0_faultAt_1 : decode cX0_faultAt 1 = .ok (.getfield 19, 3) := by decide +kernel
theorem dX0_faultAt_4 : decode cX0_faultAt 4 = .ok (.bipush (-9), 2) := by decide +kernel
theorem dX0_faultAt_6 : decode cX0_faultAt 6 = .ok (.if_icmp .eq 8, 3) := by decide +kernel
theorem dX0_faultAt_9 : decode cX0_faultAt 9 = .ok (.aload_n 0, 1) := by decide +kernel
theorem dX0_faultAt_10 : decode cX0_faultAt 10 = .ok (.getfield 19, 3) := by decide +kernel
theorem dX0_faultAt_13 : decode cX0_faultAt 13 = .ok (.ireturn, 1) := by decide +kernel
theorem dX0_faultAt_14 : decode cX0_faultAt 14 = .ok (.aload_n 0, 1) := by decide +kernel
theorem dX0_faultAt_15 : decode cX0_faultAt 15 = .ok (.getfield 15, 3) := by decide +kernel
theorem dX0_faultAt_18 : decode cX0_faultAt 18 = .ok (.ifCond .le 10, 3) := by decide +kernel
theorem dX0_faultAt_21 : decode cX0_faultAt 21 = .ok (.aload_n 0, 1) := by decide +kernel
theorem dX0_faultAt_22 : decode cX0_faultAt 22 = .ok (.getfield 25, 3) := by decide +kernel
theorem dX0_faultAt_25 : decode cX0_faultAt 25 = .ok (.goto 5, 3) := by decide +kernel
theorem dX0_faultAt_28 : decode cX0_faultAt 28 = .ok (.bipush (-9), 2) := by decide +kernel
theorem dX0_faultAt_30 : decode cX0_faultAt 30 = .ok (.ireturn, 1) := by decide +kernel
theorem dX0_holds_0 : decode cX0_holds 0 = .ok (.lconst 0, 1) := by decide +kernel
theorem dX0_holds_1 : decode cX0_holds 1 = .ok (.lstore_n 3, 1) := by decide +kernel
theorem dX0_holds_2 : decode cX0_holds 2 = .ok (.aload_n 0, 1) := by decide +kernel
theorem dX0_holds_3 : decode cX0_holds 3 = .ok (.getfield 25, 3) := by decide +kernel
theorem dX0_holds_6 : decode cX0_holds 6 = .ok (.iconst 1, 1) := by decide +kernel
theorem dX0_holds_7 : decode cX0_holds 7 = .ok (.isub, 1) := by decide +kernel
theorem dX0_holds_8 : decode cX0_holds 8 = .ok (.istore 5, 2) := by decide +kernel
theorem dX0_holds_10 : decode cX0_holds 10 = .ok (.iload 5, 2) := by decide +kernel
theorem dX0_holds_12 : decode cX0_holds 12 = .ok (.ifCond .lt 100, 3) := by decide +kernel
theorem dX0_holds_15 : decode cX0_holds 15 = .ok (.aload_n 0, 1) := by decide +kernel
theorem dX0_holds_16 : decode cX0_holds 16 = .ok (.getfield 9, 3) := by decide +kernel
theorem dX0_holds_19 : decode cX0_holds 19 = .ok (.iload 5, 2) := by decide +kernel
theorem dX0_holds_21 : decode cX0_holds 21 = .ok (.baload, 1) := by decide +kernel
theorem dX0_holds_22 : decode cX0_holds 22 = .ok (.istore 6, 2) := by decide +kernel
theorem dX0_holds_24 : decode cX0_holds 24 = .ok (.lload_n 3, 1) := by decide +kernel
theorem dX0_holds_25 : decode cX0_holds 25 = .ok (.lconst 1, 1) := by decide +kernel
theorem dX0_holds_26 : decode cX0_holds 26 = .ok (.land, 1) := by decide +kernel
theorem dX0_holds_27 : decode cX0_holds 27 = .ok (.lstore 7, 2) := by decide +kernel
theorem dX0_holds_29 : decode cX0_holds 29 = .ok (.iload 6, 2) := by decide +kernel
theorem dX0_holds_31 : decode cX0_holds 31 = .ok (.bipush 38, 2) := by decide +kernel
theorem dX0_holds_33 : decode cX0_holds 33 = .ok (.if_icmp .ne 17, 3) := by decide +kernel
theorem dX0_holds_36 : decode cX0_holds 36 = .ok (.lload_n 3, 1) := by decide +kernel
theorem dX0_holds_37 : decode cX0_holds 37 = .ok (.iconst 1, 1) := by decide +kernel
theorem dX0_holds_38 : decode cX0_holds 38 = .ok (.lushr, 1) := by decide +kernel
theorem dX0_holds_39 : decode cX0_holds 39 = .ok (.lload 7, 2) := by decide +kernel
theorem dX0_holds_41 : decode cX0_holds 41 = .ok (.ldc2_w 45, 3) := by decide +kernel
theorem dX0_holds_44 : decode cX0_holds 44 = .ok (.lor, 1) := by decide +kernel
theorem dX0_holds_45 : decode cX0_holds 45 = .ok (.land, 1) := by decide +kernel
theorem dX0_holds_46 : decode cX0_holds 46 = .ok (.lstore_n 3, 1) := by decide +kernel
theorem dX0_holds_47 : decode cX0_holds 47 = .ok (.goto 59, 3) := by decide +kernel
theorem dX0_holds_50 : decode cX0_holds 50 = .ok (.iload 6, 2) := by decide +kernel
theorem dX0_holds_52 : decode cX0_holds 52 = .ok (.bipush 124, 2) := by decide +kernel
theorem dX0_holds_54 : decode cX0_holds 54 = .ok (.if_icmp .ne 13, 3) := by decide +kernel
theorem dX0_holds_57 : decode cX0_holds 57 = .ok (.lload_n 3, 1) := by decide +kernel
theorem dX0_holds_58 : decode cX0_holds 58 = .ok (.iconst 1, 1) := by decide +kernel
theorem dX0_holds_59 : decode cX0_holds 59 = .ok (.lushr, 1) := by decide +kernel
theorem dX0_holds_60 : decode cX0_holds 60 = .ok (.lload 7, 2) := by decide +kernel
theorem dX0_holds_62 : decode cX0_holds 62 = .ok (.lor, 1) := by decide +kernel
theorem dX0_holds_63 : decode cX0_holds 63 = .ok (.lstore_n 3, 1) := by decide +kernel
theorem dX0_holds_64 : decode cX0_holds 64 = .ok (.goto 42, 3) := by decide +kernel
theorem dX0_holds_67 : decode cX0_holds 67 = .ok (.iload 6, 2) := by decide +kernel
theorem dX0_holds_69 : decode cX0_holds 69 = .ok (.bipush 33, 2) := by decide +kernel
theorem dX0_holds_71 : decode cX0_holds 71 = .ok (.if_icmp .ne 10, 3) := by decide +kernel
theorem dX0_holds_74 : decode cX0_holds 74 = .ok (.lload_n 3, 1) := by decide +kernel
theorem dX0_holds_75 : decode cX0_holds 75 = .ok (.lconst 1, 1) := by decide +kernel
theorem dX0_holds_76 : decode cX0_holds 76 = .ok (.lxor, 1) := by decide +kernel
theorem dX0_holds_77 : decode cX0_holds 77 = .ok (.lstore_n 3, 1) := by decide +kernel
theorem dX0_holds_78 : decode cX0_holds 78 = .ok (.goto 28, 3) := by decide +kernel
theorem dX0_holds_81 : decode cX0_holds 81 = .ok (.iload 6, 2) := by decide +kernel
theorem dX0_holds_83 : decode cX0_holds 83 = .ok (.invokestatic 38, 3) := by decide +kernel
theorem dX0_holds_86 : decode cX0_holds 86 = .ok (.ifCond .ne 20, 3) := by decide +kernel
theorem dX0_holds_89 : decode cX0_holds 89 = .ok (.lload_n 3, 1) := by decide +kernel
theorem dX0_holds_90 : decode cX0_holds 90 = .ok (.iconst 1, 1) := by decide +kernel
theorem dX0_holds_91 : decode cX0_holds 91 = .ok (.lshl, 1) := by decide +kernel
theorem dX0_holds_92 : decode cX0_holds 92 = .ok (.aload_n 0, 1) := by decide +kernel
theorem dX0_holds_93 : decode cX0_holds 93 = .ok (.iload 5, 2) := by decide +kernel
theorem dX0_holds_95 : decode cX0_holds 95 = .ok (.aload_n 1, 1) := by decide +kernel
theorem dX0_holds_96 : decode cX0_holds 96 = .ok (.iload_n 2, 1) := by decide +kernel
theorem dX0_holds_97 : decode cX0_holds 97 = .ok (.invokevirtual 47, 3) := by decide +kernel
theorem dX0_holds_100 : decode cX0_holds 100 = .ok (.invokestatic 51, 3) := by decide +kernel
theorem dX0_holds_103 : decode cX0_holds 103 = .ok (.i2l, 1) := by decide +kernel
theorem dX0_holds_104 : decode cX0_holds 104 = .ok (.lor, 1) := by decide +kernel
theorem dX0_holds_105 : decode cX0_holds 105 = .ok (.lstore_n 3, 1) := by decide +kernel
theorem dX0_holds_106 : decode cX0_holds 106 = .ok (.iinc 5 (-1), 3) := by decide +kernel
theorem dX0_holds_109 : decode cX0_holds 109 = .ok (.goto (-99), 3) := by decide +kernel
theorem dX0_holds_112 : decode cX0_holds 112 = .ok (.lload_n 3, 1) := by decide +kernel
theorem dX0_holds_113 : decode cX0_holds 113 = .ok (.lconst 1, 1) := by decide +kernel
theorem dX0_holds_114 : decode cX0_holds 114 = .ok (.land, 1) := by decide +kernel
theorem dX0_holds_115 : decode cX0_holds 115 = .ok (.lconst 1, 1) := by decide +kernel
theorem dX0_holds_116 : decode cX0_holds 116 = .ok (.lcmp, 1) := by decide +kernel
theorem dX0_holds_117 : decode cX0_holds 117 = .ok (.ifCond .ne 7, 3) := by decide +kernel
theorem dX0_holds_120 : decode cX0_holds 120 = .ok (.iconst 1, 1) := by decide +kernel
theorem dX0_holds_121 : decode cX0_holds 121 = .ok (.goto 4, 3) := by decide +kernel
theorem dX0_holds_124 : decode cX0_holds 124 = .ok (.iconst 0, 1) := by decide +kernel
theorem dX0_holds_125 : decode cX0_holds 125 = .ok (.ireturn, 1) := by decide +kernel
theorem dX0_testHolds_0 : decode cX0_testHolds 0 = .ok (.aload_n 0, 1) := by decide +kernel
theorem dX0_testHolds_1 : decode cX0_testHolds 1 = .ok (.getfield 9, 3) := by decide +kernel
theorem dX0_testHolds_4 : decode cX0_testHolds 4 = .ok (.iload_n 1, 1) := by decide +kernel
theorem dX0_testHolds_5 : decode cX0_testHolds 5 = .ok (.baload, 1) := by decide +kernel
theorem dX0_testHolds_6 : decode cX0_testHolds 6 = .ok (.lookupswitch 191 #[(65, 92), (89, 128), (97, 74), (104, 174), (112, 164), (115, 166), (116, 146), (121, 110)], 74) := by decide +kernel
theorem dX0_testHolds_80 : decode cX0_testHolds 80 = .ok (.aload_n 2, 1) := by decide +kernel
theorem dX0_testHolds_81 : decode cX0_testHolds 81 = .ok (.getfield 55, 3) := by decide +kernel
theorem dX0_testHolds_84 : decode cX0_testHolds 84 = .ok (.aload_n 0, 1) := by decide +kernel
theorem dX0_testHolds_85 : decode cX0_testHolds 85 = .ok (.iload_n 1, 1) := by decide +kernel
theorem dX0_testHolds_86 : decode cX0_testHolds 86 = .ok (.invokevirtual 60, 3) := by decide +kernel
theorem dX0_testHolds_89 : decode cX0_testHolds 89 = .ok (.if_icmp .lt 7, 3) := by decide +kernel
theorem dX0_testHolds_92 : decode cX0_testHolds 92 = .ok (.iconst 1, 1) := by decide +kernel
theorem dX0_testHolds_93 : decode cX0_testHolds 93 = .ok (.goto 4, 3) := by decide +kernel
theorem dX0_testHolds_96 : decode cX0_testHolds 96 = .ok (.iconst 0, 1) := by decide +kernel
theorem dX0_testHolds_97 : decode cX0_testHolds 97 = .ok (.ireturn, 1) := by decide +kernel
theorem dX0_testHolds_98 : decode cX0_testHolds 98 = .ok (.aload_n 2, 1) := by decide +kernel
theorem dX0_testHolds_99 : decode cX0_testHolds 99 = .ok (.getfield 55, 3) := by decide +kernel
theorem dX0_testHolds_102 : decode cX0_testHolds 102 = .ok (.aload_n 0, 1) := by decide +kernel
theorem dX0_testHolds_103 : decode cX0_testHolds 103 = .ok (.iload_n 1, 1) := by decide +kernel
theorem dX0_testHolds_104 : decode cX0_testHolds 104 = .ok (.invokevirtual 60, 3) := by decide +kernel
theorem dX0_testHolds_107 : decode cX0_testHolds 107 = .ok (.if_icmp .ge 7, 3) := by decide +kernel
theorem dX0_testHolds_110 : decode cX0_testHolds 110 = .ok (.iconst 1, 1) := by decide +kernel
theorem dX0_testHolds_111 : decode cX0_testHolds 111 = .ok (.goto 4, 3) := by decide +kernel
theorem dX0_testHolds_114 : decode cX0_testHolds 114 = .ok (.iconst 0, 1) := by decide +kernel
theorem dX0_testHolds_115 : decode cX0_testHolds 115 = .ok (.ireturn, 1) := by decide +kernel
theorem dX0_testHolds_116 : decode cX0_testHolds 116 = .ok (.aload_n 2, 1) := by decide +kernel
theorem dX0_testHolds_117 : decode cX0_testHolds 117 = .ok (.getfield 64, 3) := by decide +kernel
theorem dX0_testHolds_120 : decode cX0_testHolds 120 = .ok (.aload_n 0, 1) := by decide +kernel
theorem dX0_testHolds_121 : decode cX0_testHolds 121 = .ok (.iload_n 1, 1) := by decide +kernel
theorem dX0_testHolds_122 : decode cX0_testHolds 122 = .ok (.invokevirtual 60, 3) := by decide +kernel
theorem dX0_testHolds_125 : decode cX0_testHolds 125 = .ok (.if_icmp .lt 7, 3) := by decide +kernel
theorem dX0_testHolds_128 : decode cX0_testHolds 128 = .ok (.iconst 1, 1) := by decide +kernel
theorem dX0_testHolds_129 : decode cX0_testHolds 129 = .ok (.goto 4, 3) := by decide +kernel
theorem dX0_testHolds_132 : decode cX0_testHolds 132 = .ok (.iconst 0, 1) := by decide +kernel
theorem dX0_testHolds_133 : decode cX0_testHolds 133 = .ok (.ireturn, 1) := by decide +kernel
theorem dX0_testHolds_134 : decode cX0_testHolds 134 = .ok (.aload_n 2, 1) := by decide +kernel
theorem dX0_testHolds_135 : decode cX0_testHolds 135 = .ok (.getfield 64, 3) := by decide +kernel
theorem dX0_testHolds_138 : decode cX0_testHolds 138 = .ok (.aload_n 0, 1) := by decide +kernel
theorem dX0_testHolds_139 : decode cX0_testHolds 139 = .ok (.iload_n 1, 1) := by decide +kernel
theorem dX0_testHolds_140 : decode cX0_testHolds 140 = .ok (.invokevirtual 60, 3) := by decide +kernel
theorem dX0_testHolds_143 : decode cX0_testHolds 143 = .ok (.if_icmp .ge 7, 3) := by decide +kernel
theorem dX0_testHolds_146 : decode cX0_testHolds 146 = .ok (.iconst 1, 1) := by decide +kernel
theorem dX0_testHolds_147 : decode cX0_testHolds 147 = .ok (.goto 4, 3) := by decide +kernel
theorem dX0_testHolds_150 : decode cX0_testHolds 150 = .ok (.iconst 0, 1) := by decide +kernel
theorem dX0_testHolds_151 : decode cX0_testHolds 151 = .ok (.ireturn, 1) := by decide +kernel
theorem dX0_testHolds_152 : decode cX0_testHolds 152 = .ok (.aload_n 2, 1) := by decide +kernel
theorem dX0_testHolds_153 : decode cX0_testHolds 153 = .ok (.getfield 67, 3) := by decide +kernel
theorem dX0_testHolds_156 : decode cX0_testHolds 156 = .ok (.aload_n 0, 1) := by decide +kernel
theorem dX0_testHolds_157 : decode cX0_testHolds 157 = .ok (.iload_n 1, 1) := by decide +kernel
theorem dX0_testHolds_158 : decode cX0_testHolds 158 = .ok (.invokevirtual 60, 3) := by decide +kernel
theorem dX0_testHolds_161 : decode cX0_testHolds 161 = .ok (.if_icmp .ne 7, 3) := by decide +kernel
theorem dX0_testHolds_164 : decode cX0_testHolds 164 = .ok (.iconst 1, 1) := by decide +kernel
theorem dX0_testHolds_165 : decode cX0_testHolds 165 = .ok (.goto 4, 3) := by decide +kernel
theorem dX0_testHolds_168 : decode cX0_testHolds 168 = .ok (.iconst 0, 1) := by decide +kernel
theorem dX0_testHolds_169 : decode cX0_testHolds 169 = .ok (.ireturn, 1) := by decide +kernel
theorem dX0_testHolds_170 : decode cX0_testHolds 170 = .ok (.iload_n 3, 1) := by decide +kernel
theorem dX0_testHolds_171 : decode cX0_testHolds 171 = .ok (.ireturn, 1) := by decide +kernel
theorem dX0_testHolds_172 : decode cX0_testHolds 172 = .ok (.aload_n 2, 1) := by decide +kernel
theorem dX0_testHolds_173 : decode cX0_testHolds 173 = .ok (.getfield 70, 3) := by decide +kernel
theorem dX0_testHolds_176 : decode cX0_testHolds 176 = .ok (.invokestatic 73, 3) := by decide +kernel
theorem dX0_testHolds_179 : decode cX0_testHolds 179 = .ok (.ireturn, 1) := by decide +kernel
theorem dX0_testHolds_180 : decode cX0_testHolds 180 = .ok (.aload_n 2, 1) := by decide +kernel
theorem dX0_testHolds_181 : decode cX0_testHolds 181 = .ok (.getfield 70, 3) := by decide +kernel
theorem dX0_testHolds_184 : decode cX0_testHolds 184 = .ok (.aload_n 2, 1) := by decide +kernel
theorem dX0_testHolds_185 : decode cX0_testHolds 185 = .ok (.getfield 76, 3) := by decide +kernel
theorem dX0_testHolds_188 : decode cX0_testHolds 188 = .ok (.if_icmp .ne 7, 3) := by decide +kernel
theorem dX0_testHolds_191 : decode cX0_testHolds 191 = .ok (.iconst 1, 1) := by decide +kernel
theorem dX0_testHolds_192 : decode cX0_testHolds 192 = .ok (.goto 4, 3) := by decide +kernel
theorem dX0_testHolds_195 : decode cX0_testHolds 195 = .ok (.iconst 0, 1) := by decide +kernel
theorem dX0_testHolds_196 : decode cX0_testHolds 196 = .ok (.ireturn, 1) := by decide +kernel
theorem dX0_testHolds_197 : decode cX0_testHolds 197 = .ok (.iconst 0, 1) := by decide +kernel
theorem dX0_testHolds_198 : decode cX0_testHolds 198 = .ok (.ireturn, 1) := by decide +kernel
theorem dX0_numberBehind_0 : decode cX0_numberBehind 0 = .ok (.iload_n 1, 1) := by decide +kernel
theorem dX0_numberBehind_1 : decode cX0_numberBehind 1 = .ok (.iconst 2, 1) := by decide +kernel
theorem dX0_numberBehind_2 : decode cX0_numberBehind 2 = .ok (.iadd, 1) := by decide +kernel
theorem dX0_numberBehind_3 : decode cX0_numberBehind 3 = .ok (.aload_n 0, 1) := by decide +kernel
theorem dX0_numberBehind_4 : decode cX0_numberBehind 4 = .ok (.getfield 25, 3) := by decide +kernel
theorem dX0_numberBehind_7 : decode cX0_numberBehind 7 = .ok (.if_icmp .lt 5, 3) := by decide +kernel
theorem dX0_numberBehind_10 : decode cX0_numberBehind 10 = .ok (.iconst 0, 1) := by decide +kernel
theorem dX0_numberBehind_11 : decode cX0_numberBehind 11 = .ok (.ireturn, 1) := by decide +kernel
theorem dX0_numberBehind_12 : decode cX0_numberBehind 12 = .ok (.aload_n 0, 1) := by decide +kernel
theorem dX0_numberBehind_13 : decode cX0_numberBehind 13 = .ok (.getfield 9, 3) := by decide +kernel
theorem dX0_numberBehind_16 : decode cX0_numberBehind 16 = .ok (.iload_n 1, 1) := by decide +kernel
theorem dX0_numberBehind_17 : decode cX0_numberBehind 17 = .ok (.iconst 1, 1) := by decide +kernel
theorem dX0_numberBehind_18 : decode cX0_numberBehind 18 = .ok (.iadd, 1) := by decide +kernel
theorem dX0_numberBehind_19 : decode cX0_numberBehind 19 = .ok (.baload, 1) := by decide +kernel
theorem dX0_numberBehind_20 : decode cX0_numberBehind 20 = .ok (.bipush 48, 2) := by decide +kernel
theorem dX0_numberBehind_22 : decode cX0_numberBehind 22 = .ok (.isub, 1) := by decide +kernel
theorem dX0_numberBehind_23 : decode cX0_numberBehind 23 = .ok (.bipush 10, 2) := by decide +kernel
theorem dX0_numberBehind_25 : decode cX0_numberBehind 25 = .ok (.imul, 1) := by decide +kernel
theorem dX0_numberBehind_26 : decode cX0_numberBehind 26 = .ok (.aload_n 0, 1) := by decide +kernel
theorem dX0_numberBehind_27 : decode cX0_numberBehind 27 = .ok (.getfield 9, 3) := by decide +kernel
theorem dX0_numberBehind_30 : decode cX0_numberBehind 30 = .ok (.iload_n 1, 1) := by decide +kernel
theorem dX0_numberBehind_31 : decode cX0_numberBehind 31 = .ok (.iconst 2, 1) := by decide +kernel
theorem dX0_numberBehind_32 : decode cX0_numberBehind 32 = .ok (.iadd, 1) := by decide +kernel
theorem dX0_numberBehind_33 : decode cX0_numberBehind 33 = .ok (.baload, 1) := by decide +kernel
theorem dX0_numberBehind_34 : decode cX0_numberBehind 34 = .ok (.iadd, 1) := by decide +kernel
theorem dX0_numberBehind_35 : decode cX0_numberBehind 35 = .ok (.bipush 48, 2) := by decide +kernel
theorem dX0_numberBehind_37 : decode cX0_numberBehind 37 = .ok (.isub, 1) := by decide +kernel
theorem dX0_numberBehind_38 : decode cX0_numberBehind 38 = .ok (.ireturn, 1) := by decide +kernel
theorem dX1_init_0 : decode cX1_init 0 = .ok (.aload_n 0, 1) := by decide +kernel
theorem dX1_init_1 : decode cX1_init 1 = .ok (.invokespecial 3, 3) := by decide +kernel
theorem dX1_init_4 : decode cX1_init 4 = .ok (.aload_n 0, 1) := by decide +kernel
theorem dX1_init_5 : decode cX1_init 5 = .ok (.bipush 8, 2) := by decide +kernel
theorem dX1_init_7 : decode cX1_init 7 = .ok (.newarray .int, 2) := by decide +kernel
theorem dX1_init_9 : decode cX1_init 9 = .ok (.putfield 9, 3) := by decide +kernel
theorem dX1_init_12 : decode cX1_init 12 = .ok (.aload_n 0, 1) := by decide +kernel
theorem dX1_init_13 : decode cX1_init 13 = .ok (.bipush 25, 2) := by decide +kernel
theorem dX1_init_15 : decode cX1_init 15 = .ok (.newarray .int, 2) := by decide +kernel
theorem dX1_init_17 : decode cX1_init 17 = .ok (.putfield 15, 3) := by decide +kernel
theorem dX1_init_20 : decode cX1_init 20 = .ok (.aload_n 0, 1) := by decide +kernel
theorem dX1_init_21 : decode cX1_init 21 = .ok (.bipush 6, 2) := by decide +kernel
theorem dX1_init_23 : decode cX1_init 23 = .ok (.newarray .int, 2) := by decide +kernel
theorem dX1_init_25 : decode cX1_init 25 = .ok (.putfield 18, 3) := by decide +kernel
theorem dX1_init_28 : decode cX1_init 28 = .ok (.aload_n 0, 1) := by decide +kernel
theorem dX1_init_29 : decode cX1_init 29 = .ok (.aload_n 1, 1) := by decide +kernel
theorem dX1_init_30 : decode cX1_init 30 = .ok (.putfield 21, 3) := by decide +kernel
theorem dX1_init_33 : decode cX1_init 33 = .ok (.return_, 1) := by decide +kernel
theorem dX1_forgetMen_0 : decode cX1_forgetMen 0 = .ok (.aload_n 0, 1) := by decide +kernel
theorem dX1_forgetMen_1 : decode cX1_forgetMen 1 = .ok (.getfield 9, 3) := by decide +kernel
theorem dX1_forgetMen_4 : decode cX1_forgetMen 4 = .ok (.iconst 0, 1) := by decide +kernel
theorem dX1_forgetMen_5 : decode cX1_forgetMen 5 = .ok (.invokestatic 25, 3) := by decide +kernel
theorem dX1_forgetMen_8 : decode cX1_forgetMen 8 = .ok (.return_, 1) := by decide +kernel
theorem dX1_addMan_0 : decode cX1_addMan 0 = .ok (.aload_n 0, 1) := by decide +kernel
theorem dX1_addMan_1 : decode cX1_addMan 1 = .ok (.getfield 21, 3) := by decide +kernel
theorem dX1_addMan_4 : decode cX1_addMan 4 = .ok (.iload_n 1, 1) := by decide +kernel
theorem dX1_addMan_5 : decode cX1_addMan 5 = .ok (.invokevirtual 31, 3) := by decide +kernel
theorem dX1_addMan_8 : decode cX1_addMan 8 = .ok (.ifCond .eq 13, 3) := by decide +kernel
theorem dX1_addMan_11 : decode cX1_addMan 11 = .ok (.aload_n 0, 1) := by decide +kernel
theorem dX1_addMan_12 : decode cX1_addMan 12 = .ok (.getfield 9, 3) := by decide +kernel
theorem dX1_addMan_15 : decode cX1_addMan 15 = .ok (.iload_n 1, 1) := by decide +kernel
theorem dX1_addMan_16 : decode cX1_addMan 16 = .ok (.dup2, 1) := by decide +kernel
theorem dX1_addMan_17 : decode cX1_addMan 17 = .ok (.iaload, 1) := by decide +kernel
theorem dX1_addMan_18 : decode cX1_addMan 18 = .ok (.iconst 1, 1) := by decide +kernel
theorem dX1_addMan_19 : decode cX1_addMan 19 = .ok (.iadd, 1) := by decide +kernel
theorem dX1_addMan_20 : decode cX1_addMan 20 = .ok (.iastore, 1) := by decide +kernel
theorem dX1_addMan_21 : decode cX1_addMan 21 = .ok (.return_, 1) := by decide +kernel
theorem dX1_streetOf_0 : decode cX1_streetOf 0 = .ok (.aload_n 0, 1) := by decide +kernel
theorem dX1_streetOf_1 : decode cX1_streetOf 1 = .ok (.getfield 18, 3) := by decide +kernel
theorem dX1_streetOf_4 : decode cX1_streetOf 4 = .ok (.iload_n 1, 1) := by decide +kernel
theorem dX1_streetOf_5 : decode cX1_streetOf 5 = .ok (.iconst 3, 1) := by decide +kernel
theorem dX1_streetOf_6 : decode cX1_streetOf 6 = .ok (.imul, 1) := by decide +kernel
theorem dX1_streetOf_7 : decode cX1_streetOf 7 = .ok (.iload_n 2, 1) := by decide +kernel
theorem dX1_streetOf_8 : decode cX1_streetOf 8 = .ok (.iadd, 1) := by decide +kernel
theorem dX1_streetOf_9 : decode cX1_streetOf 9 = .ok (.iaload, 1) := by decide +kernel
theorem dX1_streetOf_10 : decode cX1_streetOf 10 = .ok (.ireturn, 1) := by decide +kernel
theorem dX1_mostMet_0 : decode cX1_mostMet 0 = .ok (.iconst 0, 1) := by decide +kernel
theorem dX1_mostMet_1 : decode cX1_mostMet 1 = .ok (.istore_n 2, 1) := by decide +kernel
theorem dX1_mostMet_2 : decode cX1_mostMet 2 = .ok (.iconst 0, 1) := by decide +kernel
theorem dX1_mostMet_3 : decode cX1_mostMet 3 = .ok (.istore_n 3, 1) := by decide +kernel
theorem dX1_mostMet_4 : decode cX1_mostMet 4 = .ok (.iconst 0, 1) := by decide +kernel
theorem dX1_mostMet_5 : decode cX1_mostMet 5 = .ok (.istore 4, 2) := by decide +kernel
theorem dX1_mostMet_7 : decode cX1_mostMet 7 = .ok (.iload 4, 2) := by decide +kernel
theorem dX1_mostMet_9 : decode cX1_mostMet 9 = .ok (.aload_n 0, 1) := by decide +kernel
theorem dX1_mostMet_10 : decode cX1_mostMet 10 = .ok (.getfield 21, 3) := by decide +kernel
theorem dX1_mostMet_13 : decode cX1_mostMet 13 = .ok (.getfield 37, 3) := by decide +kernel
theorem dX1_mostMet_16 : decode cX1_mostMet 16 = .ok (.if_icmp .ge 52, 3) := by decide +kernel
theorem dX1_mostMet_19 : decode cX1_mostMet 19 = .ok (.aload_n 0, 1) := by decide +kernel
theorem dX1_mostMet_20 : decode cX1_mostMet 20 = .ok (.getfield 9, 3) := by decide +kernel
theorem dX1_mostMet_23 : decode cX1_mostMet 23 = .ok (.iload 4, 2) := by decide +kernel
theorem dX1_mostMet_25 : decode cX1_mostMet 25 = .ok (.iaload, 1) := by decide +kernel
theorem dX1_mostMet_26 : decode cX1_mostMet 26 = .ok (.iload_n 2, 1) := by decide +kernel
theorem dX1_mostMet_27 : decode cX1_mostMet 27 = .ok (.if_icmp .le 16, 3) := by decide +kernel
theorem dX1_mostMet_30 : decode cX1_mostMet 30 = .ok (.iload_n 2, 1) := by decide +kernel
theorem dX1_mostMet_31 : decode cX1_mostMet 31 = .ok (.istore_n 3, 1) := by decide +kernel
theorem dX1_mostMet_32 : decode cX1_mostMet 32 = .ok (.aload_n 0, 1) := by decide +kernel
theorem dX1_mostMet_33 : decode cX1_mostMet 33 = .ok (.getfield 9, 3) := by decide +kernel
theorem dX1_mostMet_36 : decode cX1_mostMet 36 = .ok (.iload 4, 2) := by decide +kernel
theorem dX1_mostMet_38 : decode cX1_mostMet 38 = .ok (.iaload, 1) := by decide +kernel
theorem dX1_mostMet_39 : decode cX1_mostMet 39 = .ok (.istore_n 2, 1) := by decide +kernel
theorem dX1_mostMet_40 : decode cX1_mostMet 40 = .ok (.goto 22, 3) := by decide +kernel
theorem dX1_mostMet_43 : decode cX1_mostMet 43 = .ok (.aload_n 0, 1) := by decide +kernel
theorem dX1_mostMet_44 : decode cX1_mostMet 44 = .ok (.getfield 9, 3) := by decide +kernel
theorem dX1_mostMet_47 : decode cX1_mostMet 47 = .ok (.iload 4, 2) := by decide +kernel
theorem dX1_mostMet_49 : decode cX1_mostMet 49 = .ok (.iaload, 1) := by decide +kernel
theorem dX1_mostMet_50 : decode cX1_mostMet 50 = .ok (.iload_n 3, 1) := by decide +kernel
theorem dX1_mostMet_51 : decode cX1_mostMet 51 = .ok (.if_icmp .le 11, 3) := by decide +kernel
theorem dX1_mostMet_54 : decode cX1_mostMet 54 = .ok (.aload_n 0, 1) := by decide +kernel
theorem dX1_mostMet_55 : decode cX1_mostMet 55 = .ok (.getfield 9, 3) := by decide +kernel
theorem dX1_mostMet_58 : decode cX1_mostMet 58 = .ok (.iload 4, 2) := by decide +kernel
theorem dX1_mostMet_60 : decode cX1_mostMet 60 = .ok (.iaload, 1) := by decide +kernel
theorem dX1_mostMet_61 : decode cX1_mostMet 61 = .ok (.istore_n 3, 1) := by decide +kernel
theorem dX1_mostMet_62 : decode cX1_mostMet 62 = .ok (.iinc 4 1, 3) := by decide +kernel
theorem dX1_mostMet_65 : decode cX1_mostMet 65 = .ok (.goto (-58), 3) := by decide +kernel
theorem dX1_mostMet_68 : decode cX1_mostMet 68 = .ok (.iload_n 1, 1) := by decide +kernel
theorem dX1_mostMet_69 : decode cX1_mostMet 69 = .ok (.iconst 1, 1) := by decide +kernel
theorem dX1_mostMet_70 : decode cX1_mostMet 70 = .ok (.if_icmp .ne 7, 3) := by decide +kernel
theorem dX1_mostMet_73 : decode cX1_mostMet 73 = .ok (.iload_n 2, 1) := by decide +kernel
theorem dX1_mostMet_74 : decode cX1_mostMet 74 = .ok (.goto 6, 3) := by decide +kernel
theorem dX1_mostMet_77 : decode cX1_mostMet 77 = .ok (.iload_n 2, 1) := by decide +kernel
theorem dX1_mostMet_78 : decode cX1_mostMet 78 = .ok (.iload_n 3, 1) := by decide +kernel
theorem dX1_mostMet_79 : decode cX1_mostMet 79 = .ok (.iadd, 1) := by decide +kernel
theorem dX1_mostMet_80 : decode cX1_mostMet 80 = .ok (.ireturn, 1) := by decide +kernel
theorem dX1_lay_0 : decode cX1_lay 0 = .ok (.aload_n 0, 1) := by decide +kernel
theorem dX1_lay_1 : decode cX1_lay 1 = .ok (.iload_n 1, 1) := by decide +kernel
theorem dX1_lay_2 : decode cX1_lay 2 = .ok (.invokevirtual 41, 3) := by decide +kernel
theorem dX1_lay_5 : decode cX1_lay 5 = .ok (.istore_n 3, 1) := by decide +kernel
theorem dX1_lay_6 : decode cX1_lay 6 = .ok (.aload_n 0, 1) := by decide +kernel
theorem dX1_lay_7 : decode cX1_lay 7 = .ok (.iload_n 2, 1) := by decide +kernel
theorem dX1_lay_8 : decode cX1_lay 8 = .ok (.invokevirtual 45, 3) := by decide +kernel
theorem dX1_lay_11 : decode cX1_lay 11 = .ok (.sipush 999, 3) := by decide +kernel
theorem dX1_lay_14 : decode cX1_lay 14 = .ok (.istore 4, 2) := by decide +kernel
theorem dX1_lay_16 : decode cX1_lay 16 = .ok (.sipush 999, 3) := by decide +kernel
theorem dX1_lay_19 : decode cX1_lay 19 = .ok (.istore 5, 2) := by decide +kernel
theorem dX1_lay_21 : decode cX1_lay 21 = .ok (.iconst 0, 1) := by decide +kernel
theorem dX1_lay_22 : decode cX1_lay 22 = .ok (.istore 6, 2) := by decide +kernel
theorem dX1_lay_24 : decode cX1_lay 24 = .ok (.iload 6, 2) := by decide +kernel
theorem dX1_lay_26 : decode cX1_lay 26 = .ok (.bipush 24, 2) := by decide +kernel
theorem dX1_lay_28 : decode cX1_lay 28 = .ok (.if_icmp .gt 58, 3) := by decide +kernel
theorem dX1_lay_31 : decode cX1_lay 31 = .ok (.aload_n 0, 1) := by decide +kernel
theorem dX1_lay_32 : decode cX1_lay 32 = .ok (.getfield 15, 3) := by decide +kernel
theorem dX1_lay_35 : decode cX1_lay 35 = .ok (.iload 6, 2) := by decide +kernel
theorem dX1_lay_37 : decode cX1_lay 37 = .ok (.iaload, 1) := by decide +kernel
theorem dX1_lay_38 : decode cX1_lay 38 = .ok (.iload 4, 2) := by decide +kernel
theorem dX1_lay_40 : decode cX1_lay 40 = .ok (.if_icmp .ge 14, 3) := by decide +kernel
theorem dX1_lay_43 : decode cX1_lay 43 = .ok (.aload_n 0, 1) := by decide +kernel
theorem dX1_lay_44 : decode cX1_lay 44 = .ok (.iload 6, 2) := by decide +kernel
theorem dX1_lay_46 : decode cX1_lay 46 = .ok (.iload_n 1, 1) := by decide +kernel
theorem dX1_lay_47 : decode cX1_lay 47 = .ok (.iload_n 3, 1) := by decide +kernel
theorem dX1_lay_48 : decode cX1_lay 48 = .ok (.invokevirtual 49, 3) := by decide +kernel
theorem dX1_lay_51 : decode cX1_lay 51 = .ok (.goto 6, 3) := by decide +kernel
theorem dX1_lay_54 : decode cX1_lay 54 = .ok (.sipush 999, 3) := by decide +kernel
theorem dX1_lay_57 : decode cX1_lay 57 = .ok (.istore 7, 2) := by decide +kernel
theorem dX1_lay_59 : decode cX1_lay 59 = .ok (.iload 7, 2) := by decide +kernel
theorem dX1_lay_61 : decode cX1_lay 61 = .ok (.sipush 999, 3) := by decide +kernel
theorem dX1_lay_64 : decode cX1_lay 64 = .ok (.if_icmp .ge 16, 3) := by decide +kernel
theorem dX1_lay_67 : decode cX1_lay 67 = .ok (.aload_n 0, 1) := by decide +kernel
theorem dX1_lay_68 : decode cX1_lay 68 = .ok (.getfield 15, 3) := by decide +kernel
theorem dX1_lay_71 : decode cX1_lay 71 = .ok (.iload 6, 2) := by decide +kernel
theorem dX1_lay_73 : decode cX1_lay 73 = .ok (.iaload, 1) := by decide +kernel
theorem dX1_lay_74 : decode cX1_lay 74 = .ok (.istore 4, 2) := by decide +kernel
theorem dX1_lay_76 : decode cX1_lay 76 = .ok (.iload 7, 2) := by decide +kernel
theorem dX1_lay_78 : decode cX1_lay 78 = .ok (.istore 5, 2) := by decide +kernel
theorem dX1_lay_80 : decode cX1_lay 80 = .ok (.iinc 6 1, 3) := by decide +kernel
theorem dX1_lay_83 : decode cX1_lay 83 = .ok (.goto (-59), 3) := by decide +kernel
theorem dX1_lay_86 : decode cX1_lay 86 = .ok (.aload_n 0, 1) := by decide +kernel
theorem dX1_lay_87 : decode cX1_lay 87 = .ok (.iconst 0, 1) := by decide +kernel
theorem dX1_lay_88 : decode cX1_lay 88 = .ok (.iload 4, 2) := by decide +kernel
theorem dX1_lay_90 : decode cX1_lay 90 = .ok (.iload_n 2, 1) := by decide +kernel
theorem dX1_lay_91 : decode cX1_lay 91 = .ok (.invokevirtual 53, 3) := by decide +kernel
theorem dX1_lay_94 : decode cX1_lay 94 = .ok (.pop, 1) := by decide +kernel
theorem dX1_lay_95 : decode cX1_lay 95 = .ok (.aload_n 0, 1) := by decide +kernel
theorem dX1_lay_96 : decode cX1_lay 96 = .ok (.iconst 1, 1) := by decide +kernel
theorem dX1_lay_97 : decode cX1_lay 97 = .ok (.iload 5, 2) := by decide +kernel
theorem dX1_lay_99 : decode cX1_lay 99 = .ok (.iload_n 2, 1) := by decide +kernel
theorem dX1_lay_100 : decode cX1_lay 100 = .ok (.invokevirtual 53, 3) := by decide +kernel
theorem dX1_lay_103 : decode cX1_lay 103 = .ok (.pop, 1) := by decide +kernel
theorem dX1_lay_104 : decode cX1_lay 104 = .ok (.return_, 1) := by decide +kernel
theorem dX1_firstMate_0 : decode cX1_firstMate 0 = .ok (.iload_n 2, 1) := by decide +kernel
theorem dX1_firstMate_1 : decode cX1_firstMate 1 = .ok (.iconst 1, 1) := by decide +kernel
theorem dX1_firstMate_2 : decode cX1_firstMate 2 = .ok (.if_icmp .ne 20, 3) := by decide +kernel
theorem dX1_firstMate_5 : decode cX1_firstMate 5 = .ok (.aload_n 0, 1) := by decide +kernel
theorem dX1_firstMate_6 : decode cX1_firstMate 6 = .ok (.iload_n 1, 1) := by decide +kernel
theorem dX1_firstMate_7 : decode cX1_firstMate 7 = .ok (.invokevirtual 57, 3) := by decide +kernel
theorem dX1_firstMate_10 : decode cX1_firstMate 10 = .ok (.iload_n 3, 1) := by decide +kernel
theorem dX1_firstMate_11 : decode cX1_firstMate 11 = .ok (.if_icmp .ne 7, 3) := by decide +kernel
theorem dX1_firstMate_14 : decode cX1_firstMate 14 = .ok (.iconst 0, 1) := by decide +kernel
theorem dX1_firstMate_15 : decode cX1_firstMate 15 = .ok (.goto 6, 3) := by decide +kernel
theorem dX1_firstMate_18 : decode cX1_firstMate 18 = .ok (.sipush 999, 3) := by decide +kernel
theorem dX1_firstMate_21 : decode cX1_firstMate 21 = .ok (.ireturn, 1) := by decide +kernel
theorem dX1_firstMate_22 : decode cX1_firstMate 22 = .ok (.sipush 999, 3) := by decide +kernel
theorem dX1_firstMate_25 : decode cX1_firstMate 25 = .ok (.istore 4, 2) := by decide +kernel
theorem dX1_firstMate_27 : decode cX1_firstMate 27 = .ok (.iconst 0, 1) := by decide +kernel
theorem dX1_firstMate_28 : decode cX1_firstMate 28 = .ok (.istore 5, 2) := by decide +kernel
theorem dX1_firstMate_30 : decode cX1_firstMate 30 = .ok (.iload 5, 2) := by decide +kernel
theorem dX1_firstMate_32 : decode cX1_firstMate 32 = .ok (.bipush 24, 2) := by decide +kernel
theorem dX1_firstMate_34 : decode cX1_firstMate 34 = .ok (.if_icmp .gt 41, 3) := by decide +kernel
theorem dX1_firstMate_37 : decode cX1_firstMate 37 = .ok (.aload_n 0, 1) := by decide +kernel
theorem dX1_firstMate_38 : decode cX1_firstMate 38 = .ok (.getfield 15, 3) := by decide +kernel
theorem dX1_firstMate_41 : decode cX1_firstMate 41 = .ok (.iload 5, 2) := by decide +kernel
theorem dX1_firstMate_43 : decode cX1_firstMate 43 = .ok (.iaload, 1) := by decide +kernel
theorem dX1_firstMate_44 : decode cX1_firstMate 44 = .ok (.iload 4, 2) := by decide +kernel
theorem dX1_firstMate_46 : decode cX1_firstMate 46 = .ok (.if_icmp .ge 23, 3) := by decide +kernel
theorem dX1_firstMate_49 : decode cX1_firstMate 49 = .ok (.aload_n 0, 1) := by decide +kernel
theorem dX1_firstMate_50 : decode cX1_firstMate 50 = .ok (.iload_n 1, 1) := by decide +kernel
theorem dX1_firstMate_51 : decode cX1_firstMate 51 = .ok (.iload 5, 2) := by decide +kernel
theorem dX1_firstMate_53 : decode cX1_firstMate 53 = .ok (.invokevirtual 60, 3) := by decide +kernel
theorem dX1_firstMate_56 : decode cX1_firstMate 56 = .ok (.iload_n 3, 1) := by decide +kernel
theorem dX1_firstMate_57 : decode cX1_firstMate 57 = .ok (.if_icmp .ne 12, 3) := by decide +kernel
theorem dX1_firstMate_60 : decode cX1_firstMate 60 = .ok (.aload_n 0, 1) := by decide +kernel
theorem dX1_firstMate_61 : decode cX1_firstMate 61 = .ok (.getfield 15, 3) := by decide +kernel
theorem dX1_firstMate_64 : decode cX1_firstMate 64 = .ok (.iload 5, 2) := by decide +kernel
theorem dX1_firstMate_66 : decode cX1_firstMate 66 = .ok (.iaload, 1) := by decide +kernel
theorem dX1_firstMate_67 : decode cX1_firstMate 67 = .ok (.istore 4, 2) := by decide +kernel
theorem dX1_firstMate_69 : decode cX1_firstMate 69 = .ok (.iinc 5 1, 3) := by decide +kernel
theorem dX1_firstMate_72 : decode cX1_firstMate 72 = .ok (.goto (-42), 3) := by decide +kernel
theorem dX1_firstMate_75 : decode cX1_firstMate 75 = .ok (.iload 4, 2) := by decide +kernel
theorem dX1_firstMate_77 : decode cX1_firstMate 77 = .ok (.ireturn, 1) := by decide +kernel
theorem dX1_menMet_0 : decode cX1_menMet 0 = .ok (.iload_n 1, 1) := by decide +kernel
theorem dX1_menMet_1 : decode cX1_menMet 1 = .ok (.bipush 24, 2) := by decide +kernel
theorem dX1_menMet_3 : decode cX1_menMet 3 = .ok (.if_icmp .ne 7, 3) := by decide +kernel
theorem dX1_menMet_6 : decode cX1_menMet 6 = .ok (.iconst 0, 1) := by decide +kernel
theorem dX1_menMet_7 : decode cX1_menMet 7 = .ok (.goto 12, 3) := by decide +kernel
theorem dX1_menMet_10 : decode cX1_menMet 10 = .ok (.aload_n 0, 1) := by decide +kernel
theorem dX1_menMet_11 : decode cX1_menMet 11 = .ok (.getfield 9, 3) := by decide +kernel
theorem dX1_menMet_14 : decode cX1_menMet 14 = .ok (.iload_n 1, 1) := by decide +kernel
theorem dX1_menMet_15 : decode cX1_menMet 15 = .ok (.bipush 8, 2) := by decide +kernel
theorem dX1_menMet_17 : decode cX1_menMet 17 = .ok (.irem, 1) := by decide +kernel
theorem dX1_menMet_18 : decode cX1_menMet 18 = .ok (.iaload, 1) := by decide +kernel
theorem dX1_menMet_19 : decode cX1_menMet 19 = .ok (.ireturn, 1) := by decide +kernel
theorem dX1_menMetByBoth_0 : decode cX1_menMetByBoth 0 = .ok (.iload_n 1, 1) := by decide +kernel
theorem dX1_menMetByBoth_1 : decode cX1_menMetByBoth 1 = .ok (.bipush 24, 2) := by decide +kernel
theorem dX1_menMetByBoth_3 : decode cX1_menMetByBoth 3 = .ok (.if_icmp .eq 9, 3) := by decide +kernel
theorem dX1_menMetByBoth_6 : decode cX1_menMetByBoth 6 = .ok (.iload_n 2, 1) := by decide +kernel
theorem dX1_menMetByBoth_7 : decode cX1_menMetByBoth 7 = .ok (.bipush 24, 2) := by decide +kernel
theorem dX1_menMetByBoth_9 : decode cX1_menMetByBoth 9 = .ok (.if_icmp .ne 15, 3) := by decide +kernel
theorem dX1_menMetByBoth_12 : decode cX1_menMetByBoth 12 = .ok (.aload_n 0, 1) := by decide +kernel
theorem dX1_menMetByBoth_13 : decode cX1_menMetByBoth 13 = .ok (.iload_n 1, 1) := by decide +kernel
theorem dX1_menMetByBoth_14 : decode cX1_menMetByBoth 14 = .ok (.invokevirtual 57, 3) := by decide +kernel
theorem dX1_menMetByBoth_17 : decode cX1_menMetByBoth 17 = .ok (.aload_n 0, 1) := by decide +kernel
theorem dX1_menMetByBoth_18 : decode cX1_menMetByBoth 18 = .ok (.iload_n 2, 1) := by decide +kernel
theorem dX1_menMetByBoth_19 : decode cX1_menMetByBoth 19 = .ok (.invokevirtual 57, 3) := by decide +kernel
theorem dX1_menMetByBoth_22 : decode cX1_menMetByBoth 22 = .ok (.iadd, 1) := by decide +kernel
theorem dX1_menMetByBoth_23 : decode cX1_menMetByBoth 23 = .ok (.ireturn, 1) := by decide +kernel
theorem dX1_menMetByBoth_24 : decode cX1_menMetByBoth 24 = .ok (.iload_n 1, 1) := by decide +kernel
theorem dX1_menMetByBoth_25 : decode cX1_menMetByBoth 25 = .ok (.iload_n 2, 1) := by decide +kernel
theorem dX1_menMetByBoth_26 : decode cX1_menMetByBoth 26 = .ok (.invokestatic 64, 3) := by decide +kernel
theorem dX1_menMetByBoth_29 : decode cX1_menMetByBoth 29 = .ok (.istore_n 3, 1) := by decide +kernel
theorem dX1_menMetByBoth_30 : decode cX1_menMetByBoth 30 = .ok (.iload_n 1, 1) := by decide +kernel
theorem dX1_menMetByBoth_31 : decode cX1_menMetByBoth 31 = .ok (.iload_n 2, 1) := by decide +kernel
theorem dX1_menMetByBoth_32 : decode cX1_menMetByBoth 32 = .ok (.invokestatic 69, 3) := by decide +kernel
theorem dX1_menMetByBoth_35 : decode cX1_menMetByBoth 35 = .ok (.istore 4, 2) := by decide +kernel
theorem dX1_menMetByBoth_37 : decode cX1_menMetByBoth 37 = .ok (.iload 4, 2) := by decide +kernel
theorem dX1_menMetByBoth_39 : decode cX1_menMetByBoth 39 = .ok (.bipush 8, 2) := by decide +kernel
theorem dX1_menMetByBoth_41 : decode cX1_menMetByBoth 41 = .ok (.idiv, 1) := by decide +kernel
theorem dX1_menMetByBoth_42 : decode cX1_menMetByBoth 42 = .ok (.iload_n 3, 1) := by decide +kernel
theorem dX1_menMetByBoth_43 : decode cX1_menMetByBoth 43 = .ok (.bipush 8, 2) := by decide +kernel
theorem dX1_menMetByBoth_45 : decode cX1_menMetByBoth 45 = .ok (.idiv, 1) := by decide +kernel
theorem dX1_menMetByBoth_46 : decode cX1_menMetByBoth 46 = .ok (.isub, 1) := by decide +kernel
theorem dX1_menMetByBoth_47 : decode cX1_menMetByBoth 47 = .ok (.istore 5, 2) := by decide +kernel
theorem dX1_menMetByBoth_49 : decode cX1_menMetByBoth 49 = .ok (.aload_n 0, 1) := by decide +kernel
theorem dX1_menMetByBoth_50 : decode cX1_menMetByBoth 50 = .ok (.getfield 21, 3) := by decide +kernel
theorem dX1_menMetByBoth_53 : decode cX1_menMetByBoth 53 = .ok (.iload_n 3, 1) := by decide +kernel
theorem dX1_menMetByBoth_54 : decode cX1_menMetByBoth 54 = .ok (.bipush 8, 2) := by decide +kernel
theorem dX1_menMetByBoth_56 : decode cX1_menMetByBoth 56 = .ok (.irem, 1) := by decide +kernel
theorem dX1_menMetByBoth_57 : decode cX1_menMetByBoth 57 = .ok (.iload 4, 2) := by decide +kernel
theorem dX1_menMetByBoth_59 : decode cX1_menMetByBoth 59 = .ok (.bipush 8, 2) := by decide +kernel
theorem dX1_menMetByBoth_61 : decode cX1_menMetByBoth 61 = .ok (.irem, 1) := by decide +kernel
theorem dX1_menMetByBoth_62 : decode cX1_menMetByBoth 62 = .ok (.invokevirtual 72, 3) := by decide +kernel
theorem dX1_menMetByBoth_65 : decode cX1_menMetByBoth 65 = .ok (.istore 6, 2) := by decide +kernel
theorem dX1_menMetByBoth_67 : decode cX1_menMetByBoth 67 = .ok (.iload 6, 2) := by decide +kernel
theorem dX1_menMetByBoth_69 : decode cX1_menMetByBoth 69 = .ok (.ifCond .eq 15, 3) := by decide +kernel
theorem dX1_menMetByBoth_72 : decode cX1_menMetByBoth 72 = .ok (.iload 5, 2) := by decide +kernel
theorem dX1_menMetByBoth_74 : decode cX1_menMetByBoth 74 = .ok (.ifCond .le 14, 3) := by decide +kernel
theorem dX1_menMetByBoth_77 : decode cX1_menMetByBoth 77 = .ok (.iload 5, 2) := by decide +kernel
theorem dX1_menMetByBoth_79 : decode cX1_menMetByBoth 79 = .ok (.iload 6, 2) := by decide +kernel
theorem dX1_menMetByBoth_81 : decode cX1_menMetByBoth 81 = .ok (.if_icmp .lt 7, 3) := by decide +kernel
theorem dX1_menMetByBoth_84 : decode cX1_menMetByBoth 84 = .ok (.iconst 1, 1) := by decide +kernel
theorem dX1_menMetByBoth_85 : decode cX1_menMetByBoth 85 = .ok (.goto 4, 3) := by decide +kernel
theorem dX1_menMetByBoth_88 : decode cX1_menMetByBoth 88 = .ok (.iconst 0, 1) := by decide +kernel
theorem dX1_menMetByBoth_89 : decode cX1_menMetByBoth 89 = .ok (.istore 7, 2) := by decide +kernel
theorem dX1_menMetByBoth_91 : decode cX1_menMetByBoth 91 = .ok (.iload 7, 2) := by decide +kernel
theorem dX1_menMetByBoth_93 : decode cX1_menMetByBoth 93 = .ok (.ifCond .eq 11, 3) := by decide +kernel
theorem dX1_menMetByBoth_96 : decode cX1_menMetByBoth 96 = .ok (.aload_n 0, 1) := by decide +kernel
theorem dX1_menMetByBoth_97 : decode cX1_menMetByBoth 97 = .ok (.iload_n 3, 1) := by decide +kernel
theorem dX1_menMetByBoth_98 : decode cX1_menMetByBoth 98 = .ok (.invokevirtual 57, 3) := by decide +kernel
theorem dX1_menMetByBoth_101 : decode cX1_menMetByBoth 101 = .ok (.goto 15, 3) := by decide +kernel
theorem dX1_menMetByBoth_104 : decode cX1_menMetByBoth 104 = .ok (.aload_n 0, 1) := by decide +kernel
theorem dX1_menMetByBoth_105 : decode cX1_menMetByBoth 105 = .ok (.iload_n 3, 1) := by decide +kernel
theorem dX1_menMetByBoth_106 : decode cX1_menMetByBoth 106 = .ok (.invokevirtual 57, 3) := by decide +kernel
theorem dX1_menMetByBoth_109 : decode cX1_menMetByBoth 109 = .ok (.aload_n 0, 1) := by decide +kernel
theorem dX1_menMetByBoth_110 : decode cX1_menMetByBoth 110 = .ok (.iload 4, 2) := by decide +kernel
theorem dX1_menMetByBoth_112 : decode cX1_menMetByBoth 112 = .ok (.invokevirtual 57, 3) := by decide +kernel
theorem dX1_menMetByBoth_115 : decode cX1_menMetByBoth 115 = .ok (.iadd, 1) := by decide +kernel
theorem dX1_menMetByBoth_116 : decode cX1_menMetByBoth 116 = .ok (.ireturn, 1) := by decide +kernel
theorem dX1_findFirstWalks_0 : decode cX1_findFirstWalks 0 = .ok (.aload_n 0, 1) := by decide +kernel
theorem dX1_findFirstWalks_1 : decode cX1_findFirstWalks 1 = .ok (.getfield 15, 3) := by decide +kernel
theorem dX1_findFirstWalks_4 : decode cX1_findFirstWalks 4 = .ok (.sipush 999, 3) := by decide +kernel
theorem dX1_findFirstWalks_7 : decode cX1_findFirstWalks 7 = .ok (.invokestatic 25, 3) := by decide +kernel
theorem dX1_findFirstWalks_10 : decode cX1_findFirstWalks 10 = .ok (.iconst 1, 1) := by decide +kernel
theorem dX1_findFirstWalks_11 : decode cX1_findFirstWalks 11 = .ok (.istore_n 2, 1) := by decide +kernel
theorem dX1_findFirstWalks_12 : decode cX1_findFirstWalks 12 = .ok (.iconst 0, 1) := by decide +kernel
theorem dX1_findFirstWalks_13 : decode cX1_findFirstWalks 13 = .ok (.istore_n 3, 1) := by decide +kernel
theorem dX1_findFirstWalks_14 : decode cX1_findFirstWalks 14 = .ok (.iload_n 3, 1) := by decide +kernel
theorem dX1_findFirstWalks_15 : decode cX1_findFirstWalks 15 = .ok (.iload_n 1, 1) := by decide +kernel
theorem dX1_findFirstWalks_16 : decode cX1_findFirstWalks 16 = .ok (.if_icmp .ge 19, 3) := by decide +kernel
theorem dX1_findFirstWalks_19 : decode cX1_findFirstWalks 19 = .ok (.iload_n 2, 1) := by decide +kernel
theorem dX1_findFirstWalks_20 : decode cX1_findFirstWalks 20 = .ok (.aload_n 0, 1) := by decide +kernel
theorem dX1_findFirstWalks_21 : decode cX1_findFirstWalks 21 = .ok (.getfield 21, 3) := by decide +kernel
theorem dX1_findFirstWalks_24 : decode cX1_findFirstWalks 24 = .ok (.getfield 37, 3) := by decide +kernel
theorem dX1_findFirstWalks_27 : decode cX1_findFirstWalks 27 = .ok (.imul, 1) := by decide +kernel
theorem dX1_findFirstWalks_28 : decode cX1_findFirstWalks 28 = .ok (.istore_n 2, 1) := by decide +kernel
theorem dX1_findFirstWalks_29 : decode cX1_findFirstWalks 29 = .ok (.iinc 3 1, 3) := by decide +kernel
theorem dX1_findFirstWalks_32 : decode cX1_findFirstWalks 32 = .ok (.goto (-18), 3) := by decide +kernel
theorem dX1_findFirstWalks_35 : decode cX1_findFirstWalks 35 = .ok (.iconst 0, 1) := by decide +kernel
theorem dX1_findFirstWalks_36 : decode cX1_findFirstWalks 36 = .ok (.istore_n 3, 1) := by decide +kernel
theorem dX1_findFirstWalks_37 : decode cX1_findFirstWalks 37 = .ok (.iload_n 3, 1) := by decide +kernel
theorem dX1_findFirstWalks_38 : decode cX1_findFirstWalks 38 = .ok (.iload_n 2, 1) := by decide +kernel
theorem dX1_findFirstWalks_39 : decode cX1_findFirstWalks 39 = .ok (.if_icmp .ge 44, 3) := by decide +kernel
theorem dX1_findFirstWalks_42 : decode cX1_findFirstWalks 42 = .ok (.aload_n 0, 1) := by decide +kernel
theorem dX1_findFirstWalks_43 : decode cX1_findFirstWalks 43 = .ok (.iconst 0, 1) := by decide +kernel
theorem dX1_findFirstWalks_44 : decode cX1_findFirstWalks 44 = .ok (.iload_n 3, 1) := by decide +kernel
theorem dX1_findFirstWalks_45 : decode cX1_findFirstWalks 45 = .ok (.iload_n 1, 1) := by decide +kernel
theorem dX1_findFirstWalks_46 : decode cX1_findFirstWalks 46 = .ok (.invokevirtual 53, 3) := by decide +kernel
theorem dX1_findFirstWalks_49 : decode cX1_findFirstWalks 49 = .ok (.ifCond .eq 28, 3) := by decide +kernel
theorem dX1_findFirstWalks_52 : decode cX1_findFirstWalks 52 = .ok (.aload_n 0, 1) := by decide +kernel
theorem dX1_findFirstWalks_53 : decode cX1_findFirstWalks 53 = .ok (.iload_n 1, 1) := by decide +kernel
theorem dX1_findFirstWalks_54 : decode cX1_findFirstWalks 54 = .ok (.invokevirtual 75, 3) := by decide +kernel
theorem dX1_findFirstWalks_57 : decode cX1_findFirstWalks 57 = .ok (.istore 4, 2) := by decide +kernel
theorem dX1_findFirstWalks_59 : decode cX1_findFirstWalks 59 = .ok (.aload_n 0, 1) := by decide +kernel
theorem dX1_findFirstWalks_60 : decode cX1_findFirstWalks 60 = .ok (.getfield 15, 3) := by decide +kernel
theorem dX1_findFirstWalks_63 : decode cX1_findFirstWalks 63 = .ok (.iload 4, 2) := by decide +kernel
theorem dX1_findFirstWalks_65 : decode cX1_findFirstWalks 65 = .ok (.aload_n 0, 1) := by decide +kernel
theorem dX1_findFirstWalks_66 : decode cX1_findFirstWalks 66 = .ok (.getfield 15, 3) := by decide +kernel
theorem dX1_findFirstWalks_69 : decode cX1_findFirstWalks 69 = .ok (.iload 4, 2) := by decide +kernel
theorem dX1_findFirstWalks_71 : decode cX1_findFirstWalks 71 = .ok (.iaload, 1) := by decide +kernel
theorem dX1_findFirstWalks_72 : decode cX1_findFirstWalks 72 = .ok (.iload_n 3, 1) := by decide +kernel
theorem dX1_findFirstWalks_73 : decode cX1_findFirstWalks 73 = .ok (.invokestatic 64, 3) := by decide +kernel
theorem dX1_findFirstWalks_76 : decode cX1_findFirstWalks 76 = .ok (.iastore, 1) := by decide +kernel
theorem dX1_findFirstWalks_77 : decode cX1_findFirstWalks 77 = .ok (.iinc 3 1, 3) := by decide +kernel
theorem dX1_findFirstWalks_80 : decode cX1_findFirstWalks 80 = .ok (.goto (-43), 3) := by decide +kernel
theorem dX1_findFirstWalks_83 : decode cX1_findFirstWalks 83 = .ok (.return_, 1) := by decide +kernel
theorem dX1_walkOut_0 : decode cX1_walkOut 0 = .ok (.iload_n 2, 1) := by decide +kernel
theorem dX1_walkOut_1 : decode cX1_walkOut 1 = .ok (.istore 4, 2) := by decide +kernel
theorem dX1_walkOut_3 : decode cX1_walkOut 3 = .ok (.bipush (-9), 2) := by decide +kernel
theorem dX1_walkOut_5 : decode cX1_walkOut 5 = .ok (.istore 5, 2) := by decide +kernel
theorem dX1_walkOut_7 : decode cX1_walkOut 7 = .ok (.iconst 1, 1) := by decide +kernel
theorem dX1_walkOut_8 : decode cX1_walkOut 8 = .ok (.istore 6, 2) := by decide +kernel
theorem dX1_walkOut_10 : decode cX1_walkOut 10 = .ok (.iload_n 3, 1) := by decide +kernel
theorem dX1_walkOut_11 : decode cX1_walkOut 11 = .ok (.iconst 1, 1) := by decide +kernel
theorem dX1_walkOut_12 : decode cX1_walkOut 12 = .ok (.isub, 1) := by decide +kernel
theorem dX1_walkOut_13 : decode cX1_walkOut 13 = .ok (.istore 7, 2) := by decide +kernel
theorem dX1_walkOut_15 : decode cX1_walkOut 15 = .ok (.iload 7, 2) := by decide +kernel
theorem dX1_walkOut_17 : decode cX1_walkOut 17 = .ok (.ifCond .lt 111, 3) := by decide +kernel
theorem dX1_walkOut_20 : decode cX1_walkOut 20 = .ok (.aload_n 0, 1) := by decide +kernel
theorem dX1_walkOut_21 : decode cX1_walkOut 21 = .ok (.getfield 21, 3) := by decide +kernel
theorem dX1_walkOut_24 : decode cX1_walkOut 24 = .ok (.getfield 37, 3) := by decide +kernel
theorem dX1_walkOut_27 : decode cX1_walkOut 27 = .ok (.ifCond .le 16, 3) := by decide +kernel
theorem dX1_walkOut_30 : decode cX1_walkOut 30 = .ok (.iload 4, 2) := by decide +kernel
theorem dX1_walkOut_32 : decode cX1_walkOut 32 = .ok (.aload_n 0, 1) := by decide +kernel
theorem dX1_walkOut_33 : decode cX1_walkOut 33 = .ok (.getfield 21, 3) := by decide +kernel
theorem dX1_walkOut_36 : decode cX1_walkOut 36 = .ok (.getfield 37, 3) := by decide +kernel
theorem dX1_walkOut_39 : decode cX1_walkOut 39 = .ok (.irem, 1) := by decide +kernel
theorem dX1_walkOut_40 : decode cX1_walkOut 40 = .ok (.goto 4, 3) := by decide +kernel
theorem dX1_walkOut_43 : decode cX1_walkOut 43 = .ok (.iconst 0, 1) := by decide +kernel
theorem dX1_walkOut_44 : decode cX1_walkOut 44 = .ok (.istore 8, 2) := by decide +kernel
theorem dX1_walkOut_46 : decode cX1_walkOut 46 = .ok (.aload_n 0, 1) := by decide +kernel
theorem dX1_walkOut_47 : decode cX1_walkOut 47 = .ok (.getfield 21, 3) := by decide +kernel
theorem dX1_walkOut_50 : decode cX1_walkOut 50 = .ok (.getfield 37, 3) := by decide +kernel
theorem dX1_walkOut_53 : decode cX1_walkOut 53 = .ok (.ifCond .le 16, 3) := by decide +kernel
theorem dX1_walkOut_56 : decode cX1_walkOut 56 = .ok (.iload 4, 2) := by decide +kernel
theorem dX1_walkOut_58 : decode cX1_walkOut 58 = .ok (.aload_n 0, 1) := by decide +kernel
theorem dX1_walkOut_59 : decode cX1_walkOut 59 = .ok (.getfield 21, 3) := by decide +kernel
theorem dX1_walkOut_62 : decode cX1_walkOut 62 = .ok (.getfield 37, 3) := by decide +kernel
theorem dX1_walkOut_65 : decode cX1_walkOut 65 = .ok (.idiv, 1) := by decide +kernel
theorem dX1_walkOut_66 : decode cX1_walkOut 66 = .ok (.goto 4, 3) := by decide +kernel
theorem dX1_walkOut_69 : decode cX1_walkOut 69 = .ok (.iconst 0, 1) := by decide +kernel
theorem dX1_walkOut_70 : decode cX1_walkOut 70 = .ok (.istore 4, 2) := by decide +kernel
theorem dX1_walkOut_72 : decode cX1_walkOut 72 = .ok (.aload_n 0, 1) := by decide +kernel
theorem dX1_walkOut_73 : decode cX1_walkOut 73 = .ok (.getfield 18, 3) := by decide +kernel
theorem dX1_walkOut_76 : decode cX1_walkOut 76 = .ok (.iload_n 1, 1) := by decide +kernel
theorem dX1_walkOut_77 : decode cX1_walkOut 77 = .ok (.iconst 3, 1) := by decide +kernel
theorem dX1_walkOut_78 : decode cX1_walkOut 78 = .ok (.imul, 1) := by decide +kernel
theorem dX1_walkOut_79 : decode cX1_walkOut 79 = .ok (.iload 7, 2) := by decide +kernel
theorem dX1_walkOut_81 : decode cX1_walkOut 81 = .ok (.iadd, 1) := by decide +kernel
theorem dX1_walkOut_82 : decode cX1_walkOut 82 = .ok (.iload 8, 2) := by decide +kernel
theorem dX1_walkOut_84 : decode cX1_walkOut 84 = .ok (.iastore, 1) := by decide +kernel
theorem dX1_walkOut_85 : decode cX1_walkOut 85 = .ok (.iload 6, 2) := by decide +kernel
theorem dX1_walkOut_87 : decode cX1_walkOut 87 = .ok (.ifCond .eq 28, 3) := by decide +kernel
theorem dX1_walkOut_90 : decode cX1_walkOut 90 = .ok (.iload 5, 2) := by decide +kernel
theorem dX1_walkOut_92 : decode cX1_walkOut 92 = .ok (.bipush (-9), 2) := by decide +kernel
theorem dX1_walkOut_94 : decode cX1_walkOut 94 = .ok (.if_icmp .eq 17, 3) := by decide +kernel
theorem dX1_walkOut_97 : decode cX1_walkOut 97 = .ok (.aload_n 0, 1) := by decide +kernel
theorem dX1_walkOut_98 : decode cX1_walkOut 98 = .ok (.getfield 21, 3) := by decide +kernel
theorem dX1_walkOut_101 : decode cX1_walkOut 101 = .ok (.iload 8, 2) := by decide +kernel
theorem dX1_walkOut_103 : decode cX1_walkOut 103 = .ok (.iload 5, 2) := by decide +kernel
theorem dX1_walkOut_105 : decode cX1_walkOut 105 = .ok (.invokevirtual 78, 3) := by decide +kernel
theorem dX1_walkOut_108 : decode cX1_walkOut 108 = .ok (.ifCond .eq 7, 3) := by decide +kernel
theorem dX1_walkOut_111 : decode cX1_walkOut 111 = .ok (.iconst 1, 1) := by decide +kernel
theorem dX1_walkOut_112 : decode cX1_walkOut 112 = .ok (.goto 4, 3) := by decide +kernel
theorem dX1_walkOut_115 : decode cX1_walkOut 115 = .ok (.iconst 0, 1) := by decide +kernel
theorem dX1_walkOut_116 : decode cX1_walkOut 116 = .ok (.istore 6, 2) := by decide +kernel
theorem dX1_walkOut_118 : decode cX1_walkOut 118 = .ok (.iload 8, 2) := by decide +kernel
theorem dX1_walkOut_120 : decode cX1_walkOut 120 = .ok (.istore 5, 2) := by decide +kernel
theorem dX1_walkOut_122 : decode cX1_walkOut 122 = .ok (.iinc 7 (-1), 3) := by decide +kernel
theorem dX1_walkOut_125 : decode cX1_walkOut 125 = .ok (.goto (-110), 3) := by decide +kernel
theorem dX1_walkOut_128 : decode cX1_walkOut 128 = .ok (.iload 6, 2) := by decide +kernel
theorem dX1_walkOut_130 : decode cX1_walkOut 130 = .ok (.ireturn, 1) := by decide +kernel
theorem dX1_kindWalked_0 : decode cX1_kindWalked 0 = .ok (.iconst 0, 1) := by decide +kernel
theorem dX1_kindWalked_1 : decode cX1_kindWalked 1 = .ok (.istore_n 2, 1) := by decide +kernel
theorem dX1_kindWalked_2 : decode cX1_kindWalked 2 = .ok (.iload_n 2, 1) := by decide +kernel
theorem dX1_kindWalked_3 : decode cX1_kindWalked 3 = .ok (.iload_n 1, 1) := by decide +kernel
theorem dX1_kindWalked_4 : decode cX1_kindWalked 4 = .ok (.if_icmp .ge 32, 3) := by decide +kernel
theorem dX1_kindWalked_7 : decode cX1_kindWalked 7 = .ok (.aload_n 0, 1) := by decide +kernel
theorem dX1_kindWalked_8 : decode cX1_kindWalked 8 = .ok (.iconst 0, 1) := by decide +kernel
theorem dX1_kindWalked_9 : decode cX1_kindWalked 9 = .ok (.iload_n 2, 1) := by decide +kernel
theorem dX1_kindWalked_10 : decode cX1_kindWalked 10 = .ok (.invokevirtual 82, 3) := by decide +kernel
theorem dX1_kindWalked_13 : decode cX1_kindWalked 13 = .ok (.istore_n 3, 1) := by decide +kernel
theorem dX1_kindWalked_14 : decode cX1_kindWalked 14 = .ok (.aload_n 0, 1) := by decide +kernel
theorem dX1_kindWalked_15 : decode cX1_kindWalked 15 = .ok (.getfield 9, 3) := by decide +kernel
theorem dX1_kindWalked_18 : decode cX1_kindWalked 18 = .ok (.iload_n 3, 1) := by decide +kernel
theorem dX1_kindWalked_19 : decode cX1_kindWalked 19 = .ok (.iaload, 1) := by decide +kernel
theorem dX1_kindWalked_20 : decode cX1_kindWalked 20 = .ok (.ifCond .le 10, 3) := by decide +kernel
theorem dX1_kindWalked_23 : decode cX1_kindWalked 23 = .ok (.iload_n 2, 1) := by decide +kernel
theorem dX1_kindWalked_24 : decode cX1_kindWalked 24 = .ok (.bipush 8, 2) := by decide +kernel
theorem dX1_kindWalked_26 : decode cX1_kindWalked 26 = .ok (.imul, 1) := by decide +kernel
theorem dX1_kindWalked_27 : decode cX1_kindWalked 27 = .ok (.iload_n 3, 1) := by decide +kernel
theorem dX1_kindWalked_28 : decode cX1_kindWalked 28 = .ok (.iadd, 1) := by decide +kernel
theorem dX1_kindWalked_29 : decode cX1_kindWalked 29 = .ok (.ireturn, 1) := by decide +kernel
theorem dX1_kindWalked_30 : decode cX1_kindWalked 30 = .ok (.iinc 2 1, 3) := by decide +kernel
theorem dX1_kindWalked_33 : decode cX1_kindWalked 33 = .ok (.goto (-31), 3) := by decide +kernel
theorem dX1_kindWalked_36 : decode cX1_kindWalked 36 = .ok (.bipush 24, 2) := by decide +kernel
theorem dX1_kindWalked_38 : decode cX1_kindWalked 38 = .ok (.ireturn, 1) := by decide +kernel
theorem dX2_init_0 : decode cX2_init 0 = .ok (.aload_n 0, 1) := by decide +kernel
theorem dX2_init_1 : decode cX2_init 1 = .ok (.invokespecial 3, 3) := by decide +kernel
theorem dX2_init_4 : decode cX2_init 4 = .ok (.return_, 1) := by decide +kernel
theorem dX2_begin_0 : decode cX2_begin 0 = .ok (.aload_n 0, 1) := by decide +kernel
theorem dX2_begin_1 : decode cX2_begin 1 = .ok (.iload_n 1, 1) := by decide +kernel
theorem dX2_begin_2 : decode cX2_begin 2 = .ok (.putfield 9, 3) := by decide +kernel
theorem dX2_begin_5 : decode cX2_begin 5 = .ok (.aload_n 0, 1) := by decide +kernel
theorem dX2_begin_6 : decode cX2_begin 6 = .ok (.iload_n 2, 1) := by decide +kernel
theorem dX2_begin_7 : decode cX2_begin 7 = .ok (.putfield 15, 3) := by decide +kernel
theorem dX2_begin_10 : decode cX2_begin 10 = .ok (.aload_n 0, 1) := by decide +kernel
theorem dX2_begin_11 : decode cX2_begin 11 = .ok (.iconst 0, 1) := by decide +kernel
theorem dX2_begin_12 : decode cX2_begin 12 = .ok (.putfield 18, 3) := by decide +kernel
theorem dX2_begin_15 : decode cX2_begin 15 = .ok (.aload_n 0, 1) := by decide +kernel
theorem dX2_begin_16 : decode cX2_begin 16 = .ok (.iconst 0, 1) := by decide +kernel
theorem dX2_begin_17 : decode cX2_begin 17 = .ok (.putfield 21, 3) := by decide +kernel
theorem dX2_begin_20 : decode cX2_begin 20 = .ok (.return_, 1) := by decide +kernel
theorem dX2_addCrew_0 : decode cX2_addCrew 0 = .ok (.aload_n 0, 1) := by decide +kernel
theorem dX2_addCrew_1 : decode cX2_addCrew 1 = .ok (.dup, 1) := by decide +kernel
theorem dX2_addCrew_2 : decode cX2_addCrew 2 = .ok (.getfield 9, 3) := by decide +kernel
theorem dX2_addCrew_5 : decode cX2_addCrew 5 = .ok (.iload_n 1, 1) := by decide +kernel
theorem dX2_addCrew_6 : decode cX2_addCrew 6 = .ok (.iadd, 1) := by decide +kernel
theorem dX2_addCrew_7 : decode cX2_addCrew 7 = .ok (.putfield 9, 3) := by decide +kernel
theorem dX2_addCrew_10 : decode cX2_addCrew 10 = .ok (.aload_n 0, 1) := by decide +kernel
theorem dX2_addCrew_11 : decode cX2_addCrew 11 = .ok (.dup, 1) := by decide +kernel
theorem dX2_addCrew_12 : decode cX2_addCrew 12 = .ok (.getfield 15, 3) := by decide +kernel
theorem dX2_addCrew_15 : decode cX2_addCrew 15 = .ok (.iload_n 2, 1) := by decide +kernel
theorem dX2_addCrew_16 : decode cX2_addCrew 16 = .ok (.iadd, 1) := by decide +kernel
theorem dX2_addCrew_17 : decode cX2_addCrew 17 = .ok (.putfield 15, 3) := by decide +kernel
theorem dX2_addCrew_20 : decode cX2_addCrew 20 = .ok (.return_, 1) := by decide +kernel
theorem dX2_addSpare_0 : decode cX2_addSpare 0 = .ok (.aload_n 0, 1) := by decide +kernel
theorem dX2_addSpare_1 : decode cX2_addSpare 1 = .ok (.dup, 1) := by decide +kernel
theorem dX2_addSpare_2 : decode cX2_addSpare 2 = .ok (.getfield 18, 3) := by decide +kernel
theorem dX2_addSpare_5 : decode cX2_addSpare 5 = .ok (.iload_n 1, 1) := by decide +kernel
theorem dX2_addSpare_6 : decode cX2_addSpare 6 = .ok (.iadd, 1) := by decide +kernel
theorem dX2_addSpare_7 : decode cX2_addSpare 7 = .ok (.putfield 18, 3) := by decide +kernel
theorem dX2_addSpare_10 : decode cX2_addSpare 10 = .ok (.aload_n 0, 1) := by decide +kernel
theorem dX2_addSpare_11 : decode cX2_addSpare 11 = .ok (.dup, 1) := by decide +kernel
theorem dX2_addSpare_12 : decode cX2_addSpare 12 = .ok (.getfield 21, 3) := by decide +kernel
theorem dX2_addSpare_15 : decode cX2_addSpare 15 = .ok (.iload_n 1, 1) := by decide +kernel
theorem dX2_addSpare_16 : decode cX2_addSpare 16 = .ok (.iload_n 2, 1) := by decide +kernel
theorem dX2_addSpare_17 : decode cX2_addSpare 17 = .ok (.invokestatic 24, 3) := by decide +kernel
theorem dX2_addSpare_20 : decode cX2_addSpare 20 = .ok (.iadd, 1) := by decide +kernel
theorem dX2_addSpare_21 : decode cX2_addSpare 21 = .ok (.putfield 21, 3) := by decide +kernel
theorem dX2_addSpare_24 : decode cX2_addSpare 24 = .ok (.return_, 1) := by decide +kernel
theorem dX2_leastFor_0 : decode cX2_leastFor 0 = .ok (.iconst 0, 1) := by decide +kernel
theorem dX2_leastFor_1 : decode cX2_leastFor 1 = .ok (.iload_n 2, 1) := by decide +kernel
theorem dX2_leastFor_2 : decode cX2_leastFor 2 = .ok (.aload_n 0, 1) := by decide +kernel
theorem dX2_leastFor_3 : decode cX2_leastFor 3 = .ok (.getfield 15, 3) := by decide +kernel
theorem dX2_leastFor_6 : decode cX2_leastFor 6 = .ok (.isub, 1) := by decide +kernel
theorem dX2_leastFor_7 : decode cX2_leastFor 7 = .ok (.invokestatic 30, 3) := by decide +kernel
theorem dX2_leastFor_10 : decode cX2_leastFor 10 = .ok (.istore_n 3, 1) := by decide +kernel
theorem dX2_leastFor_11 : decode cX2_leastFor 11 = .ok (.iload_n 3, 1) := by decide +kernel
theorem dX2_leastFor_12 : decode cX2_leastFor 12 = .ok (.iload_n 1, 1) := by decide +kernel
theorem dX2_leastFor_13 : decode cX2_leastFor 13 = .ok (.aload_n 0, 1) := by decide +kernel
theorem dX2_leastFor_14 : decode cX2_leastFor 14 = .ok (.getfield 9, 3) := by decide +kernel
theorem dX2_leastFor_17 : decode cX2_leastFor 17 = .ok (.isub, 1) := by decide +kernel
theorem dX2_leastFor_18 : decode cX2_leastFor 18 = .ok (.invokestatic 30, 3) := by decide +kernel
theorem dX2_leastFor_21 : decode cX2_leastFor 21 = .ok (.istore 4, 2) := by decide +kernel
theorem dX2_leastFor_23 : decode cX2_leastFor 23 = .ok (.iload_n 3, 1) := by decide +kernel
theorem dX2_leastFor_24 : decode cX2_leastFor 24 = .ok (.aload_n 0, 1) := by decide +kernel
theorem dX2_leastFor_25 : decode cX2_leastFor 25 = .ok (.getfield 21, 3) := by decide +kernel
theorem dX2_leastFor_28 : decode cX2_leastFor 28 = .ok (.if_icmp .gt 17, 3) := by decide +kernel
theorem dX2_leastFor_31 : decode cX2_leastFor 31 = .ok (.iload 4, 2) := by decide +kernel
theorem dX2_leastFor_33 : decode cX2_leastFor 33 = .ok (.aload_n 0, 1) := by decide +kernel
theorem dX2_leastFor_34 : decode cX2_leastFor 34 = .ok (.getfield 18, 3) := by decide +kernel
theorem dX2_leastFor_37 : decode cX2_leastFor 37 = .ok (.if_icmp .gt 8, 3) := by decide +kernel
theorem dX2_leastFor_40 : decode cX2_leastFor 40 = .ok (.iload 4, 2) := by decide +kernel
theorem dX2_leastFor_42 : decode cX2_leastFor 42 = .ok (.goto 5, 3) := by decide +kernel
theorem dX2_leastFor_45 : decode cX2_leastFor 45 = .ok (.bipush (-9), 2) := by decide +kernel
theorem dX2_leastFor_47 : decode cX2_leastFor 47 = .ok (.ireturn, 1) := by decide +kernel
theorem dX3_init_0 : decode cX3_init 0 = .ok (.aload_n 0, 1) := by decide +kernel
theorem dX3_init_1 : decode cX3_init 1 = .ok (.invokespecial 3, 3) := by decide +kernel
theorem dX3_init_4 : decode cX3_init 4 = .ok (.aload_n 0, 1) := by decide +kernel
theorem dX3_init_5 : decode cX3_init 5 = .ok (.iconst 4, 1) := by decide +kernel
theorem dX3_init_6 : decode cX3_init 6 = .ok (.newarray .int, 2) := by decide +kernel
theorem dX3_init_8 : decode cX3_init 8 = .ok (.putfield 9, 3) := by decide +kernel
theorem dX3_init_11 : decode cX3_init 11 = .ok (.aload_n 0, 1) := by decide +kernel
theorem dX3_init_12 : decode cX3_init 12 = .ok (.iconst 4, 1) := by decide +kernel
theorem dX3_init_13 : decode cX3_init 13 = .ok (.newarray .int, 2) := by decide +kernel
theorem dX3_init_15 : decode cX3_init 15 = .ok (.putfield 15, 3) := by decide +kernel
theorem dX3_init_18 : decode cX3_init 18 = .ok (.aload_n 0, 1) := by decide +kernel
theorem dX3_init_19 : decode cX3_init 19 = .ok (.iload_n 1, 1) := by decide +kernel
theorem dX3_init_20 : decode cX3_init 20 = .ok (.putfield 18, 3) := by decide +kernel
theorem dX3_init_23 : decode cX3_init 23 = .ok (.aload_n 0, 1) := by decide +kernel
theorem dX3_init_24 : decode cX3_init 24 = .ok (.iload_n 2, 1) := by decide +kernel
theorem dX3_init_25 : decode cX3_init 25 = .ok (.putfield 22, 3) := by decide +kernel
theorem dX3_init_28 : decode cX3_init 28 = .ok (.aload_n 0, 1) := by decide +kernel
theorem dX3_init_29 : decode cX3_init 29 = .ok (.iload_n 3, 1) := by decide +kernel
theorem dX3_init_30 : decode cX3_init 30 = .ok (.putfield 25, 3) := by decide +kernel
theorem dX3_init_33 : decode cX3_init 33 = .ok (.aload_n 0, 1) := by decide +kernel
theorem dX3_init_34 : decode cX3_init 34 = .ok (.iload 4, 2) := by decide +kernel
theorem dX3_init_36 : decode cX3_init 36 = .ok (.putfield 28, 3) := by decide +kernel
theorem dX3_init_39 : decode cX3_init 39 = .ok (.aload_n 0, 1) := by decide +kernel
theorem dX3_init_40 : decode cX3_init 40 = .ok (.iload 5, 2) := by decide +kernel
theorem dX3_init_42 : decode cX3_init 42 = .ok (.putfield 31, 3) := by decide +kernel
theorem dX3_init_45 : decode cX3_init 45 = .ok (.aload_n 0, 1) := by decide +kernel
theorem dX3_init_46 : decode cX3_init 46 = .ok (.iload 6, 2) := by decide +kernel
theorem dX3_init_48 : decode cX3_init 48 = .ok (.putfield 34, 3) := by decide +kernel
theorem dX3_init_51 : decode cX3_init 51 = .ok (.aload_n 0, 1) := by decide +kernel
theorem dX3_init_52 : decode cX3_init 52 = .ok (.iload 7, 2) := by decide +kernel
theorem dX3_init_54 : decode cX3_init 54 = .ok (.putfield 37, 3) := by decide +kernel
theorem dX3_init_57 : decode cX3_init 57 = .ok (.aload_n 0, 1) := by decide +kernel
theorem dX3_init_58 : decode cX3_init 58 = .ok (.iload 7, 2) := by decide +kernel
theorem dX3_init_60 : decode cX3_init 60 = .ok (.putfield 40, 3) := by decide +kernel
theorem dX3_init_63 : decode cX3_init 63 = .ok (.return_, 1) := by decide +kernel
theorem dX3_isSeaman_0 : decode cX3_isSeaman 0 = .ok (.aload_n 0, 1) := by decide +kernel
theorem dX3_isSeaman_1 : decode cX3_isSeaman 1 = .ok (.getfield 34, 3) := by decide +kernel
theorem dX3_isSeaman_4 : decode cX3_isSeaman 4 = .ok (.iconst 3, 1) := by decide +kernel
theorem dX3_isSeaman_5 : decode cX3_isSeaman 5 = .ok (.if_icmp .lt 7, 3) := by decide +kernel
theorem dX3_isSeaman_8 : decode cX3_isSeaman 8 = .ok (.iconst 1, 1) := by decide +kernel
theorem dX3_isSeaman_9 : decode cX3_isSeaman 9 = .ok (.goto 4, 3) := by decide +kernel
theorem dX3_isSeaman_12 : decode cX3_isSeaman 12 = .ok (.iconst 0, 1) := by decide +kernel
theorem dX3_isSeaman_13 : decode cX3_isSeaman 13 = .ok (.ireturn, 1) := by decide +kernel
theorem dX3_goTo_0 : decode cX3_goTo 0 = .ok (.aload_n 0, 1) := by decide +kernel
theorem dX3_goTo_1 : decode cX3_goTo 1 = .ok (.getfield 40, 3) := by decide +kernel
theorem dX3_goTo_4 : decode cX3_goTo 4 = .ok (.istore_n 3, 1) := by decide +kernel
theorem dX3_goTo_5 : decode cX3_goTo 5 = .ok (.aload_n 0, 1) := by decide +kernel
theorem dX3_goTo_6 : decode cX3_goTo 6 = .ok (.iload_n 1, 1) := by decide +kernel
theorem dX3_goTo_7 : decode cX3_goTo 7 = .ok (.putfield 40, 3) := by decide +kernel
theorem dX3_goTo_10 : decode cX3_goTo 10 = .ok (.aload_n 0, 1) := by decide +kernel
theorem dX3_goTo_11 : decode cX3_goTo 11 = .ok (.getfield 43, 3) := by decide +kernel
theorem dX3_goTo_14 : decode cX3_goTo 14 = .ok (.ifCond .eq 18, 3) := by decide +kernel
theorem dX3_goTo_17 : decode cX3_goTo 17 = .ok (.aload_n 0, 1) := by decide +kernel
theorem dX3_goTo_18 : decode cX3_goTo 18 = .ok (.getfield 9, 3) := by decide +kernel
theorem dX3_goTo_21 : decode cX3_goTo 21 = .ok (.aload_n 0, 1) := by decide +kernel
theorem dX3_goTo_22 : decode cX3_goTo 22 = .ok (.getfield 43, 3) := by decide +kernel
theorem dX3_goTo_25 : decode cX3_goTo 25 = .ok (.iconst 1, 1) := by decide +kernel
theorem dX3_goTo_26 : decode cX3_goTo 26 = .ok (.isub, 1) := by decide +kernel
theorem dX3_goTo_27 : decode cX3_goTo 27 = .ok (.iaload, 1) := by decide +kernel
theorem dX3_goTo_28 : decode cX3_goTo 28 = .ok (.iload_n 2, 1) := by decide +kernel
theorem dX3_goTo_29 : decode cX3_goTo 29 = .ok (.if_icmp .eq 27, 3) := by decide +kernel
theorem dX3_goTo_32 : decode cX3_goTo 32 = .ok (.aload_n 0, 1) := by decide +kernel
theorem dX3_goTo_33 : decode cX3_goTo 33 = .ok (.invokevirtual 46, 3) := by decide +kernel
theorem dX3_goTo_36 : decode cX3_goTo 36 = .ok (.aload_n 0, 1) := by decide +kernel
theorem dX3_goTo_37 : decode cX3_goTo 37 = .ok (.getfield 9, 3) := by decide +kernel
theorem dX3_goTo_40 : decode cX3_goTo 40 = .ok (.aload_n 0, 1) := by decide +kernel
theorem dX3_goTo_41 : decode cX3_goTo 41 = .ok (.getfield 43, 3) := by decide +kernel
theorem dX3_goTo_44 : decode cX3_goTo 44 = .ok (.iload_n 2, 1) := by decide +kernel
theorem dX3_goTo_45 : decode cX3_goTo 45 = .ok (.iastore, 1) := by decide +kernel
theorem dX3_goTo_46 : decode cX3_goTo 46 = .ok (.aload_n 0, 1) := by decide +kernel
theorem dX3_goTo_47 : decode cX3_goTo 47 = .ok (.dup, 1) := by decide +kernel
theorem dX3_goTo_48 : decode cX3_goTo 48 = .ok (.getfield 43, 3) := by decide +kernel
theorem dX3_goTo_51 : decode cX3_goTo 51 = .ok (.iconst 1, 1) := by decide +kernel
theorem dX3_goTo_52 : decode cX3_goTo 52 = .ok (.iadd, 1) := by decide +kernel
theorem dX3_goTo_53 : decode cX3_goTo 53 = .ok (.putfield 43, 3) := by decide +kernel
theorem dX3_goTo_56 : decode cX3_goTo 56 = .ok (.aload_n 0, 1) := by decide +kernel
theorem dX3_goTo_57 : decode cX3_goTo 57 = .ok (.getfield 15, 3) := by decide +kernel
theorem dX3_goTo_60 : decode cX3_goTo 60 = .ok (.aload_n 0, 1) := by decide +kernel
theorem dX3_goTo_61 : decode cX3_goTo 61 = .ok (.getfield 43, 3) := by decide +kernel
theorem dX3_goTo_64 : decode cX3_goTo 64 = .ok (.iconst 1, 1) := by decide +kernel
theorem dX3_goTo_65 : decode cX3_goTo 65 = .ok (.isub, 1) := by decide +kernel
theorem dX3_goTo_66 : decode cX3_goTo 66 = .ok (.iload_n 1, 1) := by decide +kernel
theorem dX3_goTo_67 : decode cX3_goTo 67 = .ok (.iastore, 1) := by decide +kernel
theorem dX3_goTo_68 : decode cX3_goTo 68 = .ok (.iload_n 3, 1) := by decide +kernel
theorem dX3_goTo_69 : decode cX3_goTo 69 = .ok (.ireturn, 1) := by decide +kernel
theorem dX3_makeRoom_0 : decode cX3_makeRoom 0 = .ok (.aload_n 0, 1) := by decide +kernel
theorem dX3_makeRoom_1 : decode cX3_makeRoom 1 = .ok (.getfield 43, 3) := by decide +kernel
theorem dX3_makeRoom_4 : decode cX3_makeRoom 4 = .ok (.aload_n 0, 1) := by decide +kernel
theorem dX3_makeRoom_5 : decode cX3_makeRoom 5 = .ok (.getfield 9, 3) := by decide +kernel
theorem dX3_makeRoom_8 : decode cX3_makeRoom 8 = .ok (.arraylength, 1) := by decide +kernel
theorem dX3_makeRoom_9 : decode cX3_makeRoom 9 = .ok (.if_icmp .lt 37, 3) := by decide +kernel
theorem dX3_makeRoom_12 : decode cX3_makeRoom 12 = .ok (.aload_n 0, 1) := by decide +kernel
theorem dX3_makeRoom_13 : decode cX3_makeRoom 13 = .ok (.aload_n 0, 1) := by decide +kernel
theorem dX3_makeRoom_14 : decode cX3_makeRoom 14 = .ok (.getfield 9, 3) := by decide +kernel
theorem dX3_makeRoom_17 : decode cX3_makeRoom 17 = .ok (.aload_n 0, 1) := by decide +kernel
theorem dX3_makeRoom_18 : decode cX3_makeRoom 18 = .ok (.getfield 43, 3) := by decide +kernel
theorem dX3_makeRoom_21 : decode cX3_makeRoom 21 = .ok (.iconst 2, 1) := by decide +kernel
theorem dX3_makeRoom_22 : decode cX3_makeRoom 22 = .ok (.imul, 1) := by decide +kernel
theorem dX3_makeRoom_23 : decode cX3_makeRoom 23 = .ok (.invokestatic 49, 3) := by decide +kernel
theorem dX3_makeRoom_26 : decode cX3_makeRoom 26 = .ok (.putfield 9, 3) := by decide +kernel
theorem dX3_makeRoom_29 : decode cX3_makeRoom 29 = .ok (.aload_n 0, 1) := by decide +kernel
theorem dX3_makeRoom_30 : decode cX3_makeRoom 30 = .ok (.aload_n 0, 1) := by decide +kernel
theorem dX3_makeRoom_31 : decode cX3_makeRoom 31 = .ok (.getfield 15, 3) := by decide +kernel
theorem dX3_makeRoom_34 : decode cX3_makeRoom 34 = .ok (.aload_n 0, 1) := by decide +kernel
theorem dX3_makeRoom_35 : decode cX3_makeRoom 35 = .ok (.getfield 43, 3) := by decide +kernel
theorem dX3_makeRoom_38 : decode cX3_makeRoom 38 = .ok (.iconst 2, 1) := by decide +kernel
theorem dX3_makeRoom_39 : decode cX3_makeRoom 39 = .ok (.imul, 1) := by decide +kernel
theorem dX3_makeRoom_40 : decode cX3_makeRoom 40 = .ok (.invokestatic 49, 3) := by decide +kernel
theorem dX3_makeRoom_43 : decode cX3_makeRoom 43 = .ok (.putfield 15, 3) := by decide +kernel
theorem dX3_makeRoom_46 : decode cX3_makeRoom 46 = .ok (.return_, 1) := by decide +kernel
theorem dX3_lastMoved_0 : decode cX3_lastMoved 0 = .ok (.aload_n 0, 1) := by decide +kernel
theorem dX3_lastMoved_1 : decode cX3_lastMoved 1 = .ok (.getfield 43, 3) := by decide +kernel
theorem dX3_lastMoved_4 : decode cX3_lastMoved 4 = .ok (.ifCond .ne 8, 3) := by decide +kernel
theorem dX3_lastMoved_7 : decode cX3_lastMoved 7 = .ok (.bipush (-9), 2) := by decide +kernel
theorem dX3_lastMoved_9 : decode cX3_lastMoved 9 = .ok (.goto 14, 3) := by decide +kernel
theorem dX3_lastMoved_12 : decode cX3_lastMoved 12 = .ok (.aload_n 0, 1) := by decide +kernel
theorem dX3_lastMoved_13 : decode cX3_lastMoved 13 = .ok (.getfield 9, 3) := by decide +kernel
theorem dX3_lastMoved_16 : decode cX3_lastMoved 16 = .ok (.aload_n 0, 1) := by decide +kernel
theorem dX3_lastMoved_17 : decode cX3_lastMoved 17 = .ok (.getfield 43, 3) := by decide +kernel
theorem dX3_lastMoved_20 : decode cX3_lastMoved 20 = .ok (.iconst 1, 1) := by decide +kernel
theorem dX3_lastMoved_21 : decode cX3_lastMoved 21 = .ok (.isub, 1) := by decide +kernel
theorem dX3_lastMoved_22 : decode cX3_lastMoved 22 = .ok (.iaload, 1) := by decide +kernel
theorem dX3_lastMoved_23 : decode cX3_lastMoved 23 = .ok (.ireturn, 1) := by decide +kernel
theorem dX3_moveAsOf_0 : decode cX3_moveAsOf 0 = .ok (.aload_n 0, 1) := by decide +kernel
theorem dX3_moveAsOf_1 : decode cX3_moveAsOf 1 = .ok (.getfield 43, 3) := by decide +kernel
theorem dX3_moveAsOf_4 : decode cX3_moveAsOf 4 = .ok (.iconst 1, 1) := by decide +kernel
theorem dX3_moveAsOf_5 : decode cX3_moveAsOf 5 = .ok (.isub, 1) := by decide +kernel
theorem dX3_moveAsOf_6 : decode cX3_moveAsOf 6 = .ok (.istore_n 2, 1) := by decide +kernel
theorem dX3_moveAsOf_7 : decode cX3_moveAsOf 7 = .ok (.iload_n 2, 1) := by decide +kernel
theorem dX3_moveAsOf_8 : decode cX3_moveAsOf 8 = .ok (.ifCond .lt 19, 3) := by decide +kernel
theorem dX3_moveAsOf_11 : decode cX3_moveAsOf 11 = .ok (.aload_n 0, 1) := by decide +kernel
theorem dX3_moveAsOf_12 : decode cX3_moveAsOf 12 = .ok (.getfield 9, 3) := by decide +kernel
theorem dX3_moveAsOf_15 : decode cX3_moveAsOf 15 = .ok (.iload_n 2, 1) := by decide +kernel
theorem dX3_moveAsOf_16 : decode cX3_moveAsOf 16 = .ok (.iaload, 1) := by decide +kernel
theorem dX3_moveAsOf_17 : decode cX3_moveAsOf 17 = .ok (.iload_n 1, 1) := by decide +kernel
theorem dX3_moveAsOf_18 : decode cX3_moveAsOf 18 = .ok (.if_icmp .le 9, 3) := by decide +kernel
theorem dX3_moveAsOf_21 : decode cX3_moveAsOf 21 = .ok (.iinc 2 (-1), 3) := by decide +kernel
theorem dX3_moveAsOf_24 : decode cX3_moveAsOf 24 = .ok (.goto (-17), 3) := by decide +kernel
theorem dX3_moveAsOf_27 : decode cX3_moveAsOf 27 = .ok (.iload_n 2, 1) := by decide +kernel
theorem dX3_moveAsOf_28 : decode cX3_moveAsOf 28 = .ok (.ireturn, 1) := by decide +kernel
theorem dX3_placeAsOf_0 : decode cX3_placeAsOf 0 = .ok (.aload_n 0, 1) := by decide +kernel
theorem dX3_placeAsOf_1 : decode cX3_placeAsOf 1 = .ok (.iload_n 1, 1) := by decide +kernel
theorem dX3_placeAsOf_2 : decode cX3_placeAsOf 2 = .ok (.invokevirtual 55, 3) := by decide +kernel
theorem dX3_placeAsOf_5 : decode cX3_placeAsOf 5 = .ok (.istore_n 2, 1) := by decide +kernel
theorem dX3_placeAsOf_6 : decode cX3_placeAsOf 6 = .ok (.iload_n 2, 1) := by decide +kernel
theorem dX3_placeAsOf_7 : decode cX3_placeAsOf 7 = .ok (.ifCond .ge 10, 3) := by decide +kernel
theorem dX3_placeAsOf_10 : decode cX3_placeAsOf 10 = .ok (.aload_n 0, 1) := by decide +kernel
theorem dX3_placeAsOf_11 : decode cX3_placeAsOf 11 = .ok (.getfield 37, 3) := by decide +kernel
theorem dX3_placeAsOf_14 : decode cX3_placeAsOf 14 = .ok (.goto 9, 3) := by decide +kernel
theorem dX3_placeAsOf_17 : decode cX3_placeAsOf 17 = .ok (.aload_n 0, 1) := by decide +kernel
theorem dX3_placeAsOf_18 : decode cX3_placeAsOf 18 = .ok (.getfield 15, 3) := by decide +kernel
theorem dX3_placeAsOf_21 : decode cX3_placeAsOf 21 = .ok (.iload_n 2, 1) := by decide +kernel
theorem dX3_placeAsOf_22 : decode cX3_placeAsOf 22 = .ok (.iaload, 1) := by decide +kernel
theorem dX3_placeAsOf_23 : decode cX3_placeAsOf 23 = .ok (.ireturn, 1) := by decide +kernel
theorem dX3_tidesOffShore_0 : decode cX3_tidesOffShore 0 = .ok (.iload_n 1, 1) := by decide +kernel
theorem dX3_tidesOffShore_1 : decode cX3_tidesOffShore 1 = .ok (.istore_n 2, 1) := by decide +kernel
theorem dX3_tidesOffShore_2 : decode cX3_tidesOffShore 2 = .ok (.aload_n 0, 1) := by decide +kernel
theorem dX3_tidesOffShore_3 : decode cX3_tidesOffShore 3 = .ok (.iload_n 1, 1) := by decide +kernel
theorem dX3_tidesOffShore_4 : decode cX3_tidesOffShore 4 = .ok (.invokevirtual 55, 3) := by decide +kernel
theorem dX3_tidesOffShore_7 : decode cX3_tidesOffShore 7 = .ok (.istore_n 3, 1) := by decide +kernel
theorem dX3_tidesOffShore_8 : decode cX3_tidesOffShore 8 = .ok (.iload_n 3, 1) := by decide +kernel
theorem dX3_tidesOffShore_9 : decode cX3_tidesOffShore 9 = .ok (.ifCond .lt 34, 3) := by decide +kernel
theorem dX3_tidesOffShore_12 : decode cX3_tidesOffShore 12 = .ok (.aload_n 0, 1) := by decide +kernel
theorem dX3_tidesOffShore_13 : decode cX3_tidesOffShore 13 = .ok (.getfield 15, 3) := by decide +kernel
theorem dX3_tidesOffShore_16 : decode cX3_tidesOffShore 16 = .ok (.iload_n 3, 1) := by decide +kernel
theorem dX3_tidesOffShore_17 : decode cX3_tidesOffShore 17 = .ok (.iaload, 1) := by decide +kernel
theorem dX3_tidesOffShore_18 : decode cX3_tidesOffShore 18 = .ok (.invokestatic 59, 3) := by decide +kernel
theorem dX3_tidesOffShore_21 : decode cX3_tidesOffShore 21 = .ok (.ifCond .eq 7, 3) := by decide +kernel
theorem dX3_tidesOffShore_24 : decode cX3_tidesOffShore 24 = .ok (.iload_n 1, 1) := by decide +kernel
theorem dX3_tidesOffShore_25 : decode cX3_tidesOffShore 25 = .ok (.iload_n 2, 1) := by decide +kernel
theorem dX3_tidesOffShore_26 : decode cX3_tidesOffShore 26 = .ok (.isub, 1) := by decide +kernel
theorem dX3_tidesOffShore_27 : decode cX3_tidesOffShore 27 = .ok (.ireturn, 1) := by decide +kernel
theorem dX3_tidesOffShore_28 : decode cX3_tidesOffShore 28 = .ok (.aload_n 0, 1) := by decide +kernel
theorem dX3_tidesOffShore_29 : decode cX3_tidesOffShore 29 = .ok (.getfield 9, 3) := by decide +kernel
theorem dX3_tidesOffShore_32 : decode cX3_tidesOffShore 32 = .ok (.iload_n 3, 1) := by decide +kernel
theorem dX3_tidesOffShore_33 : decode cX3_tidesOffShore 33 = .ok (.iaload, 1) := by decide +kernel
theorem dX3_tidesOffShore_34 : decode cX3_tidesOffShore 34 = .ok (.iconst 1, 1) := by decide +kernel
theorem dX3_tidesOffShore_35 : decode cX3_tidesOffShore 35 = .ok (.isub, 1) := by decide +kernel
theorem dX3_tidesOffShore_36 : decode cX3_tidesOffShore 36 = .ok (.istore_n 2, 1) := by decide +kernel
theorem dX3_tidesOffShore_37 : decode cX3_tidesOffShore 37 = .ok (.iinc 3 (-1), 3) := by decide +kernel
theorem dX3_tidesOffShore_40 : decode cX3_tidesOffShore 40 = .ok (.goto (-32), 3) := by decide +kernel
theorem dX3_tidesOffShore_43 : decode cX3_tidesOffShore 43 = .ok (.iload_n 1, 1) := by decide +kernel
theorem dX3_tidesOffShore_44 : decode cX3_tidesOffShore 44 = .ok (.iload_n 2, 1) := by decide +kernel
theorem dX3_tidesOffShore_45 : decode cX3_tidesOffShore 45 = .ok (.isub, 1) := by decide +kernel
theorem dX3_tidesOffShore_46 : decode cX3_tidesOffShore 46 = .ok (.ireturn, 1) := by decide +kernel
theorem dX4_init_0 : decode cX4_init 0 = .ok (.aload_n 0, 1) := by decide +kernel
theorem dX4_init_1 : decode cX4_init 1 = .ok (.invokespecial 3, 3) := by decide +kernel
theorem dX4_init_4 : decode cX4_init 4 = .ok (.aload_n 0, 1) := by decide +kernel
theorem dX4_init_5 : decode cX4_init 5 = .ok (.iload_n 1, 1) := by decide +kernel
theorem dX4_init_6 : decode cX4_init 6 = .ok (.putfield 9, 3) := by decide +kernel
theorem dX4_init_9 : decode cX4_init 9 = .ok (.aload_n 0, 1) := by decide +kernel
theorem dX4_init_10 : decode cX4_init 10 = .ok (.iload_n 2, 1) := by decide +kernel
theorem dX4_init_11 : decode cX4_init 11 = .ok (.putfield 15, 3) := by decide +kernel
theorem dX4_init_14 : decode cX4_init 14 = .ok (.aload_n 0, 1) := by decide +kernel
theorem dX4_init_15 : decode cX4_init 15 = .ok (.iload_n 3, 1) := by decide +kernel
theorem dX4_init_16 : decode cX4_init 16 = .ok (.putfield 18, 3) := by decide +kernel
theorem dX4_init_19 : decode cX4_init 19 = .ok (.aload_n 0, 1) := by decide +kernel
theorem dX4_init_20 : decode cX4_init 20 = .ok (.aload 4, 2) := by decide +kernel
theorem dX4_init_22 : decode cX4_init 22 = .ok (.putfield 21, 3) := by decide +kernel
theorem dX4_init_25 : decode cX4_init 25 = .ok (.aload_n 0, 1) := by decide +kernel
theorem dX4_init_26 : decode cX4_init 26 = .ok (.aload 5, 2) := by decide +kernel
theorem dX4_init_28 : decode cX4_init 28 = .ok (.putfield 25, 3) := by decide +kernel
theorem dX4_init_31 : decode cX4_init 31 = .ok (.aload_n 0, 1) := by decide +kernel
theorem dX4_init_32 : decode cX4_init 32 = .ok (.aload 6, 2) := by decide +kernel
theorem dX4_init_34 : decode cX4_init 34 = .ok (.putfield 28, 3) := by decide +kernel
theorem dX4_init_37 : decode cX4_init 37 = .ok (.return_, 1) := by decide +kernel
theorem dX4_coverage_0 : decode cX4_coverage 0 = .ok (.aload_n 0, 1) := by decide +kernel
theorem dX4_coverage_1 : decode cX4_coverage 1 = .ok (.getfield 28, 3) := by decide +kernel
theorem dX4_coverage_4 : decode cX4_coverage 4 = .ok (.iload_n 2, 1) := by decide +kernel
theorem dX4_coverage_5 : decode cX4_coverage 5 = .ok (.invokevirtual 31, 3) := by decide +kernel
theorem dX4_coverage_8 : decode cX4_coverage 8 = .ok (.ifCond .eq 11, 3) := by decide +kernel
theorem dX4_coverage_11 : decode cX4_coverage 11 = .ok (.aload_n 0, 1) := by decide +kernel
theorem dX4_coverage_12 : decode cX4_coverage 12 = .ok (.aload_n 1, 1) := by decide +kernel
theorem dX4_coverage_13 : decode cX4_coverage 13 = .ok (.invokevirtual 37, 3) := by decide +kernel
theorem dX4_coverage_16 : decode cX4_coverage 16 = .ok (.ifCond .ne 5, 3) := by decide +kernel
theorem dX4_coverage_19 : decode cX4_coverage 19 = .ok (.iconst 0, 1) := by decide +kernel
theorem dX4_coverage_20 : decode cX4_coverage 20 = .ok (.ireturn, 1) := by decide +kernel
theorem dX4_coverage_21 : decode cX4_coverage 21 = .ok (.aload_n 0, 1) := by decide +kernel
theorem dX4_coverage_22 : decode cX4_coverage 22 = .ok (.getfield 15, 3) := by decide +kernel
theorem dX4_coverage_25 : decode cX4_coverage 25 = .ok (.bipush (-9), 2) := by decide +kernel
theorem dX4_coverage_27 : decode cX4_coverage 27 = .ok (.if_icmp .eq 38, 3) := by decide +kernel
theorem dX4_coverage_30 : decode cX4_coverage 30 = .ok (.aload_n 0, 1) := by decide +kernel
theorem dX4_coverage_31 : decode cX4_coverage 31 = .ok (.getfield 18, 3) := by decide +kernel
theorem dX4_coverage_34 : decode cX4_coverage 34 = .ok (.bipush (-9), 2) := by decide +kernel
theorem dX4_coverage_36 : decode cX4_coverage 36 = .ok (.if_icmp .eq 29, 3) := by decide +kernel
theorem dX4_coverage_39 : decode cX4_coverage 39 = .ok (.aload_n 0, 1) := by decide +kernel
theorem dX4_coverage_40 : decode cX4_coverage 40 = .ok (.getfield 21, 3) := by decide +kernel
theorem dX4_coverage_43 : decode cX4_coverage 43 = .ok (.invokevirtual 41, 3) := by decide +kernel
theorem dX4_coverage_46 : decode cX4_coverage 46 = .ok (.iconst 5, 1) := by decide +kernel
theorem dX4_coverage_47 : decode cX4_coverage 47 = .ok (.if_icmp .gt 18, 3) := by decide +kernel
theorem dX4_coverage_50 : decode cX4_coverage 50 = .ok (.aload_n 0, 1) := by decide +kernel
theorem dX4_coverage_51 : decode cX4_coverage 51 = .ok (.getfield 25, 3) := by decide +kernel
theorem dX4_coverage_54 : decode cX4_coverage 54 = .ok (.invokevirtual 41, 3) := by decide +kernel
theorem dX4_coverage_57 : decode cX4_coverage 57 = .ok (.iconst 2, 1) := by decide +kernel
theorem dX4_coverage_58 : decode cX4_coverage 58 = .ok (.if_icmp .gt 7, 3) := by decide +kernel
theorem dX4_coverage_61 : decode cX4_coverage 61 = .ok (.iconst 1, 1) := by decide +kernel
theorem dX4_coverage_62 : decode cX4_coverage 62 = .ok (.goto 4, 3) := by decide +kernel
theorem dX4_coverage_65 : decode cX4_coverage 65 = .ok (.iconst 0, 1) := by decide +kernel
theorem dX4_coverage_66 : decode cX4_coverage 66 = .ok (.istore_n 3, 1) := by decide +kernel
theorem dX4_coverage_67 : decode cX4_coverage 67 = .ok (.iload_n 3, 1) := by decide +kernel
theorem dX4_coverage_68 : decode cX4_coverage 68 = .ok (.ifCond .eq 7, 3) := by decide +kernel
theorem dX4_coverage_71 : decode cX4_coverage 71 = .ok (.iconst 2, 1) := by decide +kernel
theorem dX4_coverage_72 : decode cX4_coverage 72 = .ok (.goto 4, 3) := by decide +kernel
theorem dX4_coverage_75 : decode cX4_coverage 75 = .ok (.iconst 1, 1) := by decide +kernel
theorem dX4_coverage_76 : decode cX4_coverage 76 = .ok (.ireturn, 1) := by decide +kernel
theorem dX4_describes_0 : decode cX4_describes 0 = .ok (.aload_n 0, 1) := by decide +kernel
theorem dX4_describes_1 : decode cX4_describes 1 = .ok (.getfield 15, 3) := by decide +kernel
theorem dX4_describes_4 : decode cX4_describes 4 = .ok (.bipush (-9), 2) := by decide +kernel
theorem dX4_describes_6 : decode cX4_describes 6 = .ok (.if_icmp .eq 14, 3) := by decide +kernel
theorem dX4_describes_9 : decode cX4_describes 9 = .ok (.aload_n 0, 1) := by decide +kernel
theorem dX4_describes_10 : decode cX4_describes 10 = .ok (.getfield 15, 3) := by decide +kernel
theorem dX4_describes_13 : decode cX4_describes 13 = .ok (.aload_n 1, 1) := by decide +kernel
theorem dX4_describes_14 : decode cX4_describes 14 = .ok (.getfield 45, 3) := by decide +kernel
theorem dX4_describes_17 : decode cX4_describes 17 = .ok (.if_icmp .ne 55, 3) := by decide +kernel
theorem dX4_describes_20 : decode cX4_describes 20 = .ok (.aload_n 0, 1) := by decide +kernel
theorem dX4_describes_21 : decode cX4_describes 21 = .ok (.getfield 18, 3) := by decide +kernel
theorem dX4_describes_24 : decode cX4_describes 24 = .ok (.bipush (-9), 2) := by decide +kernel
theorem dX4_describes_26 : decode cX4_describes 26 = .ok (.if_icmp .eq 14, 3) := by decide +kernel
theorem dX4_describes_29 : decode cX4_describes 29 = .ok (.aload_n 0, 1) := by decide +kernel
theorem dX4_describes_30 : decode cX4_describes 30 = .ok (.getfield 18, 3) := by decide +kernel
theorem dX4_describes_33 : decode cX4_describes 33 = .ok (.aload_n 1, 1) := by decide +kernel
theorem dX4_describes_34 : decode cX4_describes 34 = .ok (.getfield 48, 3) := by decide +kernel
theorem dX4_describes_37 : decode cX4_describes 37 = .ok (.if_icmp .ne 35, 3) := by decide +kernel
theorem dX4_describes_40 : decode cX4_describes 40 = .ok (.aload_n 0, 1) := by decide +kernel
theorem dX4_describes_41 : decode cX4_describes 41 = .ok (.getfield 21, 3) := by decide +kernel
theorem dX4_describes_44 : decode cX4_describes 44 = .ok (.aload_n 1, 1) := by decide +kernel
theorem dX4_describes_45 : decode cX4_describes 45 = .ok (.getfield 49, 3) := by decide +kernel
theorem dX4_describes_48 : decode cX4_describes 48 = .ok (.invokevirtual 31, 3) := by decide +kernel
theorem dX4_describes_51 : decode cX4_describes 51 = .ok (.ifCond .eq 21, 3) := by decide +kernel
theorem dX4_describes_54 : decode cX4_describes 54 = .ok (.aload_n 0, 1) := by decide +kernel
theorem dX4_describes_55 : decode cX4_describes 55 = .ok (.getfield 25, 3) := by decide +kernel
theorem dX4_describes_58 : decode cX4_describes 58 = .ok (.aload_n 1, 1) := by decide +kernel
theorem dX4_describes_59 : decode cX4_describes 59 = .ok (.getfield 52, 3) := by decide +kernel
theorem dX4_describes_62 : decode cX4_describes 62 = .ok (.invokevirtual 31, 3) := by decide +kernel
theorem dX4_describes_65 : decode cX4_describes 65 = .ok (.ifCond .eq 7, 3) := by decide +kernel
theorem dX4_describes_68 : decode cX4_describes 68 = .ok (.iconst 1, 1) := by decide +kernel
theorem dX4_describes_69 : decode cX4_describes 69 = .ok (.goto 4, 3) := by decide +kernel
theorem dX4_describes_72 : decode cX4_describes 72 = .ok (.iconst 0, 1) := by decide +kernel
theorem dX4_describes_73 : decode cX4_describes 73 = .ok (.ireturn, 1) := by decide +kernel
theorem dX5_init_0 : decode cX5_init 0 = .ok (.aload_n 0, 1) := by decide +kernel
theorem dX5_init_1 : decode cX5_init 1 = .ok (.invokespecial 3, 3) := by decide +kernel
theorem dX5_init_4 : decode cX5_init 4 = .ok (.aload_n 0, 1) := by decide +kernel
theorem dX5_init_5 : decode cX5_init 5 = .ok (.bipush 60, 2) := by decide +kernel
theorem dX5_init_7 : decode cX5_init 7 = .ok (.anewarray 9, 3) := by decide +kernel
theorem dX5_init_10 : decode cX5_init 10 = .ok (.putfield 11, 3) := by decide +kernel
theorem dX5_init_13 : decode cX5_init 13 = .ok (.return_, 1) := by decide +kernel
theorem dX5_add_0 : decode cX5_add 0 = .ok (.aload_n 0, 1) := by decide +kernel
theorem dX5_add_1 : decode cX5_add 1 = .ok (.getfield 17, 3) := by decide +kernel
theorem dX5_add_4 : decode cX5_add 4 = .ok (.aload_n 0, 1) := by decide +kernel
theorem dX5_add_5 : decode cX5_add 5 = .ok (.getfield 11, 3) := by decide +kernel
theorem dX5_add_8 : decode cX5_add 8 = .ok (.arraylength, 1) := by decide +kernel
theorem dX5_add_9 : decode cX5_add 9 = .ok (.if_icmp .ge 23, 3) := by decide +kernel
theorem dX5_add_12 : decode cX5_add 12 = .ok (.aload_n 0, 1) := by decide +kernel
theorem dX5_add_13 : decode cX5_add 13 = .ok (.getfield 11, 3) := by decide +kernel
theorem dX5_add_16 : decode cX5_add 16 = .ok (.aload_n 0, 1) := by decide +kernel
theorem dX5_add_17 : decode cX5_add 17 = .ok (.getfield 17, 3) := by decide +kernel
theorem dX5_add_20 : decode cX5_add 20 = .ok (.aload_n 1, 1) := by decide +kernel
theorem dX5_add_21 : decode cX5_add 21 = .ok (.aastore, 1) := by decide +kernel
theorem dX5_add_22 : decode cX5_add 22 = .ok (.aload_n 0, 1) := by decide +kernel
theorem dX5_add_23 : decode cX5_add 23 = .ok (.dup, 1) := by decide +kernel
theorem dX5_add_24 : decode cX5_add 24 = .ok (.getfield 17, 3) := by decide +kernel
theorem dX5_add_27 : decode cX5_add 27 = .ok (.iconst 1, 1) := by decide +kernel
theorem dX5_add_28 : decode cX5_add 28 = .ok (.iadd, 1) := by decide +kernel
theorem dX5_add_29 : decode cX5_add 29 = .ok (.putfield 17, 3) := by decide +kernel
theorem dX5_add_32 : decode cX5_add 32 = .ok (.return_, 1) := by decide +kernel
theorem dX5_find_0 : decode cX5_find 0 = .ok (.iload_n 1, 1) := by decide +kernel
theorem dX5_find_1 : decode cX5_find 1 = .ok (.iconst 0, 1) := by decide +kernel
theorem dX5_find_2 : decode cX5_find 2 = .ok (.aload_n 0, 1) := by decide +kernel
theorem dX5_find_3 : decode cX5_find 3 = .ok (.getfield 17, 3) := by decide +kernel
theorem dX5_find_6 : decode cX5_find 6 = .ok (.iconst 1, 1) := by decide +kernel
theorem dX5_find_7 : decode cX5_find 7 = .ok (.isub, 1) := by decide +kernel
theorem dX5_find_8 : decode cX5_find 8 = .ok (.invokestatic 21, 3) := by decide +kernel
theorem dX5_find_11 : decode cX5_find 11 = .ok (.ifCond .eq 12, 3) := by decide +kernel
theorem dX5_find_14 : decode cX5_find 14 = .ok (.aload_n 0, 1) := by decide +kernel
theorem dX5_find_15 : decode cX5_find 15 = .ok (.getfield 11, 3) := by decide +kernel
theorem dX5_find_18 : decode cX5_find 18 = .ok (.iload_n 1, 1) := by decide +kernel
theorem dX5_find_19 : decode cX5_find 19 = .ok (.aaload, 1) := by decide +kernel
theorem dX5_find_20 : decode cX5_find 20 = .ok (.goto 4, 3) := by decide +kernel
theorem dX5_find_23 : decode cX5_find 23 = .ok (.aconst_null, 1) := by decide +kernel
theorem dX5_find_24 : decode cX5_find 24 = .ok (.areturn, 1) := by decide +kernel
theorem dX5_hush_0 : decode cX5_hush 0 = .ok (.aload_n 0, 1) := by decide +kernel
theorem dX5_hush_1 : decode cX5_hush 1 = .ok (.aload_n 0, 1) := by decide +kernel
theorem dX5_hush_2 : decode cX5_hush 2 = .ok (.getfield 17, 3) := by decide +kernel
theorem dX5_hush_5 : decode cX5_hush 5 = .ok (.putfield 25, 3) := by decide +kernel
theorem dX5_hush_8 : decode cX5_hush 8 = .ok (.return_, 1) := by decide +kernel
theorem dX5_takingsInNews_0 : decode cX5_takingsInNews 0 = .ok (.iconst 0, 1) := by decide +kernel
theorem dX5_takingsInNews_1 : decode cX5_takingsInNews 1 = .ok (.istore_n 1, 1) := by decide +kernel
theorem dX5_takingsInNews_2 : decode cX5_takingsInNews 2 = .ok (.aload_n 0, 1) := by decide +kernel
theorem dX5_takingsInNews_3 : decode cX5_takingsInNews 3 = .ok (.getfield 25, 3) := by decide +kernel
theorem dX5_takingsInNews_6 : decode cX5_takingsInNews 6 = .ok (.istore_n 2, 1) := by decide +kernel
theorem dX5_takingsInNews_7 : decode cX5_takingsInNews 7 = .ok (.iload_n 2, 1) := by decide +kernel
theorem dX5_takingsInNews_8 : decode cX5_takingsInNews 8 = .ok (.aload_n 0, 1) := by decide +kernel
theorem dX5_takingsInNews_9 : decode cX5_takingsInNews 9 = .ok (.getfield 17, 3) := by decide +kernel
theorem dX5_takingsInNews_12 : decode cX5_takingsInNews 12 = .ok (.if_icmp .ge 27, 3) := by decide +kernel
theorem dX5_takingsInNews_15 : decode cX5_takingsInNews 15 = .ok (.aload_n 0, 1) := by decide +kernel
theorem dX5_takingsInNews_16 : decode cX5_takingsInNews 16 = .ok (.getfield 11, 3) := by decide +kernel
theorem dX5_takingsInNews_19 : decode cX5_takingsInNews 19 = .ok (.iload_n 2, 1) := by decide +kernel
theorem dX5_takingsInNews_20 : decode cX5_takingsInNews 20 = .ok (.aaload, 1) := by decide +kernel
theorem dX5_takingsInNews_21 : decode cX5_takingsInNews 21 = .ok (.getfield 28, 3) := by decide +kernel
theorem dX5_takingsInNews_24 : decode cX5_takingsInNews 24 = .ok (.invokestatic 31, 3) := by decide +kernel
theorem dX5_takingsInNews_27 : decode cX5_takingsInNews 27 = .ok (.ifCond .eq 6, 3) := by decide +kernel
theorem dX5_takingsInNews_30 : decode cX5_takingsInNews 30 = .ok (.iinc 1 1, 3) := by decide +kernel
theorem dX5_takingsInNews_33 : decode cX5_takingsInNews 33 = .ok (.iinc 2 1, 3) := by decide +kernel
theorem dX5_takingsInNews_36 : decode cX5_takingsInNews 36 = .ok (.goto (-29), 3) := by decide +kernel
theorem dX5_takingsInNews_39 : decode cX5_takingsInNews 39 = .ok (.iload_n 1, 1) := by decide +kernel
theorem dX5_takingsInNews_40 : decode cX5_takingsInNews 40 = .ok (.ireturn, 1) := by decide +kernel
theorem dX5_firstHeard_0 : decode cX5_firstHeard 0 = .ok (.sipush 999, 3) := by decide +kernel
theorem dX5_firstHeard_3 : decode cX5_firstHeard 3 = .ok (.istore_n 3, 1) := by decide +kernel
theorem dX5_firstHeard_4 : decode cX5_firstHeard 4 = .ok (.aload_n 0, 1) := by decide +kernel
theorem dX5_firstHeard_5 : decode cX5_firstHeard 5 = .ok (.getfield 25, 3) := by decide +kernel
theorem dX5_firstHeard_8 : decode cX5_firstHeard 8 = .ok (.istore 4, 2) := by decide +kernel
theorem dX5_firstHeard_10 : decode cX5_firstHeard 10 = .ok (.iload 4, 2) := by decide +kernel
theorem dX5_firstHeard_12 : decode cX5_firstHeard 12 = .ok (.aload_n 0, 1) := by decide +kernel
theorem dX5_firstHeard_13 : decode cX5_firstHeard 13 = .ok (.getfield 17, 3) := by decide +kernel
theorem dX5_firstHeard_16 : decode cX5_firstHeard 16 = .ok (.if_icmp .ge 68, 3) := by decide +kernel
theorem dX5_firstHeard_19 : decode cX5_firstHeard 19 = .ok (.aload_n 0, 1) := by decide +kernel
theorem dX5_firstHeard_20 : decode cX5_firstHeard 20 = .ok (.getfield 11, 3) := by decide +kernel
theorem dX5_firstHeard_23 : decode cX5_firstHeard 23 = .ok (.iload 4, 2) := by decide +kernel
theorem dX5_firstHeard_25 : decode cX5_firstHeard 25 = .ok (.aaload, 1) := by decide +kernel
theorem dX5_firstHeard_26 : decode cX5_firstHeard 26 = .ok (.astore 5, 2) := by decide +kernel
theorem dX5_firstHeard_28 : decode cX5_firstHeard 28 = .ok (.aload 5, 2) := by decide +kernel
theorem dX5_firstHeard_30 : decode cX5_firstHeard 30 = .ok (.getfield 28, 3) := by decide +kernel
theorem dX5_firstHeard_33 : decode cX5_firstHeard 33 = .ok (.invokestatic 31, 3) := by decide +kernel
theorem dX5_firstHeard_36 : decode cX5_firstHeard 36 = .ok (.ifCond .eq 16, 3) := by decide +kernel
theorem dX5_firstHeard_39 : decode cX5_firstHeard 39 = .ok (.aload_n 2, 1) := by decide +kernel
theorem dX5_firstHeard_40 : decode cX5_firstHeard 40 = .ok (.aload 5, 2) := by decide +kernel
theorem dX5_firstHeard_42 : decode cX5_firstHeard 42 = .ok (.getfield 28, 3) := by decide +kernel
theorem dX5_firstHeard_45 : decode cX5_firstHeard 45 = .ok (.iload_n 1, 1) := by decide +kernel
theorem dX5_firstHeard_46 : decode cX5_firstHeard 46 = .ok (.invokevirtual 35, 3) := by decide +kernel
theorem dX5_firstHeard_49 : decode cX5_firstHeard 49 = .ok (.goto 6, 3) := by decide +kernel
theorem dX5_firstHeard_52 : decode cX5_firstHeard 52 = .ok (.sipush 999, 3) := by decide +kernel
theorem dX5_firstHeard_55 : decode cX5_firstHeard 55 = .ok (.istore 6, 2) := by decide +kernel
theorem dX5_firstHeard_57 : decode cX5_firstHeard 57 = .ok (.iload 6, 2) := by decide +kernel
theorem dX5_firstHeard_59 : decode cX5_firstHeard 59 = .ok (.sipush 999, 3) := by decide +kernel
theorem dX5_firstHeard_62 : decode cX5_firstHeard 62 = .ok (.if_icmp .ge 16, 3) := by decide +kernel
theorem dX5_firstHeard_65 : decode cX5_firstHeard 65 = .ok (.iload_n 3, 1) := by decide +kernel
theorem dX5_firstHeard_66 : decode cX5_firstHeard 66 = .ok (.aload 5, 2) := by decide +kernel
theorem dX5_firstHeard_68 : decode cX5_firstHeard 68 = .ok (.getfield 41, 3) := by decide +kernel
theorem dX5_firstHeard_71 : decode cX5_firstHeard 71 = .ok (.iload 6, 2) := by decide +kernel
theorem dX5_firstHeard_73 : decode cX5_firstHeard 73 = .ok (.iadd, 1) := by decide +kernel
theorem dX5_firstHeard_74 : decode cX5_firstHeard 74 = .ok (.invokestatic 44, 3) := by decide +kernel
theorem dX5_firstHeard_77 : decode cX5_firstHeard 77 = .ok (.istore_n 3, 1) := by decide +kernel
theorem dX5_firstHeard_78 : decode cX5_firstHeard 78 = .ok (.iinc 4 1, 3) := by decide +kernel
theorem dX5_firstHeard_81 : decode cX5_firstHeard 81 = .ok (.goto (-71), 3) := by decide +kernel
theorem dX5_firstHeard_84 : decode cX5_firstHeard 84 = .ok (.iload_n 3, 1) := by decide +kernel
theorem dX5_firstHeard_85 : decode cX5_firstHeard 85 = .ok (.ireturn, 1) := by decide +kernel
theorem dX5_menWhoShowed_0 : decode cX5_menWhoShowed 0 = .ok (.lconst 0, 1) := by decide +kernel
theorem dX5_menWhoShowed_1 : decode cX5_menWhoShowed 1 = .ok (.lstore 4, 2) := by decide +kernel
theorem dX5_menWhoShowed_3 : decode cX5_menWhoShowed 3 = .ok (.iconst 0, 1) := by decide +kernel
theorem dX5_menWhoShowed_4 : decode cX5_menWhoShowed 4 = .ok (.istore 6, 2) := by decide +kernel
theorem dX5_menWhoShowed_6 : decode cX5_menWhoShowed 6 = .ok (.iload 6, 2) := by decide +kernel
theorem dX5_menWhoShowed_8 : decode cX5_menWhoShowed 8 = .ok (.aload_n 0, 1) := by decide +kernel
theorem dX5_menWhoShowed_9 : decode cX5_menWhoShowed 9 = .ok (.getfield 17, 3) := by decide +kernel
theorem dX5_menWhoShowed_12 : decode cX5_menWhoShowed 12 = .ok (.if_icmp .ge 52, 3) := by decide +kernel
theorem dX5_menWhoShowed_15 : decode cX5_menWhoShowed 15 = .ok (.aload_n 0, 1) := by decide +kernel
theorem dX5_menWhoShowed_16 : decode cX5_menWhoShowed 16 = .ok (.getfield 11, 3) := by decide +kernel
theorem dX5_menWhoShowed_19 : decode cX5_menWhoShowed 19 = .ok (.iload 6, 2) := by decide +kernel
theorem dX5_menWhoShowed_21 : decode cX5_menWhoShowed 21 = .ok (.aaload, 1) := by decide +kernel
theorem dX5_menWhoShowed_22 : decode cX5_menWhoShowed 22 = .ok (.astore 7, 2) := by decide +kernel
theorem dX5_menWhoShowed_24 : decode cX5_menWhoShowed 24 = .ok (.aload 7, 2) := by decide +kernel
theorem dX5_menWhoShowed_26 : decode cX5_menWhoShowed 26 = .ok (.getfield 49, 3) := by decide +kernel
theorem dX5_menWhoShowed_29 : decode cX5_menWhoShowed 29 = .ok (.iload_n 1, 1) := by decide +kernel
theorem dX5_menWhoShowed_30 : decode cX5_menWhoShowed 30 = .ok (.if_icmp .ne 28, 3) := by decide +kernel
theorem dX5_menWhoShowed_33 : decode cX5_menWhoShowed 33 = .ok (.aload 7, 2) := by decide +kernel
theorem dX5_menWhoShowed_35 : decode cX5_menWhoShowed 35 = .ok (.getfield 41, 3) := by decide +kernel
theorem dX5_menWhoShowed_38 : decode cX5_menWhoShowed 38 = .ok (.iload_n 2, 1) := by decide +kernel
theorem dX5_menWhoShowed_39 : decode cX5_menWhoShowed 39 = .ok (.iload_n 3, 1) := by decide +kernel
theorem dX5_menWhoShowed_40 : decode cX5_menWhoShowed 40 = .ok (.invokestatic 21, 3) := by decide +kernel
theorem dX5_menWhoShowed_43 : decode cX5_menWhoShowed 43 = .ok (.ifCond .eq 15, 3) := by decide +kernel
theorem dX5_menWhoShowed_46 : decode cX5_menWhoShowed 46 = .ok (.lload 4, 2) := by decide +kernel
theorem dX5_menWhoShowed_48 : decode cX5_menWhoShowed 48 = .ok (.lconst 1, 1) := by decide +kernel
theorem dX5_menWhoShowed_49 : decode cX5_menWhoShowed 49 = .ok (.aload 7, 2) := by decide +kernel
theorem dX5_menWhoShowed_51 : decode cX5_menWhoShowed 51 = .ok (.getfield 52, 3) := by decide +kernel
theorem dX5_menWhoShowed_54 : decode cX5_menWhoShowed 54 = .ok (.lshl, 1) := by decide +kernel
theorem dX5_menWhoShowed_55 : decode cX5_menWhoShowed 55 = .ok (.lor, 1) := by decide +kernel
theorem dX5_menWhoShowed_56 : decode cX5_menWhoShowed 56 = .ok (.lstore 4, 2) := by decide +kernel
theorem dX5_menWhoShowed_58 : decode cX5_menWhoShowed 58 = .ok (.iinc 6 1, 3) := by decide +kernel
theorem dX5_menWhoShowed_61 : decode cX5_menWhoShowed 61 = .ok (.goto (-55), 3) := by decide +kernel
theorem dX5_menWhoShowed_64 : decode cX5_menWhoShowed 64 = .ok (.lload 4, 2) := by decide +kernel
theorem dX5_menWhoShowed_66 : decode cX5_menWhoShowed 66 = .ok (.invokestatic 55, 3) := by decide +kernel
theorem dX5_menWhoShowed_69 : decode cX5_menWhoShowed 69 = .ok (.ireturn, 1) := by decide +kernel
theorem dX6_init_0 : decode cX6_init 0 = .ok (.aload_n 0, 1) := by decide +kernel
theorem dX6_init_1 : decode cX6_init 1 = .ok (.invokespecial 1, 3) := by decide +kernel
theorem dX6_init_4 : decode cX6_init 4 = .ok (.aload_n 0, 1) := by decide +kernel
theorem dX6_init_5 : decode cX6_init 5 = .ok (.iconst 1, 1) := by decide +kernel
theorem dX6_init_6 : decode cX6_init 6 = .ok (.putfield 7, 3) := by decide +kernel
theorem dX6_init_9 : decode cX6_init 9 = .ok (.aload_n 0, 1) := by decide +kernel
theorem dX6_init_10 : decode cX6_init 10 = .ok (.iload_n 1, 1) := by decide +kernel
theorem dX6_init_11 : decode cX6_init 11 = .ok (.putfield 13, 3) := by decide +kernel
theorem dX6_init_14 : decode cX6_init 14 = .ok (.aload_n 0, 1) := by decide +kernel
theorem dX6_init_15 : decode cX6_init 15 = .ok (.iload_n 2, 1) := by decide +kernel
theorem dX6_init_16 : decode cX6_init 16 = .ok (.putfield 17, 3) := by decide +kernel
theorem dX6_init_19 : decode cX6_init 19 = .ok (.aload_n 0, 1) := by decide +kernel
theorem dX6_init_20 : decode cX6_init 20 = .ok (.iload_n 3, 1) := by decide +kernel
theorem dX6_init_21 : decode cX6_init 21 = .ok (.putfield 20, 3) := by decide +kernel
theorem dX6_init_24 : decode cX6_init 24 = .ok (.aload_n 0, 1) := by decide +kernel
theorem dX6_init_25 : decode cX6_init 25 = .ok (.iload 4, 2) := by decide +kernel
theorem dX6_init_27 : decode cX6_init 27 = .ok (.putfield 23, 3) := by decide +kernel
theorem dX6_init_30 : decode cX6_init 30 = .ok (.return_, 1) := by decide +kernel
theorem dX7_init_0 : decode cX7_init 0 = .ok (.aload_n 0, 1) := by decide +kernel
theorem dX7_init_1 : decode cX7_init 1 = .ok (.invokespecial 1, 3) := by decide +kernel
theorem dX7_init_4 : decode cX7_init 4 = .ok (.aload_n 0, 1) := by decide +kernel
theorem dX7_init_5 : decode cX7_init 5 = .ok (.iload_n 1, 1) := by decide +kernel
theorem dX7_init_6 : decode cX7_init 6 = .ok (.putfield 7, 3) := by decide +kernel
theorem dX7_init_9 : decode cX7_init 9 = .ok (.aload_n 0, 1) := by decide +kernel
theorem dX7_init_10 : decode cX7_init 10 = .ok (.iload_n 2, 1) := by decide +kernel
theorem dX7_init_11 : decode cX7_init 11 = .ok (.putfield 13, 3) := by decide +kernel
theorem dX7_init_14 : decode cX7_init 14 = .ok (.return_, 1) := by decide +kernel
theorem dX7_holds_0 : decode cX7_holds 0 = .ok (.iload_n 1, 1) := by decide +kernel
theorem dX7_holds_1 : decode cX7_holds 1 = .ok (.aload_n 0, 1) := by decide +kernel
theorem dX7_holds_2 : decode cX7_holds 2 = .ok (.getfield 7, 3) := by decide +kernel
theorem dX7_holds_5 : decode cX7_holds 5 = .ok (.aload_n 0, 1) := by decide +kernel
theorem dX7_holds_6 : decode cX7_holds 6 = .ok (.getfield 13, 3) := by decide +kernel
theorem dX7_holds_9 : decode cX7_holds 9 = .ok (.invokestatic 16, 3) := by decide +kernel
theorem dX7_holds_12 : decode cX7_holds 12 = .ok (.ireturn, 1) := by decide +kernel
theorem dX7_width_0 : decode cX7_width 0 = .ok (.aload_n 0, 1) := by decide +kernel
theorem dX7_width_1 : decode cX7_width 1 = .ok (.getfield 13, 3) := by decide +kernel
theorem dX7_width_4 : decode cX7_width 4 = .ok (.aload_n 0, 1) := by decide +kernel
theorem dX7_width_5 : decode cX7_width 5 = .ok (.getfield 7, 3) := by decide +kernel
theorem dX7_width_8 : decode cX7_width 8 = .ok (.isub, 1) := by decide +kernel
theorem dX7_width_9 : decode cX7_width 9 = .ok (.ireturn, 1) := by decide +kernel
theorem dX8_init_0 : decode cX8_init 0 = .ok (.aload_n 0, 1) := by decide +kernel
theorem dX8_init_1 : decode cX8_init 1 = .ok (.invokespecial 1, 3) := by decide +kernel
theorem dX8_init_4 : decode cX8_init 4 = .ok (.aload_n 0, 1) := by decide +kernel
theorem dX8_init_5 : decode cX8_init 5 = .ok (.iload_n 1, 1) := by decide +kernel
theorem dX8_init_6 : decode cX8_init 6 = .ok (.putfield 7, 3) := by decide +kernel
theorem dX8_init_9 : decode cX8_init 9 = .ok (.aload_n 0, 1) := by decide +kernel
theorem dX8_init_10 : decode cX8_init 10 = .ok (.iload_n 2, 1) := by decide +kernel
theorem dX8_init_11 : decode cX8_init 11 = .ok (.putfield 13, 3) := by decide +kernel
theorem dX8_init_14 : decode cX8_init 14 = .ok (.aload_n 0, 1) := by decide +kernel
theorem dX8_init_15 : decode cX8_init 15 = .ok (.iload_n 3, 1) := by decide +kernel
theorem dX8_init_16 : decode cX8_init 16 = .ok (.putfield 16, 3) := by decide +kernel
theorem dX8_init_19 : decode cX8_init 19 = .ok (.aload_n 0, 1) := by decide +kernel
theorem dX8_init_20 : decode cX8_init 20 = .ok (.iload 4, 2) := by decide +kernel
theorem dX8_init_22 : decode cX8_init 22 = .ok (.putfield 19, 3) := by decide +kernel
theorem dX8_init_25 : decode cX8_init 25 = .ok (.aload_n 0, 1) := by decide +kernel
theorem dX8_init_26 : decode cX8_init 26 = .ok (.iload 5, 2) := by decide +kernel
theorem dX8_init_28 : decode cX8_init 28 = .ok (.putfield 22, 3) := by decide +kernel
theorem dX8_init_31 : decode cX8_init 31 = .ok (.aload_n 0, 1) := by decide +kernel
theorem dX8_init_32 : decode cX8_init 32 = .ok (.iload 6, 2) := by decide +kernel
theorem dX8_init_34 : decode cX8_init 34 = .ok (.putfield 26, 3) := by decide +kernel
theorem dX8_init_37 : decode cX8_init 37 = .ok (.return_, 1) := by decide +kernel
theorem dX9_init_0 : decode cX9_init 0 = .ok (.aload_n 0, 1) := by decide +kernel
theorem dX9_init_1 : decode cX9_init 1 = .ok (.invokespecial 3, 3) := by decide +kernel
theorem dX9_init_4 : decode cX9_init 4 = .ok (.aload_n 0, 1) := by decide +kernel
theorem dX9_init_5 : decode cX9_init 5 = .ok (.bipush (-9), 2) := by decide +kernel
theorem dX9_init_7 : decode cX9_init 7 = .ok (.putfield 9, 3) := by decide +kernel
theorem dX9_init_10 : decode cX9_init 10 = .ok (.aload_n 0, 1) := by decide +kernel
theorem dX9_init_11 : decode cX9_init 11 = .ok (.iload_n 1, 1) := by decide +kernel
theorem dX9_init_12 : decode cX9_init 12 = .ok (.putfield 15, 3) := by decide +kernel
theorem dX9_init_15 : decode cX9_init 15 = .ok (.aload_n 0, 1) := by decide +kernel
theorem dX9_init_16 : decode cX9_init 16 = .ok (.iload_n 2, 1) := by decide +kernel
theorem dX9_init_17 : decode cX9_init 17 = .ok (.putfield 18, 3) := by decide +kernel
theorem dX9_init_20 : decode cX9_init 20 = .ok (.return_, 1) := by decide +kernel
theorem dX10_init_0 : decode cX10_init 0 = .ok (.aload_n 0, 1) := by decide +kernel
theorem dX10_init_1 : decode cX10_init 1 = .ok (.invokespecial 3, 3) := by decide +kernel
theorem dX10_init_4 : decode cX10_init 4 = .ok (.aload_n 0, 1) := by decide +kernel
theorem dX10_init_5 : decode cX10_init 5 = .ok (.iconst 4, 1) := by decide +kernel
theorem dX10_init_6 : decode cX10_init 6 = .ok (.putfield 9, 3) := by decide +kernel
theorem dX10_init_9 : decode cX10_init 9 = .ok (.aload_n 0, 1) := by decide +kernel
theorem dX10_init_10 : decode cX10_init 10 = .ok (.bipush 64, 2) := by decide +kernel
theorem dX10_init_12 : decode cX10_init 12 = .ok (.newarray .boolean, 2) := by decide +kernel
theorem dX10_init_14 : decode cX10_init 14 = .ok (.putfield 15, 3) := by decide +kernel
theorem dX10_init_17 : decode cX10_init 17 = .ok (.aload_n 0, 1) := by decide +kernel
theorem dX10_init_18 : decode cX10_init 18 = .ok (.bipush 64, 2) := by decide +kernel
theorem dX10_init_20 : decode cX10_init 20 = .ok (.newarray .int, 2) := by decide +kernel
theorem dX10_init_22 : decode cX10_init 22 = .ok (.putfield 19, 3) := by decide +kernel
theorem dX10_init_25 : decode cX10_init 25 = .ok (.return_, 1) := by decide +kernel
theorem dX10_has_0 : decode cX10_has 0 = .ok (.iload_n 1, 1) := by decide +kernel
theorem dX10_has_1 : decode cX10_has 1 = .ok (.iconst 0, 1) := by decide +kernel
theorem dX10_has_2 : decode cX10_has 2 = .ok (.aload_n 0, 1) := by decide +kernel
theorem dX10_has_3 : decode cX10_has 3 = .ok (.getfield 9, 3) := by decide +kernel
theorem dX10_has_6 : decode cX10_has 6 = .ok (.iconst 1, 1) := by decide +kernel
theorem dX10_has_7 : decode cX10_has 7 = .ok (.isub, 1) := by decide +kernel
theorem dX10_has_8 : decode cX10_has 8 = .ok (.invokestatic 23, 3) := by decide +kernel
theorem dX10_has_11 : decode cX10_has 11 = .ok (.ireturn, 1) := by decide +kernel
theorem dX10_cell_0 : decode cX10_cell 0 = .ok (.iload_n 0, 1) := by decide +kernel
theorem dX10_cell_1 : decode cX10_cell 1 = .ok (.bipush 8, 2) := by decide +kernel
theorem dX10_cell_3 : decode cX10_cell 3 = .ok (.imul, 1) := by decide +kernel
theorem dX10_cell_4 : decode cX10_cell 4 = .ok (.iload_n 1, 1) := by decide +kernel
theorem dX10_cell_5 : decode cX10_cell 5 = .ok (.iadd, 1) := by decide +kernel
theorem dX10_cell_6 : decode cX10_cell 6 = .ok (.ireturn, 1) := by decide +kernel
theorem dX10_resize_0 : decode cX10_resize 0 = .ok (.aload_n 0, 1) := by decide +kernel
theorem dX10_resize_1 : decode cX10_resize 1 = .ok (.iload_n 1, 1) := by decide +kernel
theorem dX10_resize_2 : decode cX10_resize 2 = .ok (.putfield 9, 3) := by decide +kernel
theorem dX10_resize_5 : decode cX10_resize 5 = .ok (.aload_n 0, 1) := by decide +kernel
theorem dX10_resize_6 : decode cX10_resize 6 = .ok (.iconst 0, 1) := by decide +kernel
theorem dX10_resize_7 : decode cX10_resize 7 = .ok (.putfield 27, 3) := by decide +kernel
theorem dX10_resize_10 : decode cX10_resize 10 = .ok (.iload_n 1, 1) := by decide +kernel
theorem dX10_resize_11 : decode cX10_resize 11 = .ok (.istore_n 2, 1) := by decide +kernel
theorem dX10_resize_12 : decode cX10_resize 12 = .ok (.iload_n 2, 1) := by decide +kernel
theorem dX10_resize_13 : decode cX10_resize 13 = .ok (.bipush 8, 2) := by decide +kernel
theorem dX10_resize_15 : decode cX10_resize 15 = .ok (.if_icmp .ge 45, 3) := by decide +kernel
theorem dX10_resize_18 : decode cX10_resize 18 = .ok (.iconst 0, 1) := by decide +kernel
theorem dX10_resize_19 : decode cX10_resize 19 = .ok (.istore_n 3, 1) := by decide +kernel
theorem dX10_resize_20 : decode cX10_resize 20 = .ok (.iload_n 3, 1) := by decide +kernel
theorem dX10_resize_21 : decode cX10_resize 21 = .ok (.bipush 8, 2) := by decide +kernel
theorem dX10_resize_23 : decode cX10_resize 23 = .ok (.if_icmp .ge 31, 3) := by decide +kernel
theorem dX10_resize_26 : decode cX10_resize 26 = .ok (.aload_n 0, 1) := by decide +kernel
theorem dX10_resize_27 : decode cX10_resize 27 = .ok (.getfield 15, 3) := by decide +kernel
theorem dX10_resize_30 : decode cX10_resize 30 = .ok (.iload_n 2, 1) := by decide +kernel
theorem dX10_resize_31 : decode cX10_resize 31 = .ok (.iload_n 3, 1) := by decide +kernel
theorem dX10_resize_32 : decode cX10_resize 32 = .ok (.invokestatic 31, 3) := by decide +kernel
theorem dX10_resize_35 : decode cX10_resize 35 = .ok (.iconst 0, 1) := by decide +kernel
theorem dX10_resize_36 : decode cX10_resize 36 = .ok (.bastore, 1) := by decide +kernel
theorem dX10_resize_37 : decode cX10_resize 37 = .ok (.aload_n 0, 1) := by decide +kernel
theorem dX10_resize_38 : decode cX10_resize 38 = .ok (.getfield 15, 3) := by decide +kernel
theorem dX10_resize_41 : decode cX10_resize 41 = .ok (.iload_n 3, 1) := by decide +kernel
theorem dX10_resize_42 : decode cX10_resize 42 = .ok (.iload_n 2, 1) := by decide +kernel
theorem dX10_resize_43 : decode cX10_resize 43 = .ok (.invokestatic 31, 3) := by decide +kernel
theorem dX10_resize_46 : decode cX10_resize 46 = .ok (.iconst 0, 1) := by decide +kernel
theorem dX10_resize_47 : decode cX10_resize 47 = .ok (.bastore, 1) := by decide +kernel
theorem dX10_resize_48 : decode cX10_resize 48 = .ok (.iinc 3 1, 3) := by decide +kernel
theorem dX10_resize_51 : decode cX10_resize 51 = .ok (.goto (-31), 3) := by decide +kernel
theorem dX10_resize_54 : decode cX10_resize 54 = .ok (.iinc 2 1, 3) := by decide +kernel
theorem dX10_resize_57 : decode cX10_resize 57 = .ok (.goto (-45), 3) := by decide +kernel
theorem dX10_resize_60 : decode cX10_resize 60 = .ok (.return_, 1) := by decide +kernel
theorem dX10_setWay_0 : decode cX10_setWay 0 = .ok (.aload_n 0, 1) := by decide +kernel
theorem dX10_setWay_1 : decode cX10_setWay 1 = .ok (.getfield 15, 3) := by decide +kernel
theorem dX10_setWay_4 : decode cX10_setWay 4 = .ok (.iload_n 1, 1) := by decide +kernel
theorem dX10_setWay_5 : decode cX10_setWay 5 = .ok (.iload_n 2, 1) := by decide +kernel
theorem dX10_setWay_6 : decode cX10_setWay 6 = .ok (.invokestatic 31, 3) := by decide +kernel
theorem dX10_setWay_9 : decode cX10_setWay 9 = .ok (.baload, 1) := by decide +kernel
theorem dX10_setWay_10 : decode cX10_setWay 10 = .ok (.istore 4, 2) := by decide +kernel
theorem dX10_setWay_12 : decode cX10_setWay 12 = .ok (.aload_n 0, 1) := by decide +kernel
theorem dX10_setWay_13 : decode cX10_setWay 13 = .ok (.getfield 15, 3) := by decide +kernel
theorem dX10_setWay_16 : decode cX10_setWay 16 = .ok (.iload_n 1, 1) := by decide +kernel
theorem dX10_setWay_17 : decode cX10_setWay 17 = .ok (.iload_n 2, 1) := by decide +kernel
theorem dX10_setWay_18 : decode cX10_setWay 18 = .ok (.invokestatic 31, 3) := by decide +kernel
theorem dX10_setWay_21 : decode cX10_setWay 21 = .ok (.iload_n 3, 1) := by decide +kernel
theorem dX10_setWay_22 : decode cX10_setWay 22 = .ok (.bastore, 1) := by decide +kernel
theorem dX10_setWay_23 : decode cX10_setWay 23 = .ok (.aload_n 0, 1) := by decide +kernel
theorem dX10_setWay_24 : decode cX10_setWay 24 = .ok (.getfield 15, 3) := by decide +kernel
theorem dX10_setWay_27 : decode cX10_setWay 27 = .ok (.iload_n 2, 1) := by decide +kernel
theorem dX10_setWay_28 : decode cX10_setWay 28 = .ok (.iload_n 1, 1) := by decide +kernel
theorem dX10_setWay_29 : decode cX10_setWay 29 = .ok (.invokestatic 31, 3) := by decide +kernel
theorem dX10_setWay_32 : decode cX10_setWay 32 = .ok (.iload_n 3, 1) := by decide +kernel
theorem dX10_setWay_33 : decode cX10_setWay 33 = .ok (.bastore, 1) := by decide +kernel
theorem dX10_setWay_34 : decode cX10_setWay 34 = .ok (.iload 4, 2) := by decide +kernel
theorem dX10_setWay_36 : decode cX10_setWay 36 = .ok (.iload_n 3, 1) := by decide +kernel
theorem dX10_setWay_37 : decode cX10_setWay 37 = .ok (.if_icmp .eq 8, 3) := by decide +kernel
theorem dX10_setWay_40 : decode cX10_setWay 40 = .ok (.aload_n 0, 1) := by decide +kernel
theorem dX10_setWay_41 : decode cX10_setWay 41 = .ok (.iconst 0, 1) := by decide +kernel
theorem dX10_setWay_42 : decode cX10_setWay 42 = .ok (.putfield 27, 3) := by decide +kernel
theorem dX10_setWay_45 : decode cX10_setWay 45 = .ok (.iload 4, 2) := by decide +kernel
theorem dX10_setWay_47 : decode cX10_setWay 47 = .ok (.ireturn, 1) := by decide +kernel
theorem dX10_isStep_0 : decode cX10_isStep 0 = .ok (.iload_n 1, 1) := by decide +kernel
theorem dX10_isStep_1 : decode cX10_isStep 1 = .ok (.iload_n 2, 1) := by decide +kernel
theorem dX10_isStep_2 : decode cX10_isStep 2 = .ok (.if_icmp .eq 16, 3) := by decide +kernel
theorem dX10_isStep_5 : decode cX10_isStep 5 = .ok (.aload_n 0, 1) := by decide +kernel
theorem dX10_isStep_6 : decode cX10_isStep 6 = .ok (.getfield 15, 3) := by decide +kernel
theorem dX10_isStep_9 : decode cX10_isStep 9 = .ok (.iload_n 1, 1) := by decide +kernel
theorem dX10_isStep_10 : decode cX10_isStep 10 = .ok (.iload_n 2, 1) := by decide +kernel
theorem dX10_isStep_11 : decode cX10_isStep 11 = .ok (.invokestatic 31, 3) := by decide +kernel
theorem dX10_isStep_14 : decode cX10_isStep 14 = .ok (.baload, 1) := by decide +kernel
theorem dX10_isStep_15 : decode cX10_isStep 15 = .ok (.ifCond .eq 7, 3) := by decide +kernel
theorem dX10_isStep_18 : decode cX10_isStep 18 = .ok (.iconst 1, 1) := by decide +kernel
theorem dX10_isStep_19 : decode cX10_isStep 19 = .ok (.goto 4, 3) := by decide +kernel
theorem dX10_isStep_22 : decode cX10_isStep 22 = .ok (.iconst 0, 1) := by decide +kernel
theorem dX10_isStep_23 : decode cX10_isStep 23 = .ok (.ireturn, 1) := by decide +kernel
theorem dX10_hops_0 : decode cX10_hops 0 = .ok (.aload_n 0, 1) := by decide +kernel
theorem dX10_hops_1 : decode cX10_hops 1 = .ok (.getfield 27, 3) := by decide +kernel
theorem dX10_hops_4 : decode cX10_hops 4 = .ok (.ifCond .ne 7, 3) := by decide +kernel
theorem dX10_hops_7 : decode cX10_hops 7 = .ok (.aload_n 0, 1) := by decide +kernel
theorem dX10_hops_8 : decode cX10_hops 8 = .ok (.invokevirtual 35, 3) := by decide +kernel
theorem dX10_hops_11 : decode cX10_hops 11 = .ok (.aload_n 0, 1) := by decide +kernel
theorem dX10_hops_12 : decode cX10_hops 12 = .ok (.getfield 19, 3) := by decide +kernel
theorem dX10_hops_15 : decode cX10_hops 15 = .ok (.iload_n 1, 1) := by decide +kernel
theorem dX10_hops_16 : decode cX10_hops 16 = .ok (.iload_n 2, 1) := by decide +kernel
theorem dX10_hops_17 : decode cX10_hops 17 = .ok (.invokestatic 31, 3) := by decide +kernel
theorem dX10_hops_20 : decode cX10_hops 20 = .ok (.iaload, 1) := by decide +kernel
theorem dX10_hops_21 : decode cX10_hops 21 = .ok (.ireturn, 1) := by decide +kernel
theorem dX10_measure_0 : decode cX10_measure 0 = .ok (.aload_n 0, 1) := by decide +kernel
theorem dX10_measure_1 : decode cX10_measure 1 = .ok (.iconst 1, 1) := by decide +kernel
theorem dX10_measure_2 : decode cX10_measure 2 = .ok (.putfield 27, 3) := by decide +kernel
theorem dX10_measure_5 : decode cX10_measure 5 = .ok (.iconst 0, 1) := by decide +kernel
theorem dX10_measure_6 : decode cX10_measure 6 = .ok (.istore_n 1, 1) := by decide +kernel
theorem dX10_measure_7 : decode cX10_measure 7 = .ok (.iload_n 1, 1) := by decide +kernel
theorem dX10_measure_8 : decode cX10_measure 8 = .ok (.aload_n 0, 1) := by decide +kernel
theorem dX10_measure_9 : decode cX10_measure 9 = .ok (.getfield 9, 3) := by decide +kernel
theorem dX10_measure_12 : decode cX10_measure 12 = .ok (.if_icmp .ge 64, 3) := by decide +kernel
theorem dX10_measure_15 : decode cX10_measure 15 = .ok (.iconst 0, 1) := by decide +kernel
theorem dX10_measure_16 : decode cX10_measure 16 = .ok (.istore_n 2, 1) := by decide +kernel
theorem dX10_measure_17 : decode cX10_measure 17 = .ok (.iload_n 2, 1) := by decide +kernel
theorem dX10_measure_18 : decode cX10_measure 18 = .ok (.aload_n 0, 1) := by decide +kernel
theorem dX10_measure_19 : decode cX10_measure 19 = .ok (.getfield 9, 3) := by decide +kernel
theorem dX10_measure_22 : decode cX10_measure 22 = .ok (.if_icmp .ge 48, 3) := by decide +kernel
theorem dX10_measure_25 : decode cX10_measure 25 = .ok (.aload_n 0, 1) := by decide +kernel
theorem dX10_measure_26 : decode cX10_measure 26 = .ok (.getfield 19, 3) := by decide +kernel
theorem dX10_measure_29 : decode cX10_measure 29 = .ok (.iload_n 1, 1) := by decide +kernel
theorem dX10_measure_30 : decode cX10_measure 30 = .ok (.iload_n 2, 1) := by decide +kernel
theorem dX10_measure_31 : decode cX10_measure 31 = .ok (.invokestatic 31, 3) := by decide +kernel
theorem dX10_measure_34 : decode cX10_measure 34 = .ok (.iload_n 1, 1) := by decide +kernel
theorem dX10_measure_35 : decode cX10_measure 35 = .ok (.iload_n 2, 1) := by decide +kernel
theorem dX10_measure_36 : decode cX10_measure 36 = .ok (.if_icmp .ne 7, 3) := by decide +kernel
theorem dX10_measure_39 : decode cX10_measure 39 = .ok (.iconst 0, 1) := by decide +kernel
theorem dX10_measure_40 : decode cX10_measure 40 = .ok (.goto 23, 3) := by decide +kernel
theorem dX10_measure_43 : decode cX10_measure 43 = .ok (.aload_n 0, 1) := by decide +kernel
theorem dX10_measure_44 : decode cX10_measure 44 = .ok (.getfield 15, 3) := by decide +kernel
theorem dX10_measure_47 : decode cX10_measure 47 = .ok (.iload_n 1, 1) := by decide +kernel
theorem dX10_measure_48 : decode cX10_measure 48 = .ok (.iload_n 2, 1) := by decide +kernel
theorem dX10_measure_49 : decode cX10_measure 49 = .ok (.invokestatic 31, 3) := by decide +kernel
theorem dX10_measure_52 : decode cX10_measure 52 = .ok (.baload, 1) := by decide +kernel
theorem dX10_measure_53 : decode cX10_measure 53 = .ok (.ifCond .eq 7, 3) := by decide +kernel
theorem dX10_measure_56 : decode cX10_measure 56 = .ok (.iconst 1, 1) := by decide +kernel
theorem dX10_measure_57 : decode cX10_measure 57 = .ok (.goto 6, 3) := by decide +kernel
theorem dX10_measure_60 : decode cX10_measure 60 = .ok (.sipush 999, 3) := by decide +kernel
theorem dX10_measure_63 : decode cX10_measure 63 = .ok (.iastore, 1) := by decide +kernel
theorem dX10_measure_64 : decode cX10_measure 64 = .ok (.iinc 2 1, 3) := by decide +kernel
theorem dX10_measure_67 : decode cX10_measure 67 = .ok (.goto (-50), 3) := by decide +kernel
theorem dX10_measure_70 : decode cX10_measure 70 = .ok (.iinc 1 1, 3) := by decide +kernel
theorem dX10_measure_73 : decode cX10_measure 73 = .ok (.goto (-66), 3) := by decide +kernel
theorem dX10_measure_76 : decode cX10_measure 76 = .ok (.iconst 0, 1) := by decide +kernel
theorem dX10_measure_77 : decode cX10_measure 77 = .ok (.istore_n 1, 1) := by decide +kernel
theorem dX10_measure_78 : decode cX10_measure 78 = .ok (.iload_n 1, 1) := by decide +kernel
theorem dX10_measure_79 : decode cX10_measure 79 = .ok (.aload_n 0, 1) := by decide +kernel
theorem dX10_measure_80 : decode cX10_measure 80 = .ok (.getfield 9, 3) := by decide +kernel
theorem dX10_measure_83 : decode cX10_measure 83 = .ok (.if_icmp .ge 89, 3) := by decide +kernel
theorem dX10_measure_86 : decode cX10_measure 86 = .ok (.iconst 0, 1) := by decide +kernel
theorem dX10_measure_87 : decode cX10_measure 87 = .ok (.istore_n 2, 1) := by decide +kernel
theorem dX10_measure_88 : decode cX10_measure 88 = .ok (.iload_n 2, 1) := by decide +kernel
theorem dX10_measure_89 : decode cX10_measure 89 = .ok (.aload_n 0, 1) := by decide +kernel
theorem dX10_measure_90 : decode cX10_measure 90 = .ok (.getfield 9, 3) := by decide +kernel
theorem dX10_measure_93 : decode cX10_measure 93 = .ok (.if_icmp .ge 73, 3) := by decide +kernel
theorem dX10_measure_96 : decode cX10_measure 96 = .ok (.iconst 0, 1) := by decide +kernel
theorem dX10_measure_97 : decode cX10_measure 97 = .ok (.istore_n 3, 1) := by decide +kernel
theorem dX10_measure_98 : decode cX10_measure 98 = .ok (.iload_n 3, 1) := by decide +kernel
theorem dX10_measure_99 : decode cX10_measure 99 = .ok (.aload_n 0, 1) := by decide +kernel
theorem dX10_measure_100 : decode cX10_measure 100 = .ok (.getfield 9, 3) := by decide +kernel
theorem dX10_measure_103 : decode cX10_measure 103 = .ok (.if_icmp .ge 57, 3) := by decide +kernel
theorem dX10_measure_106 : decode cX10_measure 106 = .ok (.aload_n 0, 1) := by decide +kernel
theorem dX10_measure_107 : decode cX10_measure 107 = .ok (.getfield 19, 3) := by decide +kernel
theorem dX10_measure_110 : decode cX10_measure 110 = .ok (.iload_n 2, 1) := by decide +kernel
theorem dX10_measure_111 : decode cX10_measure 111 = .ok (.iload_n 1, 1) := by decide +kernel
theorem dX10_measure_112 : decode cX10_measure 112 = .ok (.invokestatic 31, 3) := by decide +kernel
theorem dX10_measure_115 : decode cX10_measure 115 = .ok (.iaload, 1) := by decide +kernel
theorem dX10_measure_116 : decode cX10_measure 116 = .ok (.aload_n 0, 1) := by decide +kernel
theorem dX10_measure_117 : decode cX10_measure 117 = .ok (.getfield 19, 3) := by decide +kernel
theorem dX10_measure_120 : decode cX10_measure 120 = .ok (.iload_n 1, 1) := by decide +kernel
theorem dX10_measure_121 : decode cX10_measure 121 = .ok (.iload_n 3, 1) := by decide +kernel
theorem dX10_measure_122 : decode cX10_measure 122 = .ok (.invokestatic 31, 3) := by decide +kernel
theorem dX10_measure_125 : decode cX10_measure 125 = .ok (.iaload, 1) := by decide +kernel
theorem dX10_measure_126 : decode cX10_measure 126 = .ok (.iadd, 1) := by decide +kernel
theorem dX10_measure_127 : decode cX10_measure 127 = .ok (.istore 4, 2) := by decide +kernel
theorem dX10_measure_129 : decode cX10_measure 129 = .ok (.aload_n 0, 1) := by decide +kernel
theorem dX10_measure_130 : decode cX10_measure 130 = .ok (.getfield 19, 3) := by decide +kernel
theorem dX10_measure_133 : decode cX10_measure 133 = .ok (.iload_n 2, 1) := by decide +kernel
theorem dX10_measure_134 : decode cX10_measure 134 = .ok (.iload_n 3, 1) := by decide +kernel
theorem dX10_measure_135 : decode cX10_measure 135 = .ok (.invokestatic 31, 3) := by decide +kernel
theorem dX10_measure_138 : decode cX10_measure 138 = .ok (.aload_n 0, 1) := by decide +kernel
theorem dX10_measure_139 : decode cX10_measure 139 = .ok (.getfield 19, 3) := by decide +kernel
theorem dX10_measure_142 : decode cX10_measure 142 = .ok (.iload_n 2, 1) := by decide +kernel
theorem dX10_measure_143 : decode cX10_measure 143 = .ok (.iload_n 3, 1) := by decide +kernel
theorem dX10_measure_144 : decode cX10_measure 144 = .ok (.invokestatic 31, 3) := by decide +kernel
theorem dX10_measure_147 : decode cX10_measure 147 = .ok (.iaload, 1) := by decide +kernel
theorem dX10_measure_148 : decode cX10_measure 148 = .ok (.iload 4, 2) := by decide +kernel
theorem dX10_measure_150 : decode cX10_measure 150 = .ok (.invokestatic 38, 3) := by decide +kernel
theorem dX10_measure_153 : decode cX10_measure 153 = .ok (.iastore, 1) := by decide +kernel
theorem dX10_measure_154 : decode cX10_measure 154 = .ok (.iinc 3 1, 3) := by decide +kernel
theorem dX10_measure_157 : decode cX10_measure 157 = .ok (.goto (-59), 3) := by decide +kernel
theorem dX10_measure_160 : decode cX10_measure 160 = .ok (.iinc 2 1, 3) := by decide +kernel
theorem dX10_measure_163 : decode cX10_measure 163 = .ok (.goto (-75), 3) := by decide +kernel
theorem dX10_measure_166 : decode cX10_measure 166 = .ok (.iinc 1 1, 3) := by decide +kernel
theorem dX10_measure_169 : decode cX10_measure 169 = .ok (.goto (-91), 3) := by decide +kernel
theorem dX10_measure_172 : decode cX10_measure 172 = .ok (.return_, 1) := by decide +kernel
theorem dX11_init_0 : decode cX11_init 0 = .ok (.aload_n 0, 1) := by decide +kernel
theorem dX11_init_1 : decode cX11_init 1 = .ok (.invokespecial 1, 3) := by decide +kernel
theorem dX11_init_4 : decode cX11_init 4 = .ok (.aload_n 0, 1) := by decide +kernel
theorem dX11_init_5 : decode cX11_init 5 = .ok (.new 7, 3) := by decide +kernel
theorem dX11_init_8 : decode cX11_init 8 = .ok (.dup, 1) := by decide +kernel
theorem dX11_init_9 : decode cX11_init 9 = .ok (.invokespecial 9, 3) := by decide +kernel
theorem dX11_init_12 : decode cX11_init 12 = .ok (.putfield 10, 3) := by decide +kernel
theorem dX11_init_15 : decode cX11_init 15 = .ok (.aload_n 0, 1) := by decide +kernel
theorem dX11_init_16 : decode cX11_init 16 = .ok (.bipush 40, 2) := by decide +kernel
theorem dX11_init_18 : decode cX11_init 18 = .ok (.anewarray 16, 3) := by decide +kernel
theorem dX11_init_21 : decode cX11_init 21 = .ok (.putfield 18, 3) := by decide +kernel
theorem dX11_init_24 : decode cX11_init 24 = .ok (.aload_n 0, 1) := by decide +kernel
theorem dX11_init_25 : decode cX11_init 25 = .ok (.bipush 60, 2) := by decide +kernel
theorem dX11_init_27 : decode cX11_init 27 = .ok (.anewarray 22, 3) := by decide +kernel
theorem dX11_init_30 : decode cX11_init 30 = .ok (.putfield 24, 3) := by decide +kernel
theorem dX11_init_33 : decode cX11_init 33 = .ok (.aload_n 0, 1) := by decide +kernel
theorem dX11_init_34 : decode cX11_init 34 = .ok (.bipush 8, 2) := by decide +kernel
theorem dX11_init_36 : decode cX11_init 36 = .ok (.anewarray 28, 3) := by decide +kernel
theorem dX11_init_39 : decode cX11_init 39 = .ok (.putfield 30, 3) := by decide +kernel
theorem dX11_init_42 : decode cX11_init 42 = .ok (.aload_n 0, 1) := by decide +kernel
theorem dX11_init_43 : decode cX11_init 43 = .ok (.new 34, 3) := by decide +kernel
theorem dX11_init_46 : decode cX11_init 46 = .ok (.dup, 1) := by decide +kernel
theorem dX11_init_47 : decode cX11_init 47 = .ok (.invokespecial 36, 3) := by decide +kernel
theorem dX11_init_50 : decode cX11_init 50 = .ok (.putfield 37, 3) := by decide +kernel
theorem dX11_init_53 : decode cX11_init 53 = .ok (.aload_n 0, 1) := by decide +kernel
theorem dX11_init_54 : decode cX11_init 54 = .ok (.bipush 10, 2) := by decide +kernel
theorem dX11_init_56 : decode cX11_init 56 = .ok (.anewarray 41, 3) := by decide +kernel
theorem dX11_init_59 : decode cX11_init 59 = .ok (.putfield 43, 3) := by decide +kernel
theorem dX11_init_62 : decode cX11_init 62 = .ok (.aload_n 0, 1) := by decide +kernel
theorem dX11_init_63 : decode cX11_init 63 = .ok (.bipush 40, 2) := by decide +kernel
theorem dX11_init_65 : decode cX11_init 65 = .ok (.anewarray 47, 3) := by decide +kernel
theorem dX11_init_68 : decode cX11_init 68 = .ok (.putfield 49, 3) := by decide +kernel
theorem dX11_init_71 : decode cX11_init 71 = .ok (.aload_n 0, 1) := by decide +kernel
theorem dX11_init_72 : decode cX11_init 72 = .ok (.bipush 10, 2) := by decide +kernel
theorem dX11_init_74 : decode cX11_init 74 = .ok (.newarray .int, 2) := by decide +kernel
theorem dX11_init_76 : decode cX11_init 76 = .ok (.putfield 53, 3) := by decide +kernel
theorem dX11_init_79 : decode cX11_init 79 = .ok (.aload_n 0, 1) := by decide +kernel
theorem dX11_init_80 : decode cX11_init 80 = .ok (.bipush 8, 2) := by decide +kernel
theorem dX11_init_82 : decode cX11_init 82 = .ok (.newarray .int, 2) := by decide +kernel
theorem dX11_init_84 : decode cX11_init 84 = .ok (.putfield 57, 3) := by decide +kernel
theorem dX11_init_87 : decode cX11_init 87 = .ok (.aload_n 0, 1) := by decide +kernel
theorem dX11_init_88 : decode cX11_init 88 = .ok (.new 60, 3) := by decide +kernel
theorem dX11_init_91 : decode cX11_init 91 = .ok (.dup, 1) := by decide +kernel
theorem dX11_init_92 : decode cX11_init 92 = .ok (.aload_n 0, 1) := by decide +kernel
theorem dX11_init_93 : decode cX11_init 93 = .ok (.getfield 10, 3) := by decide +kernel
theorem dX11_init_96 : decode cX11_init 96 = .ok (.invokespecial 62, 3) := by decide +kernel
theorem dX11_init_99 : decode cX11_init 99 = .ok (.putfield 65, 3) := by decide +kernel
theorem dX11_init_102 : decode cX11_init 102 = .ok (.aload_n 0, 1) := by decide +kernel
theorem dX11_init_103 : decode cX11_init 103 = .ok (.new 69, 3) := by decide +kernel
theorem dX11_init_106 : decode cX11_init 106 = .ok (.dup, 1) := by decide +kernel
theorem dX11_init_107 : decode cX11_init 107 = .ok (.invokespecial 71, 3) := by decide +kernel
theorem dX11_init_110 : decode cX11_init 110 = .ok (.putfield 72, 3) := by decide +kernel
theorem dX11_init_113 : decode cX11_init 113 = .ok (.aload_n 0, 1) := by decide +kernel
theorem dX11_init_114 : decode cX11_init 114 = .ok (.bipush 10, 2) := by decide +kernel
theorem dX11_init_116 : decode cX11_init 116 = .ok (.putfield 76, 3) := by decide +kernel
theorem dX11_init_119 : decode cX11_init 119 = .ok (.aload_n 0, 1) := by decide +kernel
theorem dX11_init_120 : decode cX11_init 120 = .ok (.bipush 50, 2) := by decide +kernel
theorem dX11_init_122 : decode cX11_init 122 = .ok (.putfield 80, 3) := by decide +kernel
theorem dX11_init_125 : decode cX11_init 125 = .ok (.aload_n 0, 1) := by decide +kernel
theorem dX11_init_126 : decode cX11_init 126 = .ok (.getfield 53, 3) := by decide +kernel
theorem dX11_init_129 : decode cX11_init 129 = .ok (.ldc 83, 2) := by decide +kernel
theorem dX11_init_131 : decode cX11_init 131 = .ok (.invokestatic 84, 3) := by decide +kernel
theorem dX11_init_134 : decode cX11_init 134 = .ok (.return_, 1) := by decide +kernel
theorem dX11_streets_0 : decode cX11_streets 0 = .ok (.iload_n 1, 1) := by decide +kernel
theorem dX11_streets_1 : decode cX11_streets 1 = .ok (.iconst 1, 1) := by decide +kernel
theorem dX11_streets_2 : decode cX11_streets 2 = .ok (.bipush 8, 2) := by decide +kernel
theorem dX11_streets_4 : decode cX11_streets 4 = .ok (.invokestatic 90, 3) := by decide +kernel
theorem dX11_streets_7 : decode cX11_streets 7 = .ok (.ifCond .ne 6, 3) := by decide +kernel
theorem dX11_streets_10 : decode cX11_streets 10 = .ok (.bipush (-2), 2) := by decide +kernel
theorem dX11_streets_12 : decode cX11_streets 12 = .ok (.ireturn, 1) := by decide +kernel
theorem dX11_streets_13 : decode cX11_streets 13 = .ok (.aload_n 0, 1) := by decide +kernel
theorem dX11_streets_14 : decode cX11_streets 14 = .ok (.getfield 94, 3) := by decide +kernel
theorem dX11_streets_17 : decode cX11_streets 17 = .ok (.ifCond .le 6, 3) := by decide +kernel
theorem dX11_streets_20 : decode cX11_streets 20 = .ok (.bipush (-3), 2) := by decide +kernel
theorem dX11_streets_22 : decode cX11_streets 22 = .ok (.ireturn, 1) := by decide +kernel
theorem dX11_streets_23 : decode cX11_streets 23 = .ok (.aload_n 0, 1) := by decide +kernel
theorem dX11_streets_24 : decode cX11_streets 24 = .ok (.getfield 10, 3) := by decide +kernel
theorem dX11_streets_27 : decode cX11_streets 27 = .ok (.getfield 97, 3) := by decide +kernel
theorem dX11_streets_30 : decode cX11_streets 30 = .ok (.istore_n 2, 1) := by decide +kernel
theorem dX11_streets_31 : decode cX11_streets 31 = .ok (.aload_n 0, 1) := by decide +kernel
theorem dX11_streets_32 : decode cX11_streets 32 = .ok (.getfield 10, 3) := by decide +kernel
theorem dX11_streets_35 : decode cX11_streets 35 = .ok (.iload_n 1, 1) := by decide +kernel
theorem dX11_streets_36 : decode cX11_streets 36 = .ok (.invokevirtual 100, 3) := by decide +kernel
theorem dX11_streets_39 : decode cX11_streets 39 = .ok (.iload_n 2, 1) := by decide +kernel
theorem dX11_streets_40 : decode cX11_streets 40 = .ok (.ireturn, 1) := by decide +kernel
theorem dX11_way_0 : decode cX11_way 0 = .ok (.aload_n 0, 1) := by decide +kernel
theorem dX11_way_1 : decode cX11_way 1 = .ok (.getfield 10, 3) := by decide +kernel
theorem dX11_way_4 : decode cX11_way 4 = .ok (.iload_n 1, 1) := by decide +kernel
theorem dX11_way_5 : decode cX11_way 5 = .ok (.invokevirtual 104, 3) := by decide +kernel
theorem dX11_way_8 : decode cX11_way 8 = .ok (.ifCond .eq 14, 3) := by decide +kernel
theorem dX11_way_11 : decode cX11_way 11 = .ok (.aload_n 0, 1) := by decide +kernel
theorem dX11_way_12 : decode cX11_way 12 = .ok (.getfield 10, 3) := by decide +kernel
theorem dX11_way_15 : decode cX11_way 15 = .ok (.iload_n 2, 1) := by decide +kernel
theorem dX11_way_16 : decode cX11_way 16 = .ok (.invokevirtual 104, 3) := by decide +kernel
theorem dX11_way_19 : decode cX11_way 19 = .ok (.ifCond .ne 5, 3) := by decide +kernel
theorem dX11_way_22 : decode cX11_way 22 = .ok (.iconst (-1), 1) := by decide +kernel
theorem dX11_way_23 : decode cX11_way 23 = .ok (.ireturn, 1) := by decide +kernel
theorem dX11_way_24 : decode cX11_way 24 = .ok (.iload_n 1, 1) := by decide +kernel
theorem dX11_way_25 : decode cX11_way 25 = .ok (.iload_n 2, 1) := by decide +kernel
theorem dX11_way_26 : decode cX11_way 26 = .ok (.if_icmp .ne 6, 3) := by decide +kernel
theorem dX11_way_29 : decode cX11_way 29 = .ok (.bipush (-2), 2) := by decide +kernel
theorem dX11_way_31 : decode cX11_way 31 = .ok (.ireturn, 1) := by decide +kernel
theorem dX11_way_32 : decode cX11_way 32 = .ok (.aload_n 0, 1) := by decide +kernel
theorem dX11_way_33 : decode cX11_way 33 = .ok (.getfield 10, 3) := by decide +kernel
theorem dX11_way_36 : decode cX11_way 36 = .ok (.iload_n 1, 1) := by decide +kernel
theorem dX11_way_37 : decode cX11_way 37 = .ok (.iload_n 2, 1) := by decide +kernel
theorem dX11_way_38 : decode cX11_way 38 = .ok (.iload_n 3, 1) := by decide +kernel
theorem dX11_way_39 : decode cX11_way 39 = .ok (.invokevirtual 108, 3) := by decide +kernel
theorem dX11_way_42 : decode cX11_way 42 = .ok (.invokestatic 112, 3) := by decide +kernel
theorem dX11_way_45 : decode cX11_way 45 = .ok (.ireturn, 1) := by decide +kernel
theorem dX11_far_0 : decode cX11_far 0 = .ok (.aload_n 0, 1) := by decide +kernel
theorem dX11_far_1 : decode cX11_far 1 = .ok (.getfield 10, 3) := by decide +kernel
theorem dX11_far_4 : decode cX11_far 4 = .ok (.iload_n 1, 1) := by decide +kernel
theorem dX11_far_5 : decode cX11_far 5 = .ok (.invokevirtual 104, 3) := by decide +kernel
theorem dX11_far_8 : decode cX11_far 8 = .ok (.ifCond .eq 14, 3) := by decide +kernel
theorem dX11_far_11 : decode cX11_far 11 = .ok (.aload_n 0, 1) := by decide +kernel
theorem dX11_far_12 : decode cX11_far 12 = .ok (.getfield 10, 3) := by decide +kernel
theorem dX11_far_15 : decode cX11_far 15 = .ok (.iload_n 2, 1) := by decide +kernel
theorem dX11_far_16 : decode cX11_far 16 = .ok (.invokevirtual 104, 3) := by decide +kernel
theorem dX11_far_19 : decode cX11_far 19 = .ok (.ifCond .ne 5, 3) := by decide +kernel
theorem dX11_far_22 : decode cX11_far 22 = .ok (.iconst (-1), 1) := by decide +kernel
theorem dX11_far_23 : decode cX11_far 23 = .ok (.ireturn, 1) := by decide +kernel
theorem dX11_far_24 : decode cX11_far 24 = .ok (.aload_n 0, 1) := by decide +kernel
theorem dX11_far_25 : decode cX11_far 25 = .ok (.getfield 10, 3) := by decide +kernel
theorem dX11_far_28 : decode cX11_far 28 = .ok (.iload_n 1, 1) := by decide +kernel
theorem dX11_far_29 : decode cX11_far 29 = .ok (.iload_n 2, 1) := by decide +kernel
theorem dX11_far_30 : decode cX11_far 30 = .ok (.invokevirtual 116, 3) := by decide +kernel
theorem dX11_far_33 : decode cX11_far 33 = .ok (.istore_n 3, 1) := by decide +kernel
theorem dX11_far_34 : decode cX11_far 34 = .ok (.iload_n 3, 1) := by decide +kernel
theorem dX11_far_35 : decode cX11_far 35 = .ok (.sipush 999, 3) := by decide +kernel
theorem dX11_far_38 : decode cX11_far 38 = .ok (.if_icmp .ne 8, 3) := by decide +kernel
theorem dX11_far_41 : decode cX11_far 41 = .ok (.bipush (-9), 2) := by decide +kernel
theorem dX11_far_43 : decode cX11_far 43 = .ok (.goto 4, 3) := by decide +kernel
theorem dX11_far_46 : decode cX11_far 46 = .ok (.iload_n 3, 1) := by decide +kernel
theorem dX11_far_47 : decode cX11_far 47 = .ok (.ireturn, 1) := by decide +kernel
theorem dX11_man_0 : decode cX11_man 0 = .ok (.aload_n 0, 1) := by decide +kernel
theorem dX11_man_1 : decode cX11_man 1 = .ok (.getfield 10, 3) := by decide +kernel
theorem dX11_man_4 : decode cX11_man 4 = .ok (.iload 7, 2) := by decide +kernel
theorem dX11_man_6 : decode cX11_man 6 = .ok (.invokevirtual 104, 3) := by decide +kernel
theorem dX11_man_9 : decode cX11_man 9 = .ok (.ifCond .ne 5, 3) := by decide +kernel
theorem dX11_man_12 : decode cX11_man 12 = .ok (.iconst (-1), 1) := by decide +kernel
theorem dX11_man_13 : decode cX11_man 13 = .ok (.ireturn, 1) := by decide +kernel
theorem dX11_man_14 : decode cX11_man 14 = .ok (.iload_n 1, 1) := by decide +kernel
theorem dX11_man_15 : decode cX11_man 15 = .ok (.bipush 10, 2) := by decide +kernel
theorem dX11_man_17 : decode cX11_man 17 = .ok (.bipush 60, 2) := by decide +kernel
theorem dX11_man_19 : decode cX11_man 19 = .ok (.invokestatic 90, 3) := by decide +kernel
theorem dX11_man_22 : decode cX11_man 22 = .ok (.ifCond .eq 54, 3) := by decide +kernel
theorem dX11_man_25 : decode cX11_man 25 = .ok (.iload_n 2, 1) := by decide +kernel
theorem dX11_man_26 : decode cX11_man 26 = .ok (.iconst 0, 1) := by decide +kernel
theorem dX11_man_27 : decode cX11_man 27 = .ok (.iconst 3, 1) := by decide +kernel
theorem dX11_man_28 : decode cX11_man 28 = .ok (.invokestatic 90, 3) := by decide +kernel
theorem dX11_man_31 : decode cX11_man 31 = .ok (.ifCond .eq 45, 3) := by decide +kernel
theorem dX11_man_34 : decode cX11_man 34 = .ok (.iload_n 3, 1) := by decide +kernel
theorem dX11_man_35 : decode cX11_man 35 = .ok (.iconst 0, 1) := by decide +kernel
theorem dX11_man_36 : decode cX11_man 36 = .ok (.iconst 3, 1) := by decide +kernel
theorem dX11_man_37 : decode cX11_man 37 = .ok (.invokestatic 90, 3) := by decide +kernel
theorem dX11_man_40 : decode cX11_man 40 = .ok (.ifCond .eq 36, 3) := by decide +kernel
theorem dX11_man_43 : decode cX11_man 43 = .ok (.iload 4, 2) := by decide +kernel
theorem dX11_man_45 : decode cX11_man 45 = .ok (.bipush 50, 2) := by decide +kernel
theorem dX11_man_47 : decode cX11_man 47 = .ok (.bipush 80, 2) := by decide +kernel
theorem dX11_man_49 : decode cX11_man 49 = .ok (.invokestatic 90, 3) := by decide +kernel
theorem dX11_man_52 : decode cX11_man 52 = .ok (.ifCond .eq 24, 3) := by decide +kernel
theorem dX11_man_55 : decode cX11_man 55 = .ok (.iload 5, 2) := by decide +kernel
theorem dX11_man_57 : decode cX11_man 57 = .ok (.iconst 0, 1) := by decide +kernel
theorem dX11_man_58 : decode cX11_man 58 = .ok (.iconst 5, 1) := by decide +kernel
theorem dX11_man_59 : decode cX11_man 59 = .ok (.invokestatic 90, 3) := by decide +kernel
theorem dX11_man_62 : decode cX11_man 62 = .ok (.ifCond .eq 14, 3) := by decide +kernel
theorem dX11_man_65 : decode cX11_man 65 = .ok (.iload 6, 2) := by decide +kernel
theorem dX11_man_67 : decode cX11_man 67 = .ok (.iconst 0, 1) := by decide +kernel
theorem dX11_man_68 : decode cX11_man 68 = .ok (.bipush 40, 2) := by decide +kernel
theorem dX11_man_70 : decode cX11_man 70 = .ok (.invokestatic 90, 3) := by decide +kernel
theorem dX11_man_73 : decode cX11_man 73 = .ok (.ifCond .ne 6, 3) := by decide +kernel
theorem dX11_man_76 : decode cX11_man 76 = .ok (.bipush (-2), 2) := by decide +kernel
theorem dX11_man_78 : decode cX11_man 78 = .ok (.ireturn, 1) := by decide +kernel
theorem dX11_man_79 : decode cX11_man 79 = .ok (.aload_n 0, 1) := by decide +kernel
theorem dX11_man_80 : decode cX11_man 80 = .ok (.getfield 94, 3) := by decide +kernel
theorem dX11_man_83 : decode cX11_man 83 = .ok (.bipush 40, 2) := by decide +kernel
theorem dX11_man_85 : decode cX11_man 85 = .ok (.if_icmp .lt 6, 3) := by decide +kernel
theorem dX11_man_88 : decode cX11_man 88 = .ok (.bipush (-4), 2) := by decide +kernel
theorem dX11_man_90 : decode cX11_man 90 = .ok (.ireturn, 1) := by decide +kernel
theorem dX11_man_91 : decode cX11_man 91 = .ok (.aload_n 0, 1) := by decide +kernel
theorem dX11_man_92 : decode cX11_man 92 = .ok (.getfield 18, 3) := by decide +kernel
theorem dX11_man_95 : decode cX11_man 95 = .ok (.aload_n 0, 1) := by decide +kernel
theorem dX11_man_96 : decode cX11_man 96 = .ok (.getfield 94, 3) := by decide +kernel
theorem dX11_man_99 : decode cX11_man 99 = .ok (.new 16, 3) := by decide +kernel
theorem dX11_man_102 : decode cX11_man 102 = .ok (.dup, 1) := by decide +kernel
theorem dX11_man_103 : decode cX11_man 103 = .ok (.iload_n 1, 1) := by decide +kernel
theorem dX11_man_104 : decode cX11_man 104 = .ok (.iload_n 2, 1) := by decide +kernel
theorem dX11_man_105 : decode cX11_man 105 = .ok (.iload_n 3, 1) := by decide +kernel
theorem dX11_man_106 : decode cX11_man 106 = .ok (.iload 4, 2) := by decide +kernel
theorem dX11_man_108 : decode cX11_man 108 = .ok (.iload 5, 2) := by decide +kernel
theorem dX11_man_110 : decode cX11_man 110 = .ok (.iload 6, 2) := by decide +kernel
theorem dX11_man_112 : decode cX11_man 112 = .ok (.iload 7, 2) := by decide +kernel
theorem dX11_man_114 : decode cX11_man 114 = .ok (.invokespecial 120, 3) := by decide +kernel
theorem dX11_man_117 : decode cX11_man 117 = .ok (.aastore, 1) := by decide +kernel
theorem dX11_man_118 : decode cX11_man 118 = .ok (.aload_n 0, 1) := by decide +kernel
theorem dX11_man_119 : decode cX11_man 119 = .ok (.dup, 1) := by decide +kernel
theorem dX11_man_120 : decode cX11_man 120 = .ok (.getfield 94, 3) := by decide +kernel
theorem dX11_man_123 : decode cX11_man 123 = .ok (.iconst 1, 1) := by decide +kernel
theorem dX11_man_124 : decode cX11_man 124 = .ok (.iadd, 1) := by decide +kernel
theorem dX11_man_125 : decode cX11_man 125 = .ok (.putfield 94, 3) := by decide +kernel
theorem dX11_man_128 : decode cX11_man 128 = .ok (.aload_n 0, 1) := by decide +kernel
theorem dX11_man_129 : decode cX11_man 129 = .ok (.getfield 94, 3) := by decide +kernel
theorem dX11_man_132 : decode cX11_man 132 = .ok (.iconst 1, 1) := by decide +kernel
theorem dX11_man_133 : decode cX11_man 133 = .ok (.isub, 1) := by decide +kernel
theorem dX11_man_134 : decode cX11_man 134 = .ok (.ireturn, 1) := by decide +kernel
theorem dX11_about_0 : decode cX11_about 0 = .ok (.aload_n 0, 1) := by decide +kernel
theorem dX11_about_1 : decode cX11_about 1 = .ok (.iload_n 1, 1) := by decide +kernel
theorem dX11_about_2 : decode cX11_about 2 = .ok (.invokevirtual 123, 3) := by decide +kernel
theorem dX11_about_5 : decode cX11_about 5 = .ok (.astore_n 3, 1) := by decide +kernel
theorem dX11_about_6 : decode cX11_about 6 = .ok (.aload_n 3, 1) := by decide +kernel
theorem dX11_about_7 : decode cX11_about 7 = .ok (.ifnonnull 5, 3) := by decide +kernel
theorem dX11_about_10 : decode cX11_about 10 = .ok (.iconst (-1), 1) := by decide +kernel
theorem dX11_about_11 : decode cX11_about 11 = .ok (.ireturn, 1) := by decide +kernel
theorem dX11_about_12 : decode cX11_about 12 = .ok (.iload_n 2, 1) := by decide +kernel
theorem dX11_about_13 : decode cX11_about 13 = .ok (.tableswitch 90 0 7 #[47, 52, 57, 62, 67, 72, 77, 82], 47) := by decide +kernel
theorem dX11_about_60 : decode cX11_about 60 = .ok (.aload_n 3, 1) := by decide +kernel
theorem dX11_about_61 : decode cX11_about 61 = .ok (.getfield 127, 3) := by decide +kernel
theorem dX11_about_64 : decode cX11_about 64 = .ok (.ireturn, 1) := by decide +kernel
theorem dX11_about_65 : decode cX11_about 65 = .ok (.aload_n 3, 1) := by decide +kernel
theorem dX11_about_66 : decode cX11_about 66 = .ok (.getfield 130, 3) := by decide +kernel
theorem dX11_about_69 : decode cX11_about 69 = .ok (.ireturn, 1) := by decide +kernel
theorem dX11_about_70 : decode cX11_about 70 = .ok (.aload_n 3, 1) := by decide +kernel
theorem dX11_about_71 : decode cX11_about 71 = .ok (.getfield 133, 3) := by decide +kernel
theorem dX11_about_74 : decode cX11_about 74 = .ok (.ireturn, 1) := by decide +kernel
theorem dX11_about_75 : decode cX11_about 75 = .ok (.aload_n 3, 1) := by decide +kernel
theorem dX11_about_76 : decode cX11_about 76 = .ok (.getfield 136, 3) := by decide +kernel
theorem dX11_about_79 : decode cX11_about 79 = .ok (.ireturn, 1) := by decide +kernel
theorem dX11_about_80 : decode cX11_about 80 = .ok (.aload_n 3, 1) := by decide +kernel
theorem dX11_about_81 : decode cX11_about 81 = .ok (.getfield 139, 3) := by decide +kernel
theorem dX11_about_84 : decode cX11_about 84 = .ok (.ireturn, 1) := by decide +kernel
theorem dX11_about_85 : decode cX11_about 85 = .ok (.aload_n 3, 1) := by decide +kernel
theorem dX11_about_86 : decode cX11_about 86 = .ok (.getfield 142, 3) := by decide +kernel
theorem dX11_about_89 : decode cX11_about 89 = .ok (.ireturn, 1) := by decide +kernel
theorem dX11_about_90 : decode cX11_about 90 = .ok (.aload_n 3, 1) := by decide +kernel
theorem dX11_about_91 : decode cX11_about 91 = .ok (.getfield 145, 3) := by decide +kernel
theorem dX11_about_94 : decode cX11_about 94 = .ok (.ireturn, 1) := by decide +kernel
theorem dX11_about_95 : decode cX11_about 95 = .ok (.aload_n 3, 1) := by decide +kernel
theorem dX11_about_96 : decode cX11_about 96 = .ok (.getfield 148, 3) := by decide +kernel
theorem dX11_about_99 : decode cX11_about 99 = .ok (.invokestatic 112, 3) := by decide +kernel
theorem dX11_about_102 : decode cX11_about 102 = .ok (.ireturn, 1) := by decide +kernel
theorem dX11_about_103 : decode cX11_about 103 = .ok (.bipush (-2), 2) := by decide +kernel
theorem dX11_about_105 : decode cX11_about 105 = .ok (.ireturn, 1) := by decide +kernel
theorem dX11_shy_0 : decode cX11_shy 0 = .ok (.aload_n 0, 1) := by decide +kernel
theorem dX11_shy_1 : decode cX11_shy 1 = .ok (.iload_n 1, 1) := by decide +kernel
theorem dX11_shy_2 : decode cX11_shy 2 = .ok (.invokevirtual 123, 3) := by decide +kernel
theorem dX11_shy_5 : decode cX11_shy 5 = .ok (.astore_n 3, 1) := by decide +kernel
theorem dX11_shy_6 : decode cX11_shy 6 = .ok (.aload_n 3, 1) := by decide +kernel
theorem dX11_shy_7 : decode cX11_shy 7 = .ok (.ifnonnull 5, 3) := by decide +kernel
theorem dX11_shy_10 : decode cX11_shy 10 = .ok (.iconst (-1), 1) := by decide +kernel
theorem dX11_shy_11 : decode cX11_shy 11 = .ok (.ireturn, 1) := by decide +kernel
theorem dX11_shy_12 : decode cX11_shy 12 = .ok (.aload_n 3, 1) := by decide +kernel
theorem dX11_shy_13 : decode cX11_shy 13 = .ok (.getfield 148, 3) := by decide +kernel
theorem dX11_shy_16 : decode cX11_shy 16 = .ok (.istore 4, 2) := by decide +kernel
theorem dX11_shy_18 : decode cX11_shy 18 = .ok (.aload_n 3, 1) := by decide +kernel
theorem dX11_shy_19 : decode cX11_shy 19 = .ok (.iload_n 2, 1) := by decide +kernel
theorem dX11_shy_20 : decode cX11_shy 20 = .ok (.putfield 148, 3) := by decide +kernel
theorem dX11_shy_23 : decode cX11_shy 23 = .ok (.iload 4, 2) := by decide +kernel
theorem dX11_shy_25 : decode cX11_shy 25 = .ok (.invokestatic 112, 3) := by decide +kernel
theorem dX11_shy_28 : decode cX11_shy 28 = .ok (.ireturn, 1) := by decide +kernel
theorem dX11_where_0 : decode cX11_where 0 = .ok (.aload_n 0, 1) := by decide +kernel
theorem dX11_where_1 : decode cX11_where 1 = .ok (.iload_n 1, 1) := by decide +kernel
theorem dX11_where_2 : decode cX11_where 2 = .ok (.invokevirtual 123, 3) := by decide +kernel
theorem dX11_where_5 : decode cX11_where 5 = .ok (.astore_n 3, 1) := by decide +kernel
theorem dX11_where_6 : decode cX11_where 6 = .ok (.aload_n 3, 1) := by decide +kernel
theorem dX11_where_7 : decode cX11_where 7 = .ok (.ifnonnull 5, 3) := by decide +kernel
theorem dX11_where_10 : decode cX11_where 10 = .ok (.iconst (-1), 1) := by decide +kernel
theorem dX11_where_11 : decode cX11_where 11 = .ok (.ireturn, 1) := by decide +kernel
theorem dX11_where_12 : decode cX11_where 12 = .ok (.iload_n 2, 1) := by decide +kernel
theorem dX11_where_13 : decode cX11_where 13 = .ok (.iconst 0, 1) := by decide +kernel
theorem dX11_where_14 : decode cX11_where 14 = .ok (.aload_n 0, 1) := by decide +kernel
theorem dX11_where_15 : decode cX11_where 15 = .ok (.getfield 152, 3) := by decide +kernel
theorem dX11_where_18 : decode cX11_where 18 = .ok (.invokestatic 90, 3) := by decide +kernel
theorem dX11_where_21 : decode cX11_where 21 = .ok (.ifCond .ne 6, 3) := by decide +kernel
theorem dX11_where_24 : decode cX11_where 24 = .ok (.bipush (-2), 2) := by decide +kernel
theorem dX11_where_26 : decode cX11_where 26 = .ok (.ireturn, 1) := by decide +kernel
theorem dX11_where_27 : decode cX11_where 27 = .ok (.aload_n 3, 1) := by decide +kernel
theorem dX11_where_28 : decode cX11_where 28 = .ok (.iload_n 2, 1) := by decide +kernel
theorem dX11_where_29 : decode cX11_where 29 = .ok (.invokevirtual 155, 3) := by decide +kernel
theorem dX11_where_32 : decode cX11_where 32 = .ok (.ireturn, 1) := by decide +kernel
theorem dX11_at_0 : decode cX11_at 0 = .ok (.aload_n 0, 1) := by decide +kernel
theorem dX11_at_1 : decode cX11_at 1 = .ok (.iload_n 1, 1) := by decide +kernel
theorem dX11_at_2 : decode cX11_at 2 = .ok (.invokevirtual 159, 3) := by decide +kernel
theorem dX11_at_5 : decode cX11_at 5 = .ok (.ifCond .ne 6, 3) := by decide +kernel
theorem dX11_at_8 : decode cX11_at 8 = .ok (.bipush (-2), 2) := by decide +kernel
theorem dX11_at_10 : decode cX11_at 10 = .ok (.ireturn, 1) := by decide +kernel
theorem dX11_at_11 : decode cX11_at 11 = .ok (.aload_n 0, 1) := by decide +kernel
theorem dX11_at_12 : decode cX11_at 12 = .ok (.iload_n 1, 1) := by decide +kernel
theorem dX11_at_13 : decode cX11_at 13 = .ok (.invokevirtual 162, 3) := by decide +kernel
theorem dX11_at_16 : decode cX11_at 16 = .ok (.ireturn, 1) := by decide +kernel
theorem dX11_tide_0 : decode cX11_tide 0 = .ok (.aload_n 0, 1) := by decide +kernel
theorem dX11_tide_1 : decode cX11_tide 1 = .ok (.getfield 152, 3) := by decide +kernel
theorem dX11_tide_4 : decode cX11_tide 4 = .ok (.ireturn, 1) := by decide +kernel
theorem dX11_pass_0 : decode cX11_pass 0 = .ok (.iload_n 1, 1) := by decide +kernel
theorem dX11_pass_1 : decode cX11_pass 1 = .ok (.iconst 1, 1) := by decide +kernel
theorem dX11_pass_2 : decode cX11_pass 2 = .ok (.bipush 60, 2) := by decide +kernel
theorem dX11_pass_4 : decode cX11_pass 4 = .ok (.invokestatic 90, 3) := by decide +kernel
theorem dX11_pass_7 : decode cX11_pass 7 = .ok (.ifCond .ne 6, 3) := by decide +kernel
theorem dX11_pass_10 : decode cX11_pass 10 = .ok (.bipush (-2), 2) := by decide +kernel
theorem dX11_pass_12 : decode cX11_pass 12 = .ok (.ireturn, 1) := by decide +kernel
theorem dX11_pass_13 : decode cX11_pass 13 = .ok (.aload_n 0, 1) := by decide +kernel
theorem dX11_pass_14 : decode cX11_pass 14 = .ok (.getfield 152, 3) := by decide +kernel
theorem dX11_pass_17 : decode cX11_pass 17 = .ok (.iload_n 1, 1) := by decide +kernel
theorem dX11_pass_18 : decode cX11_pass 18 = .ok (.iadd, 1) := by decide +kernel
theorem dX11_pass_19 : decode cX11_pass 19 = .ok (.sipush 899, 3) := by decide +kernel
theorem dX11_pass_22 : decode cX11_pass 22 = .ok (.if_icmp .le 6, 3) := by decide +kernel
theorem dX11_pass_25 : decode cX11_pass 25 = .ok (.bipush (-4), 2) := by decide +kernel
theorem dX11_pass_27 : decode cX11_pass 27 = .ok (.ireturn, 1) := by decide +kernel
theorem dX11_pass_28 : decode cX11_pass 28 = .ok (.iconst 0, 1) := by decide +kernel
theorem dX11_pass_29 : decode cX11_pass 29 = .ok (.istore_n 2, 1) := by decide +kernel
theorem dX11_pass_30 : decode cX11_pass 30 = .ok (.iload_n 2, 1) := by decide +kernel
theorem dX11_pass_31 : decode cX11_pass 31 = .ok (.aload_n 0, 1) := by decide +kernel
theorem dX11_pass_32 : decode cX11_pass 32 = .ok (.getfield 10, 3) := by decide +kernel
theorem dX11_pass_35 : decode cX11_pass 35 = .ok (.getfield 97, 3) := by decide +kernel
theorem dX11_pass_38 : decode cX11_pass 38 = .ok (.if_icmp .ge 27, 3) := by decide +kernel
theorem dX11_pass_41 : decode cX11_pass 41 = .ok (.aload_n 0, 1) := by decide +kernel
theorem dX11_pass_42 : decode cX11_pass 42 = .ok (.getfield 57, 3) := by decide +kernel
theorem dX11_pass_45 : decode cX11_pass 45 = .ok (.iload_n 2, 1) := by decide +kernel
theorem dX11_pass_46 : decode cX11_pass 46 = .ok (.aload_n 0, 1) := by decide +kernel
theorem dX11_pass_47 : decode cX11_pass 47 = .ok (.getfield 37, 3) := by decide +kernel
theorem dX11_pass_50 : decode cX11_pass 50 = .ok (.iload_n 2, 1) := by decide +kernel
theorem dX11_pass_51 : decode cX11_pass 51 = .ok (.aload_n 0, 1) := by decide +kernel
theorem dX11_pass_52 : decode cX11_pass 52 = .ok (.getfield 10, 3) := by decide +kernel
theorem dX11_pass_55 : decode cX11_pass 55 = .ok (.invokevirtual 165, 3) := by decide +kernel
theorem dX11_pass_58 : decode cX11_pass 58 = .ok (.iastore, 1) := by decide +kernel
theorem dX11_pass_59 : decode cX11_pass 59 = .ok (.iinc 2 1, 3) := by decide +kernel
theorem dX11_pass_62 : decode cX11_pass 62 = .ok (.goto (-32), 3) := by decide +kernel
theorem dX11_pass_65 : decode cX11_pass 65 = .ok (.iconst 0, 1) := by decide +kernel
theorem dX11_pass_66 : decode cX11_pass 66 = .ok (.istore_n 2, 1) := by decide +kernel
theorem dX11_pass_67 : decode cX11_pass 67 = .ok (.iload_n 2, 1) := by decide +kernel
theorem dX11_pass_68 : decode cX11_pass 68 = .ok (.iload_n 1, 1) := by decide +kernel
theorem dX11_pass_69 : decode cX11_pass 69 = .ok (.if_icmp .ge 31, 3) := by decide +kernel
theorem dX11_pass_72 : decode cX11_pass 72 = .ok (.aload_n 0, 1) := by decide +kernel
theorem dX11_pass_73 : decode cX11_pass 73 = .ok (.dup, 1) := by decide +kernel
theorem dX11_pass_74 : decode cX11_pass 74 = .ok (.getfield 152, 3) := by decide +kernel
theorem dX11_pass_77 : decode cX11_pass 77 = .ok (.iconst 1, 1) := by decide +kernel
theorem dX11_pass_78 : decode cX11_pass 78 = .ok (.iadd, 1) := by decide +kernel
theorem dX11_pass_79 : decode cX11_pass 79 = .ok (.putfield 152, 3) := by decide +kernel
theorem dX11_pass_82 : decode cX11_pass 82 = .ok (.aload_n 0, 1) := by decide +kernel
theorem dX11_pass_83 : decode cX11_pass 83 = .ok (.invokevirtual 169, 3) := by decide +kernel
theorem dX11_pass_86 : decode cX11_pass 86 = .ok (.aload_n 0, 1) := by decide +kernel
theorem dX11_pass_87 : decode cX11_pass 87 = .ok (.invokevirtual 172, 3) := by decide +kernel
theorem dX11_pass_90 : decode cX11_pass 90 = .ok (.aload_n 0, 1) := by decide +kernel
theorem dX11_pass_91 : decode cX11_pass 91 = .ok (.invokevirtual 175, 3) := by decide +kernel
theorem dX11_pass_94 : decode cX11_pass 94 = .ok (.iinc 2 1, 3) := by decide +kernel
theorem dX11_pass_97 : decode cX11_pass 97 = .ok (.goto (-30), 3) := by decide +kernel
theorem dX11_pass_100 : decode cX11_pass 100 = .ok (.aload_n 0, 1) := by decide +kernel
theorem dX11_pass_101 : decode cX11_pass 101 = .ok (.getfield 152, 3) := by decide +kernel
theorem dX11_pass_104 : decode cX11_pass 104 = .ok (.ireturn, 1) := by decide +kernel
theorem dX11_walk_0 : decode cX11_walk 0 = .ok (.aload_n 0, 1) := by decide +kernel
theorem dX11_walk_1 : decode cX11_walk 1 = .ok (.iload_n 1, 1) := by decide +kernel
theorem dX11_walk_2 : decode cX11_walk 2 = .ok (.invokevirtual 123, 3) := by decide +kernel
theorem dX11_walk_5 : decode cX11_walk 5 = .ok (.astore_n 3, 1) := by decide +kernel
theorem dX11_walk_6 : decode cX11_walk 6 = .ok (.aload_n 3, 1) := by decide +kernel
theorem dX11_walk_7 : decode cX11_walk 7 = .ok (.ifnull 14, 3) := by decide +kernel
theorem dX11_walk_10 : decode cX11_walk 10 = .ok (.aload_n 0, 1) := by decide +kernel
theorem dX11_walk_11 : decode cX11_walk 11 = .ok (.getfield 10, 3) := by decide +kernel
theorem dX11_walk_14 : decode cX11_walk 14 = .ok (.iload_n 2, 1) := by decide +kernel
theorem dX11_walk_15 : decode cX11_walk 15 = .ok (.invokevirtual 104, 3) := by decide +kernel
theorem dX11_walk_18 : decode cX11_walk 18 = .ok (.ifCond .ne 5, 3) := by decide +kernel
theorem dX11_walk_21 : decode cX11_walk 21 = .ok (.iconst (-1), 1) := by decide +kernel
theorem dX11_walk_22 : decode cX11_walk 22 = .ok (.ireturn, 1) := by decide +kernel
theorem dX11_walk_23 : decode cX11_walk 23 = .ok (.aload_n 3, 1) := by decide +kernel
theorem dX11_walk_24 : decode cX11_walk 24 = .ok (.getfield 178, 3) := by decide +kernel
theorem dX11_walk_27 : decode cX11_walk 27 = .ok (.invokestatic 181, 3) := by decide +kernel
theorem dX11_walk_30 : decode cX11_walk 30 = .ok (.ifCond .ne 6, 3) := by decide +kernel
theorem dX11_walk_33 : decode cX11_walk 33 = .ok (.bipush (-3), 2) := by decide +kernel
theorem dX11_walk_35 : decode cX11_walk 35 = .ok (.ireturn, 1) := by decide +kernel
theorem dX11_walk_36 : decode cX11_walk 36 = .ok (.aload_n 3, 1) := by decide +kernel
theorem dX11_walk_37 : decode cX11_walk 37 = .ok (.iload_n 2, 1) := by decide +kernel
theorem dX11_walk_38 : decode cX11_walk 38 = .ok (.aload_n 0, 1) := by decide +kernel
theorem dX11_walk_39 : decode cX11_walk 39 = .ok (.getfield 152, 3) := by decide +kernel
theorem dX11_walk_42 : decode cX11_walk 42 = .ok (.invokevirtual 184, 3) := by decide +kernel
theorem dX11_walk_45 : decode cX11_walk 45 = .ok (.ireturn, 1) := by decide +kernel
theorem dX11_run_0 : decode cX11_run 0 = .ok (.aload_n 0, 1) := by decide +kernel
theorem dX11_run_1 : decode cX11_run 1 = .ok (.iload_n 1, 1) := by decide +kernel
theorem dX11_run_2 : decode cX11_run 2 = .ok (.invokevirtual 123, 3) := by decide +kernel
theorem dX11_run_5 : decode cX11_run 5 = .ok (.astore_n 2, 1) := by decide +kernel
theorem dX11_run_6 : decode cX11_run 6 = .ok (.aload_n 2, 1) := by decide +kernel
theorem dX11_run_7 : decode cX11_run 7 = .ok (.ifnonnull 5, 3) := by decide +kernel
theorem dX11_run_10 : decode cX11_run 10 = .ok (.iconst (-1), 1) := by decide +kernel
theorem dX11_run_11 : decode cX11_run 11 = .ok (.ireturn, 1) := by decide +kernel
theorem dX11_run_12 : decode cX11_run 12 = .ok (.aload_n 2, 1) := by decide +kernel
theorem dX11_run_13 : decode cX11_run 13 = .ok (.getfield 178, 3) := by decide +kernel
theorem dX11_run_16 : decode cX11_run 16 = .ok (.bipush 23, 2) := by decide +kernel
theorem dX11_run_18 : decode cX11_run 18 = .ok (.if_icmp .ne 6, 3) := by decide +kernel
theorem dX11_run_21 : decode cX11_run 21 = .ok (.bipush (-3), 2) := by decide +kernel
theorem dX11_run_23 : decode cX11_run 23 = .ok (.ireturn, 1) := by decide +kernel
theorem dX11_run_24 : decode cX11_run 24 = .ok (.aload_n 2, 1) := by decide +kernel
theorem dX11_run_25 : decode cX11_run 25 = .ok (.bipush 23, 2) := by decide +kernel
theorem dX11_run_27 : decode cX11_run 27 = .ok (.aload_n 0, 1) := by decide +kernel
theorem dX11_run_28 : decode cX11_run 28 = .ok (.getfield 152, 3) := by decide +kernel
theorem dX11_run_31 : decode cX11_run 31 = .ok (.invokevirtual 184, 3) := by decide +kernel
theorem dX11_run_34 : decode cX11_run 34 = .ok (.ireturn, 1) := by decide +kernel
theorem dX11_paper_0 : decode cX11_paper 0 = .ok (.aload_n 0, 1) := by decide +kernel
theorem dX11_paper_1 : decode cX11_paper 1 = .ok (.iload_n 1, 1) := by decide +kernel
theorem dX11_paper_2 : decode cX11_paper 2 = .ok (.invokevirtual 123, 3) := by decide +kernel
theorem dX11_paper_5 : decode cX11_paper 5 = .ok (.ifnonnull 5, 3) := by decide +kernel
theorem dX11_paper_8 : decode cX11_paper 8 = .ok (.iconst (-1), 1) := by decide +kernel
theorem dX11_paper_9 : decode cX11_paper 9 = .ok (.ireturn, 1) := by decide +kernel
theorem dX11_paper_10 : decode cX11_paper 10 = .ok (.iload_n 2, 1) := by decide +kernel
theorem dX11_paper_11 : decode cX11_paper 11 = .ok (.invokestatic 187, 3) := by decide +kernel
theorem dX11_paper_14 : decode cX11_paper 14 = .ok (.ifCond .eq 47, 3) := by decide +kernel
theorem dX11_paper_17 : decode cX11_paper 17 = .ok (.iload_n 3, 1) := by decide +kernel
theorem dX11_paper_18 : decode cX11_paper 18 = .ok (.invokestatic 187, 3) := by decide +kernel
theorem dX11_paper_21 : decode cX11_paper 21 = .ok (.ifCond .eq 40, 3) := by decide +kernel
theorem dX11_paper_24 : decode cX11_paper 24 = .ok (.iload 4, 2) := by decide +kernel
theorem dX11_paper_26 : decode cX11_paper 26 = .ok (.iload 5, 2) := by decide +kernel
theorem dX11_paper_28 : decode cX11_paper 28 = .ok (.bipush 99, 2) := by decide +kernel
theorem dX11_paper_30 : decode cX11_paper 30 = .ok (.invokestatic 190, 3) := by decide +kernel
theorem dX11_paper_33 : decode cX11_paper 33 = .ok (.ifCond .eq 28, 3) := by decide +kernel
theorem dX11_paper_36 : decode cX11_paper 36 = .ok (.iload 6, 2) := by decide +kernel
theorem dX11_paper_38 : decode cX11_paper 38 = .ok (.iload 7, 2) := by decide +kernel
theorem dX11_paper_40 : decode cX11_paper 40 = .ok (.bipush 99, 2) := by decide +kernel
theorem dX11_paper_42 : decode cX11_paper 42 = .ok (.invokestatic 190, 3) := by decide +kernel
theorem dX11_paper_45 : decode cX11_paper 45 = .ok (.ifCond .eq 16, 3) := by decide +kernel
theorem dX11_paper_48 : decode cX11_paper 48 = .ok (.iload 8, 2) := by decide +kernel
theorem dX11_paper_50 : decode cX11_paper 50 = .ok (.iload 9, 2) := by decide +kernel
theorem dX11_paper_52 : decode cX11_paper 52 = .ok (.sipush 899, 3) := by decide +kernel
theorem dX11_paper_55 : decode cX11_paper 55 = .ok (.invokestatic 190, 3) := by decide +kernel
theorem dX11_paper_58 : decode cX11_paper 58 = .ok (.ifCond .ne 6, 3) := by decide +kernel
theorem dX11_paper_61 : decode cX11_paper 61 = .ok (.bipush (-2), 2) := by decide +kernel
theorem dX11_paper_63 : decode cX11_paper 63 = .ok (.ireturn, 1) := by decide +kernel
theorem dX11_paper_64 : decode cX11_paper 64 = .ok (.aload_n 0, 1) := by decide +kernel
theorem dX11_paper_65 : decode cX11_paper 65 = .ok (.getfield 193, 3) := by decide +kernel
theorem dX11_paper_68 : decode cX11_paper 68 = .ok (.bipush 60, 2) := by decide +kernel
theorem dX11_paper_70 : decode cX11_paper 70 = .ok (.if_icmp .lt 6, 3) := by decide +kernel
theorem dX11_paper_73 : decode cX11_paper 73 = .ok (.bipush (-4), 2) := by decide +kernel
theorem dX11_paper_75 : decode cX11_paper 75 = .ok (.ireturn, 1) := by decide +kernel
theorem dX11_paper_76 : decode cX11_paper 76 = .ok (.aload_n 0, 1) := by decide +kernel
theorem dX11_paper_77 : decode cX11_paper 77 = .ok (.getfield 24, 3) := by decide +kernel
theorem dX11_paper_80 : decode cX11_paper 80 = .ok (.aload_n 0, 1) := by decide +kernel
theorem dX11_paper_81 : decode cX11_paper 81 = .ok (.getfield 193, 3) := by decide +kernel
theorem dX11_paper_84 : decode cX11_paper 84 = .ok (.new 22, 3) := by decide +kernel
theorem dX11_paper_87 : decode cX11_paper 87 = .ok (.dup, 1) := by decide +kernel
theorem dX11_paper_88 : decode cX11_paper 88 = .ok (.iload_n 1, 1) := by decide +kernel
theorem dX11_paper_89 : decode cX11_paper 89 = .ok (.iload_n 2, 1) := by decide +kernel
theorem dX11_paper_90 : decode cX11_paper 90 = .ok (.iload_n 3, 1) := by decide +kernel
theorem dX11_paper_91 : decode cX11_paper 91 = .ok (.new 196, 3) := by decide +kernel
theorem dX11_paper_94 : decode cX11_paper 94 = .ok (.dup, 1) := by decide +kernel
theorem dX11_paper_95 : decode cX11_paper 95 = .ok (.iload 4, 2) := by decide +kernel
theorem dX11_paper_97 : decode cX11_paper 97 = .ok (.iload 5, 2) := by decide +kernel
theorem dX11_paper_99 : decode cX11_paper 99 = .ok (.invokespecial 198, 3) := by decide +kernel
theorem dX11_paper_102 : decode cX11_paper 102 = .ok (.new 196, 3) := by decide +kernel
theorem dX11_paper_105 : decode cX11_paper 105 = .ok (.dup, 1) := by decide +kernel
theorem dX11_paper_106 : decode cX11_paper 106 = .ok (.iload 6, 2) := by decide +kernel
theorem dX11_paper_108 : decode cX11_paper 108 = .ok (.iload 7, 2) := by decide +kernel
theorem dX11_paper_110 : decode cX11_paper 110 = .ok (.invokespecial 198, 3) := by decide +kernel
theorem dX11_paper_113 : decode cX11_paper 113 = .ok (.new 196, 3) := by decide +kernel
theorem dX11_paper_116 : decode cX11_paper 116 = .ok (.dup, 1) := by decide +kernel
theorem dX11_paper_117 : decode cX11_paper 117 = .ok (.iload 8, 2) := by decide +kernel
theorem dX11_paper_119 : decode cX11_paper 119 = .ok (.iload 9, 2) := by decide +kernel
theorem dX11_paper_121 : decode cX11_paper 121 = .ok (.invokespecial 198, 3) := by decide +kernel
theorem dX11_paper_124 : decode cX11_paper 124 = .ok (.invokespecial 201, 3) := by decide +kernel
theorem dX11_paper_127 : decode cX11_paper 127 = .ok (.aastore, 1) := by decide +kernel
theorem dX11_paper_128 : decode cX11_paper 128 = .ok (.aload_n 0, 1) := by decide +kernel
theorem dX11_paper_129 : decode cX11_paper 129 = .ok (.dup, 1) := by decide +kernel
theorem dX11_paper_130 : decode cX11_paper 130 = .ok (.getfield 193, 3) := by decide +kernel
theorem dX11_paper_133 : decode cX11_paper 133 = .ok (.iconst 1, 1) := by decide +kernel
theorem dX11_paper_134 : decode cX11_paper 134 = .ok (.iadd, 1) := by decide +kernel
theorem dX11_paper_135 : decode cX11_paper 135 = .ok (.putfield 193, 3) := by decide +kernel
theorem dX11_paper_138 : decode cX11_paper 138 = .ok (.aload_n 0, 1) := by decide +kernel
theorem dX11_paper_139 : decode cX11_paper 139 = .ok (.getfield 193, 3) := by decide +kernel
theorem dX11_paper_142 : decode cX11_paper 142 = .ok (.iconst 1, 1) := by decide +kernel
theorem dX11_paper_143 : decode cX11_paper 143 = .ok (.isub, 1) := by decide +kernel
theorem dX11_paper_144 : decode cX11_paper 144 = .ok (.ireturn, 1) := by decide +kernel
theorem dX11_cover_0 : decode cX11_cover 0 = .ok (.aload_n 0, 1) := by decide +kernel
theorem dX11_cover_1 : decode cX11_cover 1 = .ok (.iload_n 1, 1) := by decide +kernel
theorem dX11_cover_2 : decode cX11_cover 2 = .ok (.invokevirtual 204, 3) := by decide +kernel
theorem dX11_cover_5 : decode cX11_cover 5 = .ok (.astore 4, 2) := by decide +kernel
theorem dX11_cover_7 : decode cX11_cover 7 = .ok (.aload_n 0, 1) := by decide +kernel
theorem dX11_cover_8 : decode cX11_cover 8 = .ok (.iload_n 2, 1) := by decide +kernel
theorem dX11_cover_9 : decode cX11_cover 9 = .ok (.invokevirtual 123, 3) := by decide +kernel
theorem dX11_cover_12 : decode cX11_cover 12 = .ok (.astore 5, 2) := by decide +kernel
theorem dX11_cover_14 : decode cX11_cover 14 = .ok (.aload 4, 2) := by decide +kernel
theorem dX11_cover_16 : decode cX11_cover 16 = .ok (.ifnull 8, 3) := by decide +kernel
theorem dX11_cover_19 : decode cX11_cover 19 = .ok (.aload 5, 2) := by decide +kernel
theorem dX11_cover_21 : decode cX11_cover 21 = .ok (.ifnonnull 5, 3) := by decide +kernel
theorem dX11_cover_24 : decode cX11_cover 24 = .ok (.iconst (-1), 1) := by decide +kernel
theorem dX11_cover_25 : decode cX11_cover 25 = .ok (.ireturn, 1) := by decide +kernel
theorem dX11_cover_26 : decode cX11_cover 26 = .ok (.iload_n 3, 1) := by decide +kernel
theorem dX11_cover_27 : decode cX11_cover 27 = .ok (.invokestatic 208, 3) := by decide +kernel
theorem dX11_cover_30 : decode cX11_cover 30 = .ok (.ifCond .ne 6, 3) := by decide +kernel
theorem dX11_cover_33 : decode cX11_cover 33 = .ok (.bipush (-2), 2) := by decide +kernel
theorem dX11_cover_35 : decode cX11_cover 35 = .ok (.ireturn, 1) := by decide +kernel
theorem dX11_cover_36 : decode cX11_cover 36 = .ok (.aload 4, 2) := by decide +kernel
theorem dX11_cover_38 : decode cX11_cover 38 = .ok (.aload 5, 2) := by decide +kernel
theorem dX11_cover_40 : decode cX11_cover 40 = .ok (.iload_n 3, 1) := by decide +kernel
theorem dX11_cover_41 : decode cX11_cover 41 = .ok (.invokevirtual 211, 3) := by decide +kernel
theorem dX11_cover_44 : decode cX11_cover 44 = .ok (.ireturn, 1) := by decide +kernel
theorem dX11_same_0 : decode cX11_same 0 = .ok (.aload_n 0, 1) := by decide +kernel
theorem dX11_same_1 : decode cX11_same 1 = .ok (.iload_n 1, 1) := by decide +kernel
theorem dX11_same_2 : decode cX11_same 2 = .ok (.invokevirtual 204, 3) := by decide +kernel
theorem dX11_same_5 : decode cX11_same 5 = .ok (.astore_n 3, 1) := by decide +kernel
theorem dX11_same_6 : decode cX11_same 6 = .ok (.aload_n 3, 1) := by decide +kernel
theorem dX11_same_7 : decode cX11_same 7 = .ok (.ifnonnull 5, 3) := by decide +kernel
theorem dX11_same_10 : decode cX11_same 10 = .ok (.iconst (-1), 1) := by decide +kernel
theorem dX11_same_11 : decode cX11_same 11 = .ok (.ireturn, 1) := by decide +kernel
theorem dX11_same_12 : decode cX11_same 12 = .ok (.iload_n 2, 1) := by decide +kernel
theorem dX11_same_13 : decode cX11_same 13 = .ok (.invokestatic 208, 3) := by decide +kernel
theorem dX11_same_16 : decode cX11_same 16 = .ok (.ifCond .ne 6, 3) := by decide +kernel
theorem dX11_same_19 : decode cX11_same 19 = .ok (.bipush (-2), 2) := by decide +kernel
theorem dX11_same_21 : decode cX11_same 21 = .ok (.ireturn, 1) := by decide +kernel
theorem dX11_same_22 : decode cX11_same 22 = .ok (.iconst 0, 1) := by decide +kernel
theorem dX11_same_23 : decode cX11_same 23 = .ok (.istore 4, 2) := by decide +kernel
theorem dX11_same_25 : decode cX11_same 25 = .ok (.iconst 0, 1) := by decide +kernel
theorem dX11_same_26 : decode cX11_same 26 = .ok (.istore 5, 2) := by decide +kernel
theorem dX11_same_28 : decode cX11_same 28 = .ok (.iload 5, 2) := by decide +kernel
theorem dX11_same_30 : decode cX11_same 30 = .ok (.aload_n 0, 1) := by decide +kernel
theorem dX11_same_31 : decode cX11_same 31 = .ok (.getfield 94, 3) := by decide +kernel
theorem dX11_same_34 : decode cX11_same 34 = .ok (.if_icmp .ge 27, 3) := by decide +kernel
theorem dX11_same_37 : decode cX11_same 37 = .ok (.aload_n 3, 1) := by decide +kernel
theorem dX11_same_38 : decode cX11_same 38 = .ok (.aload_n 0, 1) := by decide +kernel
theorem dX11_same_39 : decode cX11_same 39 = .ok (.getfield 18, 3) := by decide +kernel
theorem dX11_same_42 : decode cX11_same 42 = .ok (.iload 5, 2) := by decide +kernel
theorem dX11_same_44 : decode cX11_same 44 = .ok (.aaload, 1) := by decide +kernel
theorem dX11_same_45 : decode cX11_same 45 = .ok (.iload_n 2, 1) := by decide +kernel
theorem dX11_same_46 : decode cX11_same 46 = .ok (.invokevirtual 211, 3) := by decide +kernel
theorem dX11_same_49 : decode cX11_same 49 = .ok (.ifCond .le 6, 3) := by decide +kernel
theorem dX11_same_52 : decode cX11_same 52 = .ok (.iinc 4 1, 3) := by decide +kernel
theorem dX11_same_55 : decode cX11_same 55 = .ok (.iinc 5 1, 3) := by decide +kernel
theorem dX11_same_58 : decode cX11_same 58 = .ok (.goto (-30), 3) := by decide +kernel
theorem dX11_same_61 : decode cX11_same 61 = .ok (.iload 4, 2) := by decide +kernel
theorem dX11_same_63 : decode cX11_same 63 = .ok (.ireturn, 1) := by decide +kernel
theorem dX11_shown_0 : decode cX11_shown 0 = .ok (.aload_n 0, 1) := by decide +kernel
theorem dX11_shown_1 : decode cX11_shown 1 = .ok (.iload_n 1, 1) := by decide +kernel
theorem dX11_shown_2 : decode cX11_shown 2 = .ok (.invokevirtual 204, 3) := by decide +kernel
theorem dX11_shown_5 : decode cX11_shown 5 = .ok (.ifnonnull 5, 3) := by decide +kernel
theorem dX11_shown_8 : decode cX11_shown 8 = .ok (.iconst (-1), 1) := by decide +kernel
theorem dX11_shown_9 : decode cX11_shown 9 = .ok (.ireturn, 1) := by decide +kernel
theorem dX11_shown_10 : decode cX11_shown 10 = .ok (.iload_n 2, 1) := by decide +kernel
theorem dX11_shown_11 : decode cX11_shown 11 = .ok (.invokestatic 208, 3) := by decide +kernel
theorem dX11_shown_14 : decode cX11_shown 14 = .ok (.ifCond .ne 6, 3) := by decide +kernel
theorem dX11_shown_17 : decode cX11_shown 17 = .ok (.bipush (-2), 2) := by decide +kernel
theorem dX11_shown_19 : decode cX11_shown 19 = .ok (.ireturn, 1) := by decide +kernel
theorem dX11_shown_20 : decode cX11_shown 20 = .ok (.aload_n 0, 1) := by decide +kernel
theorem dX11_shown_21 : decode cX11_shown 21 = .ok (.getfield 37, 3) := by decide +kernel
theorem dX11_shown_24 : decode cX11_shown 24 = .ok (.iload_n 1, 1) := by decide +kernel
theorem dX11_shown_25 : decode cX11_shown 25 = .ok (.iload_n 2, 1) := by decide +kernel
theorem dX11_shown_26 : decode cX11_shown 26 = .ok (.bipush 14, 2) := by decide +kernel
theorem dX11_shown_28 : decode cX11_shown 28 = .ok (.isub, 1) := by decide +kernel
theorem dX11_shown_29 : decode cX11_shown 29 = .ok (.iconst 1, 1) := by decide +kernel
theorem dX11_shown_30 : decode cX11_shown 30 = .ok (.iadd, 1) := by decide +kernel
theorem dX11_shown_31 : decode cX11_shown 31 = .ok (.iload_n 2, 1) := by decide +kernel
theorem dX11_shown_32 : decode cX11_shown 32 = .ok (.invokevirtual 215, 3) := by decide +kernel
theorem dX11_shown_35 : decode cX11_shown 35 = .ok (.ireturn, 1) := by decide +kernel
theorem dX11_act_0 : decode cX11_act 0 = .ok (.iload_n 1, 1) := by decide +kernel
theorem dX11_act_1 : decode cX11_act 1 = .ok (.invokestatic 208, 3) := by decide +kernel
theorem dX11_act_4 : decode cX11_act 4 = .ok (.ifCond .ne 6, 3) := by decide +kernel
theorem dX11_act_7 : decode cX11_act 7 = .ok (.bipush (-2), 2) := by decide +kernel
theorem dX11_act_9 : decode cX11_act 9 = .ok (.ireturn, 1) := by decide +kernel
theorem dX11_act_10 : decode cX11_act 10 = .ok (.aload_n 0, 1) := by decide +kernel
theorem dX11_act_11 : decode cX11_act 11 = .ok (.getfield 219, 3) := by decide +kernel
theorem dX11_act_14 : decode cX11_act 14 = .ok (.bipush 8, 2) := by decide +kernel
theorem dX11_act_16 : decode cX11_act 16 = .ok (.if_icmp .lt 6, 3) := by decide +kernel
theorem dX11_act_19 : decode cX11_act 19 = .ok (.bipush (-4), 2) := by decide +kernel
theorem dX11_act_21 : decode cX11_act 21 = .ok (.ireturn, 1) := by decide +kernel
theorem dX11_act_22 : decode cX11_act 22 = .ok (.aload_n 0, 1) := by decide +kernel
theorem dX11_act_23 : decode cX11_act 23 = .ok (.getfield 30, 3) := by decide +kernel
theorem dX11_act_26 : decode cX11_act 26 = .ok (.aload_n 0, 1) := by decide +kernel
theorem dX11_act_27 : decode cX11_act 27 = .ok (.getfield 219, 3) := by decide +kernel
theorem dX11_act_30 : decode cX11_act 30 = .ok (.new 28, 3) := by decide +kernel
theorem dX11_act_33 : decode cX11_act 33 = .ok (.dup, 1) := by decide +kernel
theorem dX11_act_34 : decode cX11_act 34 = .ok (.iload_n 1, 1) := by decide +kernel
theorem dX11_act_35 : decode cX11_act 35 = .ok (.invokespecial 222, 3) := by decide +kernel
theorem dX11_act_38 : decode cX11_act 38 = .ok (.aastore, 1) := by decide +kernel
theorem dX11_act_39 : decode cX11_act 39 = .ok (.aload_n 0, 1) := by decide +kernel
theorem dX11_act_40 : decode cX11_act 40 = .ok (.dup, 1) := by decide +kernel
theorem dX11_act_41 : decode cX11_act 41 = .ok (.getfield 219, 3) := by decide +kernel
theorem dX11_act_44 : decode cX11_act 44 = .ok (.iconst 1, 1) := by decide +kernel
theorem dX11_act_45 : decode cX11_act 45 = .ok (.iadd, 1) := by decide +kernel
theorem dX11_act_46 : decode cX11_act 46 = .ok (.putfield 219, 3) := by decide +kernel
theorem dX11_act_49 : decode cX11_act 49 = .ok (.aload_n 0, 1) := by decide +kernel
theorem dX11_act_50 : decode cX11_act 50 = .ok (.getfield 219, 3) := by decide +kernel
theorem dX11_act_53 : decode cX11_act 53 = .ok (.iconst 1, 1) := by decide +kernel
theorem dX11_act_54 : decode cX11_act 54 = .ok (.isub, 1) := by decide +kernel
theorem dX11_act_55 : decode cX11_act 55 = .ok (.ireturn, 1) := by decide +kernel
theorem dX11_sign_0 : decode cX11_sign 0 = .ok (.aload_n 0, 1) := by decide +kernel
theorem dX11_sign_1 : decode cX11_sign 1 = .ok (.iload_n 1, 1) := by decide +kernel
theorem dX11_sign_2 : decode cX11_sign 2 = .ok (.invokevirtual 224, 3) := by decide +kernel
theorem dX11_sign_5 : decode cX11_sign 5 = .ok (.astore_n 3, 1) := by decide +kernel
theorem dX11_sign_6 : decode cX11_sign 6 = .ok (.aload_n 3, 1) := by decide +kernel
theorem dX11_sign_7 : decode cX11_sign 7 = .ok (.ifnonnull 5, 3) := by decide +kernel
theorem dX11_sign_10 : decode cX11_sign 10 = .ok (.iconst (-1), 1) := by decide +kernel
theorem dX11_sign_11 : decode cX11_sign 11 = .ok (.ireturn, 1) := by decide +kernel
theorem dX11_sign_12 : decode cX11_sign 12 = .ok (.iload_n 2, 1) := by decide +kernel
theorem dX11_sign_13 : decode cX11_sign 13 = .ok (.bipush 33, 2) := by decide +kernel
theorem dX11_sign_15 : decode cX11_sign 15 = .ok (.bipush 126, 2) := by decide +kernel
theorem dX11_sign_17 : decode cX11_sign 17 = .ok (.invokestatic 90, 3) := by decide +kernel
theorem dX11_sign_20 : decode cX11_sign 20 = .ok (.ifCond .ne 6, 3) := by decide +kernel
theorem dX11_sign_23 : decode cX11_sign 23 = .ok (.bipush (-2), 2) := by decide +kernel
theorem dX11_sign_25 : decode cX11_sign 25 = .ok (.ireturn, 1) := by decide +kernel
theorem dX11_sign_26 : decode cX11_sign 26 = .ok (.aload_n 3, 1) := by decide +kernel
theorem dX11_sign_27 : decode cX11_sign 27 = .ok (.getfield 228, 3) := by decide +kernel
theorem dX11_sign_30 : decode cX11_sign 30 = .ok (.bipush 60, 2) := by decide +kernel
theorem dX11_sign_32 : decode cX11_sign 32 = .ok (.if_icmp .lt 6, 3) := by decide +kernel
theorem dX11_sign_35 : decode cX11_sign 35 = .ok (.bipush (-4), 2) := by decide +kernel
theorem dX11_sign_37 : decode cX11_sign 37 = .ok (.ireturn, 1) := by decide +kernel
theorem dX11_sign_38 : decode cX11_sign 38 = .ok (.aload_n 3, 1) := by decide +kernel
theorem dX11_sign_39 : decode cX11_sign 39 = .ok (.iload_n 2, 1) := by decide +kernel
theorem dX11_sign_40 : decode cX11_sign 40 = .ok (.invokevirtual 231, 3) := by decide +kernel
theorem dX11_sign_43 : decode cX11_sign 43 = .ok (.aload_n 3, 1) := by decide +kernel
theorem dX11_sign_44 : decode cX11_sign 44 = .ok (.getfield 228, 3) := by decide +kernel
theorem dX11_sign_47 : decode cX11_sign 47 = .ok (.ireturn, 1) := by decide +kernel
theorem dX11_fault_0 : decode cX11_fault 0 = .ok (.aload_n 0, 1) := by decide +kernel
theorem dX11_fault_1 : decode cX11_fault 1 = .ok (.iload_n 1, 1) := by decide +kernel
theorem dX11_fault_2 : decode cX11_fault 2 = .ok (.invokevirtual 224, 3) := by decide +kernel
theorem dX11_fault_5 : decode cX11_fault 5 = .ok (.astore_n 2, 1) := by decide +kernel
theorem dX11_fault_6 : decode cX11_fault 6 = .ok (.aload_n 2, 1) := by decide +kernel
theorem dX11_fault_7 : decode cX11_fault 7 = .ok (.ifnonnull 7, 3) := by decide +kernel
theorem dX11_fault_10 : decode cX11_fault 10 = .ok (.iconst (-1), 1) := by decide +kernel
theorem dX11_fault_11 : decode cX11_fault 11 = .ok (.goto 7, 3) := by decide +kernel
theorem dX11_fault_14 : decode cX11_fault 14 = .ok (.aload_n 2, 1) := by decide +kernel
theorem dX11_fault_15 : decode cX11_fault 15 = .ok (.invokevirtual 234, 3) := by decide +kernel
theorem dX11_fault_18 : decode cX11_fault 18 = .ok (.ireturn, 1) := by decide +kernel
theorem dX11_force_0 : decode cX11_force 0 = .ok (.iload_n 1, 1) := by decide +kernel
theorem dX11_force_1 : decode cX11_force 1 = .ok (.invokestatic 208, 3) := by decide +kernel
theorem dX11_force_4 : decode cX11_force 4 = .ok (.ifCond .eq 11, 3) := by decide +kernel
theorem dX11_force_7 : decode cX11_force 7 = .ok (.aload_n 0, 1) := by decide +kernel
theorem dX11_force_8 : decode cX11_force 8 = .ok (.iload_n 1, 1) := by decide +kernel
theorem dX11_force_9 : decode cX11_force 9 = .ok (.invokevirtual 238, 3) := by decide +kernel
theorem dX11_force_12 : decode cX11_force 12 = .ok (.goto 5, 3) := by decide +kernel
theorem dX11_force_15 : decode cX11_force 15 = .ok (.bipush (-2), 2) := by decide +kernel
theorem dX11_force_17 : decode cX11_force 17 = .ok (.ireturn, 1) := by decide +kernel
theorem dX11_may_0 : decode cX11_may 0 = .ok (.aload_n 0, 1) := by decide +kernel
theorem dX11_may_1 : decode cX11_may 1 = .ok (.iload_n 1, 1) := by decide +kernel
theorem dX11_may_2 : decode cX11_may 2 = .ok (.invokevirtual 123, 3) := by decide +kernel
theorem dX11_may_5 : decode cX11_may 5 = .ok (.astore_n 3, 1) := by decide +kernel
theorem dX11_may_6 : decode cX11_may 6 = .ok (.aload_n 3, 1) := by decide +kernel
theorem dX11_may_7 : decode cX11_may 7 = .ok (.ifnull 11, 3) := by decide +kernel
theorem dX11_may_10 : decode cX11_may 10 = .ok (.aload_n 0, 1) := by decide +kernel
theorem dX11_may_11 : decode cX11_may 11 = .ok (.iload_n 2, 1) := by decide +kernel
theorem dX11_may_12 : decode cX11_may 12 = .ok (.invokevirtual 241, 3) := by decide +kernel
theorem dX11_may_15 : decode cX11_may 15 = .ok (.ifCond .ne 5, 3) := by decide +kernel
theorem dX11_may_18 : decode cX11_may 18 = .ok (.iconst (-1), 1) := by decide +kernel
theorem dX11_may_19 : decode cX11_may 19 = .ok (.ireturn, 1) := by decide +kernel
theorem dX11_may_20 : decode cX11_may 20 = .ok (.aload_n 0, 1) := by decide +kernel
theorem dX11_may_21 : decode cX11_may 21 = .ok (.aload_n 3, 1) := by decide +kernel
theorem dX11_may_22 : decode cX11_may 22 = .ok (.iload_n 2, 1) := by decide +kernel
theorem dX11_may_23 : decode cX11_may 23 = .ok (.invokevirtual 244, 3) := by decide +kernel
theorem dX11_may_26 : decode cX11_may 26 = .ok (.invokestatic 112, 3) := by decide +kernel
theorem dX11_may_29 : decode cX11_may 29 = .ok (.ireturn, 1) := by decide +kernel
theorem dX11_mayTruly_0 : decode cX11_mayTruly 0 = .ok (.aload_n 0, 1) := by decide +kernel
theorem dX11_mayTruly_1 : decode cX11_mayTruly 1 = .ok (.iload_n 1, 1) := by decide +kernel
theorem dX11_mayTruly_2 : decode cX11_mayTruly 2 = .ok (.invokevirtual 123, 3) := by decide +kernel
theorem dX11_mayTruly_5 : decode cX11_mayTruly 5 = .ok (.ifnonnull 7, 3) := by decide +kernel
theorem dX11_mayTruly_8 : decode cX11_mayTruly 8 = .ok (.iconst (-1), 1) := by decide +kernel
theorem dX11_mayTruly_9 : decode cX11_mayTruly 9 = .ok (.goto 11, 3) := by decide +kernel
theorem dX11_mayTruly_12 : decode cX11_mayTruly 12 = .ok (.aload_n 0, 1) := by decide +kernel
theorem dX11_mayTruly_13 : decode cX11_mayTruly 13 = .ok (.iload_n 1, 1) := by decide +kernel
theorem dX11_mayTruly_14 : decode cX11_mayTruly 14 = .ok (.invokevirtual 248, 3) := by decide +kernel
theorem dX11_mayTruly_17 : decode cX11_mayTruly 17 = .ok (.invokestatic 112, 3) := by decide +kernel
theorem dX11_mayTruly_20 : decode cX11_mayTruly 20 = .ok (.ireturn, 1) := by decide +kernel
theorem dX11_take_0 : decode cX11_take 0 = .ok (.aload_n 0, 1) := by decide +kernel
theorem dX11_take_1 : decode cX11_take 1 = .ok (.iload_n 1, 1) := by decide +kernel
theorem dX11_take_2 : decode cX11_take 2 = .ok (.invokevirtual 123, 3) := by decide +kernel
theorem dX11_take_5 : decode cX11_take 5 = .ok (.astore_n 3, 1) := by decide +kernel
theorem dX11_take_6 : decode cX11_take 6 = .ok (.aload_n 3, 1) := by decide +kernel
theorem dX11_take_7 : decode cX11_take 7 = .ok (.ifnull 11, 3) := by decide +kernel
theorem dX11_take_10 : decode cX11_take 10 = .ok (.aload_n 0, 1) := by decide +kernel
theorem dX11_take_11 : decode cX11_take 11 = .ok (.iload_n 2, 1) := by decide +kernel
theorem dX11_take_12 : decode cX11_take 12 = .ok (.invokevirtual 241, 3) := by decide +kernel
theorem dX11_take_15 : decode cX11_take 15 = .ok (.ifCond .ne 5, 3) := by decide +kernel
theorem dX11_take_18 : decode cX11_take 18 = .ok (.iconst (-1), 1) := by decide +kernel
theorem dX11_take_19 : decode cX11_take 19 = .ok (.ireturn, 1) := by decide +kernel
theorem dX11_take_20 : decode cX11_take 20 = .ok (.aload_n 0, 1) := by decide +kernel
theorem dX11_take_21 : decode cX11_take 21 = .ok (.aload_n 3, 1) := by decide +kernel
theorem dX11_take_22 : decode cX11_take 22 = .ok (.getfield 178, 3) := by decide +kernel
theorem dX11_take_25 : decode cX11_take 25 = .ok (.invokevirtual 251, 3) := by decide +kernel
theorem dX11_take_28 : decode cX11_take 28 = .ok (.ifCond .ne 6, 3) := by decide +kernel
theorem dX11_take_31 : decode cX11_take 31 = .ok (.bipush (-3), 2) := by decide +kernel
theorem dX11_take_33 : decode cX11_take 33 = .ok (.ireturn, 1) := by decide +kernel
theorem dX11_take_34 : decode cX11_take 34 = .ok (.aload_n 0, 1) := by decide +kernel
theorem dX11_take_35 : decode cX11_take 35 = .ok (.getfield 37, 3) := by decide +kernel
theorem dX11_take_38 : decode cX11_take 38 = .ok (.getfield 254, 3) := by decide +kernel
theorem dX11_take_41 : decode cX11_take 41 = .ok (.bipush 60, 2) := by decide +kernel
theorem dX11_take_43 : decode cX11_take 43 = .ok (.if_icmp .lt 6, 3) := by decide +kernel
theorem dX11_take_46 : decode cX11_take 46 = .ok (.bipush (-4), 2) := by decide +kernel
theorem dX11_take_48 : decode cX11_take 48 = .ok (.ireturn, 1) := by decide +kernel
theorem dX11_take_49 : decode cX11_take 49 = .ok (.new 255, 3) := by decide +kernel
theorem dX11_take_52 : decode cX11_take 52 = .ok (.dup, 1) := by decide +kernel
theorem dX11_take_53 : decode cX11_take 53 = .ok (.aload_n 0, 1) := by decide +kernel
theorem dX11_take_54 : decode cX11_take 54 = .ok (.getfield 152, 3) := by decide +kernel
theorem dX11_take_57 : decode cX11_take 57 = .ok (.iload_n 1, 1) := by decide +kernel
theorem dX11_take_58 : decode cX11_take 58 = .ok (.iload_n 2, 1) := by decide +kernel
theorem dX11_take_59 : decode cX11_take 59 = .ok (.aload_n 3, 1) := by decide +kernel
theorem dX11_take_60 : decode cX11_take 60 = .ok (.getfield 178, 3) := by decide +kernel
theorem dX11_take_63 : decode cX11_take 63 = .ok (.aload_n 0, 1) := by decide +kernel
theorem dX11_take_64 : decode cX11_take 64 = .ok (.aload_n 3, 1) := by decide +kernel
theorem dX11_take_65 : decode cX11_take 65 = .ok (.iload_n 2, 1) := by decide +kernel
theorem dX11_take_66 : decode cX11_take 66 = .ok (.invokevirtual 244, 3) := by decide +kernel
theorem dX11_take_69 : decode cX11_take 69 = .ok (.aload_n 0, 1) := by decide +kernel
theorem dX11_take_70 : decode cX11_take 70 = .ok (.iload_n 1, 1) := by decide +kernel
theorem dX11_take_71 : decode cX11_take 71 = .ok (.invokevirtual 248, 3) := by decide +kernel
theorem dX11_take_74 : decode cX11_take 74 = .ok (.invokespecial 257, 3) := by decide +kernel
theorem dX11_take_77 : decode cX11_take 77 = .ok (.astore 4, 2) := by decide +kernel
theorem dX11_take_79 : decode cX11_take 79 = .ok (.aload_n 3, 1) := by decide +kernel
theorem dX11_take_80 : decode cX11_take 80 = .ok (.aload 4, 2) := by decide +kernel
theorem dX11_take_82 : decode cX11_take 82 = .ok (.putfield 260, 3) := by decide +kernel
theorem dX11_take_85 : decode cX11_take 85 = .ok (.aload_n 3, 1) := by decide +kernel
theorem dX11_take_86 : decode cX11_take 86 = .ok (.bipush 20, 2) := by decide +kernel
theorem dX11_take_88 : decode cX11_take 88 = .ok (.aload_n 0, 1) := by decide +kernel
theorem dX11_take_89 : decode cX11_take 89 = .ok (.getfield 152, 3) := by decide +kernel
theorem dX11_take_92 : decode cX11_take 92 = .ok (.invokevirtual 184, 3) := by decide +kernel
theorem dX11_take_95 : decode cX11_take 95 = .ok (.pop, 1) := by decide +kernel
theorem dX11_take_96 : decode cX11_take 96 = .ok (.aload_n 0, 1) := by decide +kernel
theorem dX11_take_97 : decode cX11_take 97 = .ok (.getfield 37, 3) := by decide +kernel
theorem dX11_take_100 : decode cX11_take 100 = .ok (.aload 4, 2) := by decide +kernel
theorem dX11_take_102 : decode cX11_take 102 = .ok (.invokevirtual 264, 3) := by decide +kernel
theorem dX11_take_105 : decode cX11_take 105 = .ok (.aload_n 0, 1) := by decide +kernel
theorem dX11_take_106 : decode cX11_take 106 = .ok (.getfield 37, 3) := by decide +kernel
theorem dX11_take_109 : decode cX11_take 109 = .ok (.getfield 254, 3) := by decide +kernel
theorem dX11_take_112 : decode cX11_take 112 = .ok (.iconst 1, 1) := by decide +kernel
theorem dX11_take_113 : decode cX11_take 113 = .ok (.isub, 1) := by decide +kernel
theorem dX11_take_114 : decode cX11_take 114 = .ok (.ireturn, 1) := by decide +kernel
theorem dX11_taking_0 : decode cX11_taking 0 = .ok (.aload_n 0, 1) := by decide +kernel
theorem dX11_taking_1 : decode cX11_taking 1 = .ok (.getfield 37, 3) := by decide +kernel
theorem dX11_taking_4 : decode cX11_taking 4 = .ok (.iload_n 1, 1) := by decide +kernel
theorem dX11_taking_5 : decode cX11_taking 5 = .ok (.invokevirtual 267, 3) := by decide +kernel
theorem dX11_taking_8 : decode cX11_taking 8 = .ok (.astore_n 3, 1) := by decide +kernel
theorem dX11_taking_9 : decode cX11_taking 9 = .ok (.aload_n 3, 1) := by decide +kernel
theorem dX11_taking_10 : decode cX11_taking 10 = .ok (.ifnonnull 5, 3) := by decide +kernel
theorem dX11_taking_13 : decode cX11_taking 13 = .ok (.iconst (-1), 1) := by decide +kernel
theorem dX11_taking_14 : decode cX11_taking 14 = .ok (.ireturn, 1) := by decide +kernel
theorem dX11_taking_15 : decode cX11_taking 15 = .ok (.iload_n 2, 1) := by decide +kernel
theorem dX11_taking_16 : decode cX11_taking 16 = .ok (.tableswitch 76 0 5 #[40, 45, 50, 55, 60, 68], 40) := by decide +kernel
theorem dX11_taking_56 : decode cX11_taking 56 = .ok (.aload_n 3, 1) := by decide +kernel
theorem dX11_taking_57 : decode cX11_taking 57 = .ok (.getfield 271, 3) := by decide +kernel
theorem dX11_taking_60 : decode cX11_taking 60 = .ok (.ireturn, 1) := by decide +kernel
theorem dX11_taking_61 : decode cX11_taking 61 = .ok (.aload_n 3, 1) := by decide +kernel
theorem dX11_taking_62 : decode cX11_taking 62 = .ok (.getfield 274, 3) := by decide +kernel
theorem dX11_taking_65 : decode cX11_taking 65 = .ok (.ireturn, 1) := by decide +kernel
theorem dX11_taking_66 : decode cX11_taking 66 = .ok (.aload_n 3, 1) := by decide +kernel
theorem dX11_taking_67 : decode cX11_taking 67 = .ok (.getfield 277, 3) := by decide +kernel
theorem dX11_taking_70 : decode cX11_taking 70 = .ok (.ireturn, 1) := by decide +kernel
theorem dX11_taking_71 : decode cX11_taking 71 = .ok (.aload_n 3, 1) := by decide +kernel
theorem dX11_taking_72 : decode cX11_taking 72 = .ok (.getfield 280, 3) := by decide +kernel
theorem dX11_taking_75 : decode cX11_taking 75 = .ok (.ireturn, 1) := by decide +kernel
theorem dX11_taking_76 : decode cX11_taking 76 = .ok (.aload_n 3, 1) := by decide +kernel
theorem dX11_taking_77 : decode cX11_taking 77 = .ok (.getfield 283, 3) := by decide +kernel
theorem dX11_taking_80 : decode cX11_taking 80 = .ok (.invokestatic 112, 3) := by decide +kernel
theorem dX11_taking_83 : decode cX11_taking 83 = .ok (.ireturn, 1) := by decide +kernel
theorem dX11_taking_84 : decode cX11_taking 84 = .ok (.aload_n 3, 1) := by decide +kernel
theorem dX11_taking_85 : decode cX11_taking 85 = .ok (.getfield 286, 3) := by decide +kernel
theorem dX11_taking_88 : decode cX11_taking 88 = .ok (.invokestatic 112, 3) := by decide +kernel
theorem dX11_taking_91 : decode cX11_taking 91 = .ok (.ireturn, 1) := by decide +kernel
theorem dX11_taking_92 : decode cX11_taking 92 = .ok (.bipush (-2), 2) := by decide +kernel
theorem dX11_taking_94 : decode cX11_taking 94 = .ok (.ireturn, 1) := by decide +kernel
theorem dX11_wronged_0 : decode cX11_wronged 0 = .ok (.iconst 0, 1) := by decide +kernel
theorem dX11_wronged_1 : decode cX11_wronged 1 = .ok (.istore_n 1, 1) := by decide +kernel
theorem dX11_wronged_2 : decode cX11_wronged 2 = .ok (.iconst 0, 1) := by decide +kernel
theorem dX11_wronged_3 : decode cX11_wronged 3 = .ok (.istore_n 2, 1) := by decide +kernel
theorem dX11_wronged_4 : decode cX11_wronged 4 = .ok (.iload_n 2, 1) := by decide +kernel
theorem dX11_wronged_5 : decode cX11_wronged 5 = .ok (.aload_n 0, 1) := by decide +kernel
theorem dX11_wronged_6 : decode cX11_wronged 6 = .ok (.getfield 94, 3) := by decide +kernel
theorem dX11_wronged_9 : decode cX11_wronged 9 = .ok (.if_icmp .ge 25, 3) := by decide +kernel
theorem dX11_wronged_12 : decode cX11_wronged 12 = .ok (.aload_n 0, 1) := by decide +kernel
theorem dX11_wronged_13 : decode cX11_wronged 13 = .ok (.aload_n 0, 1) := by decide +kernel
theorem dX11_wronged_14 : decode cX11_wronged 14 = .ok (.getfield 18, 3) := by decide +kernel
theorem dX11_wronged_17 : decode cX11_wronged 17 = .ok (.iload_n 2, 1) := by decide +kernel
theorem dX11_wronged_18 : decode cX11_wronged 18 = .ok (.aaload, 1) := by decide +kernel
theorem dX11_wronged_19 : decode cX11_wronged 19 = .ok (.invokevirtual 289, 3) := by decide +kernel
theorem dX11_wronged_22 : decode cX11_wronged 22 = .ok (.ifCond .eq 6, 3) := by decide +kernel
theorem dX11_wronged_25 : decode cX11_wronged 25 = .ok (.iinc 1 1, 3) := by decide +kernel
theorem dX11_wronged_28 : decode cX11_wronged 28 = .ok (.iinc 2 1, 3) := by decide +kernel
theorem dX11_wronged_31 : decode cX11_wronged 31 = .ok (.goto (-27), 3) := by decide +kernel
theorem dX11_wronged_34 : decode cX11_wronged 34 = .ok (.iload_n 1, 1) := by decide +kernel
theorem dX11_wronged_35 : decode cX11_wronged 35 = .ok (.ireturn, 1) := by decide +kernel
theorem dX11_wrongedMan_0 : decode cX11_wrongedMan 0 = .ok (.iconst 0, 1) := by decide +kernel
theorem dX11_wrongedMan_1 : decode cX11_wrongedMan 1 = .ok (.istore_n 2, 1) := by decide +kernel
theorem dX11_wrongedMan_2 : decode cX11_wrongedMan 2 = .ok (.iconst 0, 1) := by decide +kernel
theorem dX11_wrongedMan_3 : decode cX11_wrongedMan 3 = .ok (.istore_n 3, 1) := by decide +kernel
theorem dX11_wrongedMan_4 : decode cX11_wrongedMan 4 = .ok (.iload_n 3, 1) := by decide +kernel
theorem dX11_wrongedMan_5 : decode cX11_wrongedMan 5 = .ok (.aload_n 0, 1) := by decide +kernel
theorem dX11_wrongedMan_6 : decode cX11_wrongedMan 6 = .ok (.getfield 94, 3) := by decide +kernel
theorem dX11_wrongedMan_9 : decode cX11_wrongedMan 9 = .ok (.if_icmp .ge 32, 3) := by decide +kernel
theorem dX11_wrongedMan_12 : decode cX11_wrongedMan 12 = .ok (.aload_n 0, 1) := by decide +kernel
theorem dX11_wrongedMan_13 : decode cX11_wrongedMan 13 = .ok (.aload_n 0, 1) := by decide +kernel
theorem dX11_wrongedMan_14 : decode cX11_wrongedMan 14 = .ok (.getfield 18, 3) := by decide +kernel
theorem dX11_wrongedMan_17 : decode cX11_wrongedMan 17 = .ok (.iload_n 3, 1) := by decide +kernel
theorem dX11_wrongedMan_18 : decode cX11_wrongedMan 18 = .ok (.aaload, 1) := by decide +kernel
theorem dX11_wrongedMan_19 : decode cX11_wrongedMan 19 = .ok (.invokevirtual 289, 3) := by decide +kernel
theorem dX11_wrongedMan_22 : decode cX11_wrongedMan 22 = .ok (.ifCond .eq 13, 3) := by decide +kernel
theorem dX11_wrongedMan_25 : decode cX11_wrongedMan 25 = .ok (.iload_n 2, 1) := by decide +kernel
theorem dX11_wrongedMan_26 : decode cX11_wrongedMan 26 = .ok (.iload_n 1, 1) := by decide +kernel
theorem dX11_wrongedMan_27 : decode cX11_wrongedMan 27 = .ok (.if_icmp .ne 5, 3) := by decide +kernel
theorem dX11_wrongedMan_30 : decode cX11_wrongedMan 30 = .ok (.iload_n 3, 1) := by decide +kernel
theorem dX11_wrongedMan_31 : decode cX11_wrongedMan 31 = .ok (.ireturn, 1) := by decide +kernel
theorem dX11_wrongedMan_32 : decode cX11_wrongedMan 32 = .ok (.iinc 2 1, 3) := by decide +kernel
theorem dX11_wrongedMan_35 : decode cX11_wrongedMan 35 = .ok (.iinc 3 1, 3) := by decide +kernel
theorem dX11_wrongedMan_38 : decode cX11_wrongedMan 38 = .ok (.goto (-34), 3) := by decide +kernel
theorem dX11_wrongedMan_41 : decode cX11_wrongedMan 41 = .ok (.bipush (-9), 2) := by decide +kernel
theorem dX11_wrongedMan_43 : decode cX11_wrongedMan 43 = .ok (.ireturn, 1) := by decide +kernel
theorem dX11_letGo_0 : decode cX11_letGo 0 = .ok (.aload_n 0, 1) := by decide +kernel
theorem dX11_letGo_1 : decode cX11_letGo 1 = .ok (.iload_n 1, 1) := by decide +kernel
theorem dX11_letGo_2 : decode cX11_letGo 2 = .ok (.invokevirtual 123, 3) := by decide +kernel
theorem dX11_letGo_5 : decode cX11_letGo 5 = .ok (.astore_n 2, 1) := by decide +kernel
theorem dX11_letGo_6 : decode cX11_letGo 6 = .ok (.aload_n 2, 1) := by decide +kernel
theorem dX11_letGo_7 : decode cX11_letGo 7 = .ok (.ifnonnull 5, 3) := by decide +kernel
theorem dX11_letGo_10 : decode cX11_letGo 10 = .ok (.iconst (-1), 1) := by decide +kernel
theorem dX11_letGo_11 : decode cX11_letGo 11 = .ok (.ireturn, 1) := by decide +kernel
theorem dX11_letGo_12 : decode cX11_letGo 12 = .ok (.aload_n 2, 1) := by decide +kernel
theorem dX11_letGo_13 : decode cX11_letGo 13 = .ok (.getfield 178, 3) := by decide +kernel
theorem dX11_letGo_16 : decode cX11_letGo 16 = .ok (.bipush 20, 2) := by decide +kernel
theorem dX11_letGo_18 : decode cX11_letGo 18 = .ok (.if_icmp .eq 26, 3) := by decide +kernel
theorem dX11_letGo_21 : decode cX11_letGo 21 = .ok (.aload_n 2, 1) := by decide +kernel
theorem dX11_letGo_22 : decode cX11_letGo 22 = .ok (.getfield 178, 3) := by decide +kernel
theorem dX11_letGo_25 : decode cX11_letGo 25 = .ok (.bipush 21, 2) := by decide +kernel
theorem dX11_letGo_27 : decode cX11_letGo 27 = .ok (.if_icmp .eq 17, 3) := by decide +kernel
theorem dX11_letGo_30 : decode cX11_letGo 30 = .ok (.aload_n 0, 1) := by decide +kernel
theorem dX11_letGo_31 : decode cX11_letGo 31 = .ok (.aload_n 2, 1) := by decide +kernel
theorem dX11_letGo_32 : decode cX11_letGo 32 = .ok (.getfield 178, 3) := by decide +kernel
theorem dX11_letGo_35 : decode cX11_letGo 35 = .ok (.invokevirtual 293, 3) := by decide +kernel
theorem dX11_letGo_38 : decode cX11_letGo 38 = .ok (.ifCond .ne 6, 3) := by decide +kernel
theorem dX11_letGo_41 : decode cX11_letGo 41 = .ok (.bipush (-3), 2) := by decide +kernel
theorem dX11_letGo_43 : decode cX11_letGo 43 = .ok (.ireturn, 1) := by decide +kernel
theorem dX11_letGo_44 : decode cX11_letGo 44 = .ok (.aload_n 2, 1) := by decide +kernel
theorem dX11_letGo_45 : decode cX11_letGo 45 = .ok (.aload_n 2, 1) := by decide +kernel
theorem dX11_letGo_46 : decode cX11_letGo 46 = .ok (.getfield 145, 3) := by decide +kernel
theorem dX11_letGo_49 : decode cX11_letGo 49 = .ok (.aload_n 0, 1) := by decide +kernel
theorem dX11_letGo_50 : decode cX11_letGo 50 = .ok (.getfield 152, 3) := by decide +kernel
theorem dX11_letGo_53 : decode cX11_letGo 53 = .ok (.invokevirtual 184, 3) := by decide +kernel
theorem dX11_letGo_56 : decode cX11_letGo 56 = .ok (.ireturn, 1) := by decide +kernel
theorem dX11_quiet_0 : decode cX11_quiet 0 = .ok (.aload_n 0, 1) := by decide +kernel
theorem dX11_quiet_1 : decode cX11_quiet 1 = .ok (.getfield 37, 3) := by decide +kernel
theorem dX11_quiet_4 : decode cX11_quiet 4 = .ok (.invokevirtual 296, 3) := by decide +kernel
theorem dX11_quiet_7 : decode cX11_quiet 7 = .ok (.istore_n 1, 1) := by decide +kernel
theorem dX11_quiet_8 : decode cX11_quiet 8 = .ok (.aload_n 0, 1) := by decide +kernel
theorem dX11_quiet_9 : decode cX11_quiet 9 = .ok (.getfield 37, 3) := by decide +kernel
theorem dX11_quiet_12 : decode cX11_quiet 12 = .ok (.invokevirtual 299, 3) := by decide +kernel
theorem dX11_quiet_15 : decode cX11_quiet 15 = .ok (.iload_n 1, 1) := by decide +kernel
theorem dX11_quiet_16 : decode cX11_quiet 16 = .ok (.ireturn, 1) := by decide +kernel
theorem dX11_heard_0 : decode cX11_heard 0 = .ok (.aload_n 0, 1) := by decide +kernel
theorem dX11_heard_1 : decode cX11_heard 1 = .ok (.getfield 10, 3) := by decide +kernel
theorem dX11_heard_4 : decode cX11_heard 4 = .ok (.iload_n 1, 1) := by decide +kernel
theorem dX11_heard_5 : decode cX11_heard 5 = .ok (.invokevirtual 104, 3) := by decide +kernel
theorem dX11_heard_8 : decode cX11_heard 8 = .ok (.ifCond .ne 5, 3) := by decide +kernel
theorem dX11_heard_11 : decode cX11_heard 11 = .ok (.iconst (-1), 1) := by decide +kernel
theorem dX11_heard_12 : decode cX11_heard 12 = .ok (.ireturn, 1) := by decide +kernel
theorem dX11_heard_13 : decode cX11_heard 13 = .ok (.aload_n 0, 1) := by decide +kernel
theorem dX11_heard_14 : decode cX11_heard 14 = .ok (.getfield 37, 3) := by decide +kernel
theorem dX11_heard_17 : decode cX11_heard 17 = .ok (.iload_n 1, 1) := by decide +kernel
theorem dX11_heard_18 : decode cX11_heard 18 = .ok (.aload_n 0, 1) := by decide +kernel
theorem dX11_heard_19 : decode cX11_heard 19 = .ok (.getfield 10, 3) := by decide +kernel
theorem dX11_heard_22 : decode cX11_heard 22 = .ok (.invokevirtual 165, 3) := by decide +kernel
theorem dX11_heard_25 : decode cX11_heard 25 = .ok (.istore_n 2, 1) := by decide +kernel
theorem dX11_heard_26 : decode cX11_heard 26 = .ok (.iload_n 2, 1) := by decide +kernel
theorem dX11_heard_27 : decode cX11_heard 27 = .ok (.sipush 999, 3) := by decide +kernel
theorem dX11_heard_30 : decode cX11_heard 30 = .ok (.if_icmp .ne 8, 3) := by decide +kernel
theorem dX11_heard_33 : decode cX11_heard 33 = .ok (.bipush (-9), 2) := by decide +kernel
theorem dX11_heard_35 : decode cX11_heard 35 = .ok (.goto 4, 3) := by decide +kernel
theorem dX11_heard_38 : decode cX11_heard 38 = .ok (.iload_n 2, 1) := by decide +kernel
theorem dX11_heard_39 : decode cX11_heard 39 = .ok (.ireturn, 1) := by decide +kernel
theorem dX11_tender_0 : decode cX11_tender 0 = .ok (.iload_n 1, 1) := by decide +kernel
theorem dX11_tender_1 : decode cX11_tender 1 = .ok (.ifCond .ne 25, 3) := by decide +kernel
theorem dX11_tender_4 : decode cX11_tender 4 = .ok (.iload_n 2, 1) := by decide +kernel
theorem dX11_tender_5 : decode cX11_tender 5 = .ok (.iconst 0, 1) := by decide +kernel
theorem dX11_tender_6 : decode cX11_tender 6 = .ok (.bipush 40, 2) := by decide +kernel
theorem dX11_tender_8 : decode cX11_tender 8 = .ok (.invokestatic 90, 3) := by decide +kernel
theorem dX11_tender_11 : decode cX11_tender 11 = .ok (.ifCond .eq 15, 3) := by decide +kernel
theorem dX11_tender_14 : decode cX11_tender 14 = .ok (.aload_n 0, 1) := by decide +kernel
theorem dX11_tender_15 : decode cX11_tender 15 = .ok (.getfield 76, 3) := by decide +kernel
theorem dX11_tender_18 : decode cX11_tender 18 = .ok (.istore_n 3, 1) := by decide +kernel
theorem dX11_tender_19 : decode cX11_tender 19 = .ok (.aload_n 0, 1) := by decide +kernel
theorem dX11_tender_20 : decode cX11_tender 20 = .ok (.iload_n 2, 1) := by decide +kernel
theorem dX11_tender_21 : decode cX11_tender 21 = .ok (.putfield 76, 3) := by decide +kernel
theorem dX11_tender_24 : decode cX11_tender 24 = .ok (.iload_n 3, 1) := by decide +kernel
theorem dX11_tender_25 : decode cX11_tender 25 = .ok (.ireturn, 1) := by decide +kernel
theorem dX11_tender_26 : decode cX11_tender 26 = .ok (.iload_n 1, 1) := by decide +kernel
theorem dX11_tender_27 : decode cX11_tender 27 = .ok (.iconst 1, 1) := by decide +kernel
theorem dX11_tender_28 : decode cX11_tender 28 = .ok (.if_icmp .ne 25, 3) := by decide +kernel
theorem dX11_tender_31 : decode cX11_tender 31 = .ok (.iload_n 2, 1) := by decide +kernel
theorem dX11_tender_32 : decode cX11_tender 32 = .ok (.iconst 0, 1) := by decide +kernel
theorem dX11_tender_33 : decode cX11_tender 33 = .ok (.bipush 100, 2) := by decide +kernel
theorem dX11_tender_35 : decode cX11_tender 35 = .ok (.invokestatic 90, 3) := by decide +kernel
theorem dX11_tender_38 : decode cX11_tender 38 = .ok (.ifCond .eq 15, 3) := by decide +kernel
theorem dX11_tender_41 : decode cX11_tender 41 = .ok (.aload_n 0, 1) := by decide +kernel
theorem dX11_tender_42 : decode cX11_tender 42 = .ok (.getfield 80, 3) := by decide +kernel
theorem dX11_tender_45 : decode cX11_tender 45 = .ok (.istore_n 3, 1) := by decide +kernel
theorem dX11_tender_46 : decode cX11_tender 46 = .ok (.aload_n 0, 1) := by decide +kernel
theorem dX11_tender_47 : decode cX11_tender 47 = .ok (.iload_n 2, 1) := by decide +kernel
theorem dX11_tender_48 : decode cX11_tender 48 = .ok (.putfield 80, 3) := by decide +kernel
theorem dX11_tender_51 : decode cX11_tender 51 = .ok (.iload_n 3, 1) := by decide +kernel
theorem dX11_tender_52 : decode cX11_tender 52 = .ok (.ireturn, 1) := by decide +kernel
theorem dX11_tender_53 : decode cX11_tender 53 = .ok (.bipush (-2), 2) := by decide +kernel
theorem dX11_tender_55 : decode cX11_tender 55 = .ok (.ireturn, 1) := by decide +kernel
theorem dX11_met_0 : decode cX11_met 0 = .ok (.iload_n 1, 1) := by decide +kernel
theorem dX11_met_1 : decode cX11_met 1 = .ok (.iconst 1, 1) := by decide +kernel
theorem dX11_met_2 : decode cX11_met 2 = .ok (.iconst 2, 1) := by decide +kernel
theorem dX11_met_3 : decode cX11_met 3 = .ok (.invokestatic 90, 3) := by decide +kernel
theorem dX11_met_6 : decode cX11_met 6 = .ok (.ifCond .eq 12, 3) := by decide +kernel
theorem dX11_met_9 : decode cX11_met 9 = .ok (.iload_n 2, 1) := by decide +kernel
theorem dX11_met_10 : decode cX11_met 10 = .ok (.iconst 1, 1) := by decide +kernel
theorem dX11_met_11 : decode cX11_met 11 = .ok (.iconst 3, 1) := by decide +kernel
theorem dX11_met_12 : decode cX11_met 12 = .ok (.invokestatic 90, 3) := by decide +kernel
theorem dX11_met_15 : decode cX11_met 15 = .ok (.ifCond .ne 6, 3) := by decide +kernel
theorem dX11_met_18 : decode cX11_met 18 = .ok (.bipush (-2), 2) := by decide +kernel
theorem dX11_met_20 : decode cX11_met 20 = .ok (.ireturn, 1) := by decide +kernel
theorem dX11_met_21 : decode cX11_met 21 = .ok (.aload_n 0, 1) := by decide +kernel
theorem dX11_met_22 : decode cX11_met 22 = .ok (.invokevirtual 302, 3) := by decide +kernel
theorem dX11_met_25 : decode cX11_met 25 = .ok (.aload_n 0, 1) := by decide +kernel
theorem dX11_met_26 : decode cX11_met 26 = .ok (.getfield 65, 3) := by decide +kernel
theorem dX11_met_29 : decode cX11_met 29 = .ok (.iload_n 1, 1) := by decide +kernel
theorem dX11_met_30 : decode cX11_met 30 = .ok (.invokevirtual 305, 3) := by decide +kernel
theorem dX11_met_33 : decode cX11_met 33 = .ok (.ireturn, 1) := by decide +kernel
theorem dX11_laid_0 : decode cX11_laid 0 = .ok (.iload_n 1, 1) := by decide +kernel
theorem dX11_laid_1 : decode cX11_laid 1 = .ok (.iconst 1, 1) := by decide +kernel
theorem dX11_laid_2 : decode cX11_laid 2 = .ok (.iconst 2, 1) := by decide +kernel
theorem dX11_laid_3 : decode cX11_laid 3 = .ok (.invokestatic 90, 3) := by decide +kernel
theorem dX11_laid_6 : decode cX11_laid 6 = .ok (.ifCond .eq 35, 3) := by decide +kernel
theorem dX11_laid_9 : decode cX11_laid 9 = .ok (.iload_n 2, 1) := by decide +kernel
theorem dX11_laid_10 : decode cX11_laid 10 = .ok (.iconst 1, 1) := by decide +kernel
theorem dX11_laid_11 : decode cX11_laid 11 = .ok (.iconst 3, 1) := by decide +kernel
theorem dX11_laid_12 : decode cX11_laid 12 = .ok (.invokestatic 90, 3) := by decide +kernel
theorem dX11_laid_15 : decode cX11_laid 15 = .ok (.ifCond .eq 26, 3) := by decide +kernel
theorem dX11_laid_18 : decode cX11_laid 18 = .ok (.iload_n 3, 1) := by decide +kernel
theorem dX11_laid_19 : decode cX11_laid 19 = .ok (.iconst 0, 1) := by decide +kernel
theorem dX11_laid_20 : decode cX11_laid 20 = .ok (.iload_n 1, 1) := by decide +kernel
theorem dX11_laid_21 : decode cX11_laid 21 = .ok (.iconst 1, 1) := by decide +kernel
theorem dX11_laid_22 : decode cX11_laid 22 = .ok (.isub, 1) := by decide +kernel
theorem dX11_laid_23 : decode cX11_laid 23 = .ok (.invokestatic 90, 3) := by decide +kernel
theorem dX11_laid_26 : decode cX11_laid 26 = .ok (.ifCond .eq 15, 3) := by decide +kernel
theorem dX11_laid_29 : decode cX11_laid 29 = .ok (.iload 4, 2) := by decide +kernel
theorem dX11_laid_31 : decode cX11_laid 31 = .ok (.iconst 0, 1) := by decide +kernel
theorem dX11_laid_32 : decode cX11_laid 32 = .ok (.iload_n 2, 1) := by decide +kernel
theorem dX11_laid_33 : decode cX11_laid 33 = .ok (.iconst 1, 1) := by decide +kernel
theorem dX11_laid_34 : decode cX11_laid 34 = .ok (.isub, 1) := by decide +kernel
theorem dX11_laid_35 : decode cX11_laid 35 = .ok (.invokestatic 90, 3) := by decide +kernel
theorem dX11_laid_38 : decode cX11_laid 38 = .ok (.ifCond .ne 6, 3) := by decide +kernel
theorem dX11_laid_41 : decode cX11_laid 41 = .ok (.bipush (-2), 2) := by decide +kernel
theorem dX11_laid_43 : decode cX11_laid 43 = .ok (.ireturn, 1) := by decide +kernel
theorem dX11_laid_44 : decode cX11_laid 44 = .ok (.aload_n 0, 1) := by decide +kernel
theorem dX11_laid_45 : decode cX11_laid 45 = .ok (.invokevirtual 302, 3) := by decide +kernel
theorem dX11_laid_48 : decode cX11_laid 48 = .ok (.aload_n 0, 1) := by decide +kernel
theorem dX11_laid_49 : decode cX11_laid 49 = .ok (.getfield 65, 3) := by decide +kernel
theorem dX11_laid_52 : decode cX11_laid 52 = .ok (.iload_n 1, 1) := by decide +kernel
theorem dX11_laid_53 : decode cX11_laid 53 = .ok (.iload_n 2, 1) := by decide +kernel
theorem dX11_laid_54 : decode cX11_laid 54 = .ok (.invokevirtual 308, 3) := by decide +kernel
theorem dX11_laid_57 : decode cX11_laid 57 = .ok (.aload_n 0, 1) := by decide +kernel
theorem dX11_laid_58 : decode cX11_laid 58 = .ok (.getfield 65, 3) := by decide +kernel
theorem dX11_laid_61 : decode cX11_laid 61 = .ok (.iload_n 3, 1) := by decide +kernel
theorem dX11_laid_62 : decode cX11_laid 62 = .ok (.iload 4, 2) := by decide +kernel
theorem dX11_laid_64 : decode cX11_laid 64 = .ok (.invokevirtual 311, 3) := by decide +kernel
theorem dX11_laid_67 : decode cX11_laid 67 = .ok (.ireturn, 1) := by decide +kernel
theorem dX11_ship_0 : decode cX11_ship 0 = .ok (.iload_n 1, 1) := by decide +kernel
theorem dX11_ship_1 : decode cX11_ship 1 = .ok (.iconst 0, 1) := by decide +kernel
theorem dX11_ship_2 : decode cX11_ship 2 = .ok (.iconst 1, 1) := by decide +kernel
theorem dX11_ship_3 : decode cX11_ship 3 = .ok (.invokestatic 90, 3) := by decide +kernel
theorem dX11_ship_6 : decode cX11_ship 6 = .ok (.ifCond .eq 33, 3) := by decide +kernel
theorem dX11_ship_9 : decode cX11_ship 9 = .ok (.iload_n 2, 1) := by decide +kernel
theorem dX11_ship_10 : decode cX11_ship 10 = .ok (.iconst 1, 1) := by decide +kernel
theorem dX11_ship_11 : decode cX11_ship 11 = .ok (.bipush 20, 2) := by decide +kernel
theorem dX11_ship_13 : decode cX11_ship 13 = .ok (.invokestatic 90, 3) := by decide +kernel
theorem dX11_ship_16 : decode cX11_ship 16 = .ok (.ifCond .eq 23, 3) := by decide +kernel
theorem dX11_ship_19 : decode cX11_ship 19 = .ok (.iload_n 3, 1) := by decide +kernel
theorem dX11_ship_20 : decode cX11_ship 20 = .ok (.iconst 0, 1) := by decide +kernel
theorem dX11_ship_21 : decode cX11_ship 21 = .ok (.iload_n 2, 1) := by decide +kernel
theorem dX11_ship_22 : decode cX11_ship 22 = .ok (.invokestatic 90, 3) := by decide +kernel
theorem dX11_ship_25 : decode cX11_ship 25 = .ok (.ifCond .eq 14, 3) := by decide +kernel
theorem dX11_ship_28 : decode cX11_ship 28 = .ok (.iload 4, 2) := by decide +kernel
theorem dX11_ship_30 : decode cX11_ship 30 = .ok (.iconst 0, 1) := by decide +kernel
theorem dX11_ship_31 : decode cX11_ship 31 = .ok (.bipush 20, 2) := by decide +kernel
theorem dX11_ship_33 : decode cX11_ship 33 = .ok (.invokestatic 90, 3) := by decide +kernel
theorem dX11_ship_36 : decode cX11_ship 36 = .ok (.ifCond .ne 6, 3) := by decide +kernel
theorem dX11_ship_39 : decode cX11_ship 39 = .ok (.bipush (-2), 2) := by decide +kernel
theorem dX11_ship_41 : decode cX11_ship 41 = .ok (.ireturn, 1) := by decide +kernel
theorem dX11_ship_42 : decode cX11_ship 42 = .ok (.aload_n 0, 1) := by decide +kernel
theorem dX11_ship_43 : decode cX11_ship 43 = .ok (.getfield 314, 3) := by decide +kernel
theorem dX11_ship_46 : decode cX11_ship 46 = .ok (.bipush 10, 2) := by decide +kernel
theorem dX11_ship_48 : decode cX11_ship 48 = .ok (.if_icmp .lt 6, 3) := by decide +kernel
theorem dX11_ship_51 : decode cX11_ship 51 = .ok (.bipush (-4), 2) := by decide +kernel
theorem dX11_ship_53 : decode cX11_ship 53 = .ok (.ireturn, 1) := by decide +kernel
theorem dX11_ship_54 : decode cX11_ship 54 = .ok (.aload_n 0, 1) := by decide +kernel
theorem dX11_ship_55 : decode cX11_ship 55 = .ok (.getfield 43, 3) := by decide +kernel
theorem dX11_ship_58 : decode cX11_ship 58 = .ok (.aload_n 0, 1) := by decide +kernel
theorem dX11_ship_59 : decode cX11_ship 59 = .ok (.getfield 314, 3) := by decide +kernel
theorem dX11_ship_62 : decode cX11_ship 62 = .ok (.new 41, 3) := by decide +kernel
theorem dX11_ship_65 : decode cX11_ship 65 = .ok (.dup, 1) := by decide +kernel
theorem dX11_ship_66 : decode cX11_ship 66 = .ok (.iload_n 1, 1) := by decide +kernel
theorem dX11_ship_67 : decode cX11_ship 67 = .ok (.iload_n 2, 1) := by decide +kernel
theorem dX11_ship_68 : decode cX11_ship 68 = .ok (.iload_n 3, 1) := by decide +kernel
theorem dX11_ship_69 : decode cX11_ship 69 = .ok (.iload 4, 2) := by decide +kernel
theorem dX11_ship_71 : decode cX11_ship 71 = .ok (.invokespecial 317, 3) := by decide +kernel
theorem dX11_ship_74 : decode cX11_ship 74 = .ok (.aastore, 1) := by decide +kernel
theorem dX11_ship_75 : decode cX11_ship 75 = .ok (.aload_n 0, 1) := by decide +kernel
theorem dX11_ship_76 : decode cX11_ship 76 = .ok (.dup, 1) := by decide +kernel
theorem dX11_ship_77 : decode cX11_ship 77 = .ok (.getfield 314, 3) := by decide +kernel
theorem dX11_ship_80 : decode cX11_ship 80 = .ok (.iconst 1, 1) := by decide +kernel
theorem dX11_ship_81 : decode cX11_ship 81 = .ok (.iadd, 1) := by decide +kernel
theorem dX11_ship_82 : decode cX11_ship 82 = .ok (.putfield 314, 3) := by decide +kernel
theorem dX11_ship_85 : decode cX11_ship 85 = .ok (.aload_n 0, 1) := by decide +kernel
theorem dX11_ship_86 : decode cX11_ship 86 = .ok (.getfield 314, 3) := by decide +kernel
theorem dX11_ship_89 : decode cX11_ship 89 = .ok (.iconst 1, 1) := by decide +kernel
theorem dX11_ship_90 : decode cX11_ship 90 = .ok (.isub, 1) := by decide +kernel
theorem dX11_ship_91 : decode cX11_ship 91 = .ok (.ireturn, 1) := by decide +kernel
theorem dX11_of_0 : decode cX11_of 0 = .ok (.aload_n 0, 1) := by decide +kernel
theorem dX11_of_1 : decode cX11_of 1 = .ok (.iload_n 1, 1) := by decide +kernel
theorem dX11_of_2 : decode cX11_of 2 = .ok (.invokevirtual 320, 3) := by decide +kernel
theorem dX11_of_5 : decode cX11_of 5 = .ok (.astore_n 3, 1) := by decide +kernel
theorem dX11_of_6 : decode cX11_of 6 = .ok (.aload_n 3, 1) := by decide +kernel
theorem dX11_of_7 : decode cX11_of 7 = .ok (.ifnonnull 5, 3) := by decide +kernel
theorem dX11_of_10 : decode cX11_of 10 = .ok (.iconst (-1), 1) := by decide +kernel
theorem dX11_of_11 : decode cX11_of 11 = .ok (.ireturn, 1) := by decide +kernel
theorem dX11_of_12 : decode cX11_of 12 = .ok (.iload_n 2, 1) := by decide +kernel
theorem dX11_of_13 : decode cX11_of 13 = .ok (.tableswitch 89 0 6 #[43, 48, 53, 58, 63, 71, 80], 43) := by decide +kernel
theorem dX11_of_56 : decode cX11_of 56 = .ok (.aload_n 3, 1) := by decide +kernel
theorem dX11_of_57 : decode cX11_of 57 = .ok (.getfield 324, 3) := by decide +kernel
theorem dX11_of_60 : decode cX11_of 60 = .ok (.ireturn, 1) := by decide +kernel
theorem dX11_of_61 : decode cX11_of 61 = .ok (.aload_n 3, 1) := by decide +kernel
theorem dX11_of_62 : decode cX11_of 62 = .ok (.getfield 327, 3) := by decide +kernel
theorem dX11_of_65 : decode cX11_of 65 = .ok (.ireturn, 1) := by decide +kernel
theorem dX11_of_66 : decode cX11_of 66 = .ok (.aload_n 3, 1) := by decide +kernel
theorem dX11_of_67 : decode cX11_of 67 = .ok (.getfield 330, 3) := by decide +kernel
theorem dX11_of_70 : decode cX11_of 70 = .ok (.ireturn, 1) := by decide +kernel
theorem dX11_of_71 : decode cX11_of 71 = .ok (.aload_n 3, 1) := by decide +kernel
theorem dX11_of_72 : decode cX11_of 72 = .ok (.getfield 333, 3) := by decide +kernel
theorem dX11_of_75 : decode cX11_of 75 = .ok (.ireturn, 1) := by decide +kernel
theorem dX11_of_76 : decode cX11_of 76 = .ok (.aload_n 3, 1) := by decide +kernel
theorem dX11_of_77 : decode cX11_of 77 = .ok (.getfield 336, 3) := by decide +kernel
theorem dX11_of_80 : decode cX11_of 80 = .ok (.invokestatic 112, 3) := by decide +kernel
theorem dX11_of_83 : decode cX11_of 83 = .ok (.ireturn, 1) := by decide +kernel
theorem dX11_of_84 : decode cX11_of 84 = .ok (.aload_n 0, 1) := by decide +kernel
theorem dX11_of_85 : decode cX11_of 85 = .ok (.bipush 10, 2) := by decide +kernel
theorem dX11_of_87 : decode cX11_of 87 = .ok (.iload_n 1, 1) := by decide +kernel
theorem dX11_of_88 : decode cX11_of 88 = .ok (.iadd, 1) := by decide +kernel
theorem dX11_of_89 : decode cX11_of 89 = .ok (.invokevirtual 162, 3) := by decide +kernel
theorem dX11_of_92 : decode cX11_of 92 = .ok (.ireturn, 1) := by decide +kernel
theorem dX11_of_93 : decode cX11_of 93 = .ok (.aload_n 0, 1) := by decide +kernel
theorem dX11_of_94 : decode cX11_of 94 = .ok (.bipush 10, 2) := by decide +kernel
theorem dX11_of_96 : decode cX11_of 96 = .ok (.iload_n 1, 1) := by decide +kernel
theorem dX11_of_97 : decode cX11_of 97 = .ok (.iadd, 1) := by decide +kernel
theorem dX11_of_98 : decode cX11_of 98 = .ok (.invokevirtual 339, 3) := by decide +kernel
theorem dX11_of_101 : decode cX11_of 101 = .ok (.ireturn, 1) := by decide +kernel
theorem dX11_of_102 : decode cX11_of 102 = .ok (.bipush (-2), 2) := by decide +kernel
theorem dX11_of_104 : decode cX11_of 104 = .ok (.ireturn, 1) := by decide +kernel
theorem dX11_spare_0 : decode cX11_spare 0 = .ok (.aload_n 0, 1) := by decide +kernel
theorem dX11_spare_1 : decode cX11_spare 1 = .ok (.iload_n 1, 1) := by decide +kernel
theorem dX11_spare_2 : decode cX11_spare 2 = .ok (.invokevirtual 320, 3) := by decide +kernel
theorem dX11_spare_5 : decode cX11_spare 5 = .ok (.astore_n 3, 1) := by decide +kernel
theorem dX11_spare_6 : decode cX11_spare 6 = .ok (.aload_n 3, 1) := by decide +kernel
theorem dX11_spare_7 : decode cX11_spare 7 = .ok (.ifnonnull 5, 3) := by decide +kernel
theorem dX11_spare_10 : decode cX11_spare 10 = .ok (.iconst (-1), 1) := by decide +kernel
theorem dX11_spare_11 : decode cX11_spare 11 = .ok (.ireturn, 1) := by decide +kernel
theorem dX11_spare_12 : decode cX11_spare 12 = .ok (.iload_n 2, 1) := by decide +kernel
theorem dX11_spare_13 : decode cX11_spare 13 = .ok (.invokestatic 342, 3) := by decide +kernel
theorem dX11_spare_16 : decode cX11_spare 16 = .ok (.ifCond .ne 6, 3) := by decide +kernel
theorem dX11_spare_19 : decode cX11_spare 19 = .ok (.bipush (-2), 2) := by decide +kernel
theorem dX11_spare_21 : decode cX11_spare 21 = .ok (.ireturn, 1) := by decide +kernel
theorem dX11_spare_22 : decode cX11_spare 22 = .ok (.aload_n 3, 1) := by decide +kernel
theorem dX11_spare_23 : decode cX11_spare 23 = .ok (.getfield 324, 3) := by decide +kernel
theorem dX11_spare_26 : decode cX11_spare 26 = .ok (.ifCond .ne 6, 3) := by decide +kernel
theorem dX11_spare_29 : decode cX11_spare 29 = .ok (.bipush (-3), 2) := by decide +kernel
theorem dX11_spare_31 : decode cX11_spare 31 = .ok (.ireturn, 1) := by decide +kernel
theorem dX11_spare_32 : decode cX11_spare 32 = .ok (.aload_n 3, 1) := by decide +kernel
theorem dX11_spare_33 : decode cX11_spare 33 = .ok (.aload_n 0, 1) := by decide +kernel
theorem dX11_spare_34 : decode cX11_spare 34 = .ok (.bipush 10, 2) := by decide +kernel
theorem dX11_spare_36 : decode cX11_spare 36 = .ok (.iload_n 1, 1) := by decide +kernel
theorem dX11_spare_37 : decode cX11_spare 37 = .ok (.iadd, 1) := by decide +kernel
theorem dX11_spare_38 : decode cX11_spare 38 = .ok (.invokevirtual 162, 3) := by decide +kernel
theorem dX11_spare_41 : decode cX11_spare 41 = .ok (.iload_n 2, 1) := by decide +kernel
theorem dX11_spare_42 : decode cX11_spare 42 = .ok (.invokestatic 345, 3) := by decide +kernel
theorem dX11_spare_45 : decode cX11_spare 45 = .ok (.ireturn, 1) := by decide +kernel
theorem dX11_board_0 : decode cX11_board 0 = .ok (.aload_n 0, 1) := by decide +kernel
theorem dX11_board_1 : decode cX11_board 1 = .ok (.iload_n 1, 1) := by decide +kernel
theorem dX11_board_2 : decode cX11_board 2 = .ok (.invokevirtual 123, 3) := by decide +kernel
theorem dX11_board_5 : decode cX11_board 5 = .ok (.astore_n 3, 1) := by decide +kernel
theorem dX11_board_6 : decode cX11_board 6 = .ok (.aload_n 0, 1) := by decide +kernel
theorem dX11_board_7 : decode cX11_board 7 = .ok (.iload_n 2, 1) := by decide +kernel
theorem dX11_board_8 : decode cX11_board 8 = .ok (.invokevirtual 320, 3) := by decide +kernel
theorem dX11_board_11 : decode cX11_board 11 = .ok (.astore 4, 2) := by decide +kernel
theorem dX11_board_13 : decode cX11_board 13 = .ok (.aload_n 3, 1) := by decide +kernel
theorem dX11_board_14 : decode cX11_board 14 = .ok (.ifnull 8, 3) := by decide +kernel
theorem dX11_board_17 : decode cX11_board 17 = .ok (.aload 4, 2) := by decide +kernel
theorem dX11_board_19 : decode cX11_board 19 = .ok (.ifnonnull 5, 3) := by decide +kernel
theorem dX11_board_22 : decode cX11_board 22 = .ok (.iconst (-1), 1) := by decide +kernel
theorem dX11_board_23 : decode cX11_board 23 = .ok (.ireturn, 1) := by decide +kernel
theorem dX11_board_24 : decode cX11_board 24 = .ok (.aload_n 3, 1) := by decide +kernel
theorem dX11_board_25 : decode cX11_board 25 = .ok (.getfield 178, 3) := by decide +kernel
theorem dX11_board_28 : decode cX11_board 28 = .ok (.invokestatic 349, 3) := by decide +kernel
theorem dX11_board_31 : decode cX11_board 31 = .ok (.ifCond .eq 11, 3) := by decide +kernel
theorem dX11_board_34 : decode cX11_board 34 = .ok (.aload 4, 2) := by decide +kernel
theorem dX11_board_36 : decode cX11_board 36 = .ok (.getfield 336, 3) := by decide +kernel
theorem dX11_board_39 : decode cX11_board 39 = .ok (.ifCond .ne 6, 3) := by decide +kernel
theorem dX11_board_42 : decode cX11_board 42 = .ok (.bipush (-3), 2) := by decide +kernel
theorem dX11_board_44 : decode cX11_board 44 = .ok (.ireturn, 1) := by decide +kernel
theorem dX11_board_45 : decode cX11_board 45 = .ok (.aload_n 0, 1) := by decide +kernel
theorem dX11_board_46 : decode cX11_board 46 = .ok (.bipush 10, 2) := by decide +kernel
theorem dX11_board_48 : decode cX11_board 48 = .ok (.iload_n 2, 1) := by decide +kernel
theorem dX11_board_49 : decode cX11_board 49 = .ok (.iadd, 1) := by decide +kernel
theorem dX11_board_50 : decode cX11_board 50 = .ok (.invokevirtual 162, 3) := by decide +kernel
theorem dX11_board_53 : decode cX11_board 53 = .ok (.istore 5, 2) := by decide +kernel
theorem dX11_board_55 : decode cX11_board 55 = .ok (.iload 5, 2) := by decide +kernel
theorem dX11_board_57 : decode cX11_board 57 = .ok (.iconst 2, 1) := by decide +kernel
theorem dX11_board_58 : decode cX11_board 58 = .ok (.aload 4, 2) := by decide +kernel
theorem dX11_board_60 : decode cX11_board 60 = .ok (.getfield 327, 3) := by decide +kernel
theorem dX11_board_63 : decode cX11_board 63 = .ok (.imul, 1) := by decide +kernel
theorem dX11_board_64 : decode cX11_board 64 = .ok (.if_icmp .lt 6, 3) := by decide +kernel
theorem dX11_board_67 : decode cX11_board 67 = .ok (.bipush (-4), 2) := by decide +kernel
theorem dX11_board_69 : decode cX11_board 69 = .ok (.ireturn, 1) := by decide +kernel
theorem dX11_board_70 : decode cX11_board 70 = .ok (.aload_n 3, 1) := by decide +kernel
theorem dX11_board_71 : decode cX11_board 71 = .ok (.bipush 10, 2) := by decide +kernel
theorem dX11_board_73 : decode cX11_board 73 = .ok (.iload_n 2, 1) := by decide +kernel
theorem dX11_board_74 : decode cX11_board 74 = .ok (.iadd, 1) := by decide +kernel
theorem dX11_board_75 : decode cX11_board 75 = .ok (.aload_n 0, 1) := by decide +kernel
theorem dX11_board_76 : decode cX11_board 76 = .ok (.getfield 152, 3) := by decide +kernel
theorem dX11_board_79 : decode cX11_board 79 = .ok (.invokevirtual 184, 3) := by decide +kernel
theorem dX11_board_82 : decode cX11_board 82 = .ok (.pop, 1) := by decide +kernel
theorem dX11_board_83 : decode cX11_board 83 = .ok (.iload 5, 2) := by decide +kernel
theorem dX11_board_85 : decode cX11_board 85 = .ok (.iconst 1, 1) := by decide +kernel
theorem dX11_board_86 : decode cX11_board 86 = .ok (.iadd, 1) := by decide +kernel
theorem dX11_board_87 : decode cX11_board 87 = .ok (.ireturn, 1) := by decide +kernel
theorem dX11_turn_0 : decode cX11_turn 0 = .ok (.aload_n 0, 1) := by decide +kernel
theorem dX11_turn_1 : decode cX11_turn 1 = .ok (.iload_n 1, 1) := by decide +kernel
theorem dX11_turn_2 : decode cX11_turn 2 = .ok (.invokevirtual 123, 3) := by decide +kernel
theorem dX11_turn_5 : decode cX11_turn 5 = .ok (.astore_n 3, 1) := by decide +kernel
theorem dX11_turn_6 : decode cX11_turn 6 = .ok (.aload_n 0, 1) := by decide +kernel
theorem dX11_turn_7 : decode cX11_turn 7 = .ok (.iload_n 2, 1) := by decide +kernel
theorem dX11_turn_8 : decode cX11_turn 8 = .ok (.invokevirtual 320, 3) := by decide +kernel
theorem dX11_turn_11 : decode cX11_turn 11 = .ok (.astore 4, 2) := by decide +kernel
theorem dX11_turn_13 : decode cX11_turn 13 = .ok (.aload_n 3, 1) := by decide +kernel
theorem dX11_turn_14 : decode cX11_turn 14 = .ok (.ifnull 8, 3) := by decide +kernel
theorem dX11_turn_17 : decode cX11_turn 17 = .ok (.aload 4, 2) := by decide +kernel
theorem dX11_turn_19 : decode cX11_turn 19 = .ok (.ifnonnull 5, 3) := by decide +kernel
theorem dX11_turn_22 : decode cX11_turn 22 = .ok (.iconst (-1), 1) := by decide +kernel
theorem dX11_turn_23 : decode cX11_turn 23 = .ok (.ireturn, 1) := by decide +kernel
theorem dX11_turn_24 : decode cX11_turn 24 = .ok (.aload_n 3, 1) := by decide +kernel
theorem dX11_turn_25 : decode cX11_turn 25 = .ok (.getfield 178, 3) := by decide +kernel
theorem dX11_turn_28 : decode cX11_turn 28 = .ok (.bipush 20, 2) := by decide +kernel
theorem dX11_turn_30 : decode cX11_turn 30 = .ok (.if_icmp .eq 14, 3) := by decide +kernel
theorem dX11_turn_33 : decode cX11_turn 33 = .ok (.aload_n 0, 1) := by decide +kernel
theorem dX11_turn_34 : decode cX11_turn 34 = .ok (.aload_n 3, 1) := by decide +kernel
theorem dX11_turn_35 : decode cX11_turn 35 = .ok (.getfield 178, 3) := by decide +kernel
theorem dX11_turn_38 : decode cX11_turn 38 = .ok (.invokevirtual 293, 3) := by decide +kernel
theorem dX11_turn_41 : decode cX11_turn 41 = .ok (.ifCond .eq 7, 3) := by decide +kernel
theorem dX11_turn_44 : decode cX11_turn 44 = .ok (.iconst 1, 1) := by decide +kernel
theorem dX11_turn_45 : decode cX11_turn 45 = .ok (.goto 4, 3) := by decide +kernel
theorem dX11_turn_48 : decode cX11_turn 48 = .ok (.iconst 0, 1) := by decide +kernel
theorem dX11_turn_49 : decode cX11_turn 49 = .ok (.istore 5, 2) := by decide +kernel
theorem dX11_turn_51 : decode cX11_turn 51 = .ok (.iload 5, 2) := by decide +kernel
theorem dX11_turn_53 : decode cX11_turn 53 = .ok (.ifCond .eq 22, 3) := by decide +kernel
theorem dX11_turn_56 : decode cX11_turn 56 = .ok (.aload_n 3, 1) := by decide +kernel
theorem dX11_turn_57 : decode cX11_turn 57 = .ok (.getfield 178, 3) := by decide +kernel
theorem dX11_turn_60 : decode cX11_turn 60 = .ok (.bipush 10, 2) := by decide +kernel
theorem dX11_turn_62 : decode cX11_turn 62 = .ok (.iload_n 2, 1) := by decide +kernel
theorem dX11_turn_63 : decode cX11_turn 63 = .ok (.iadd, 1) := by decide +kernel
theorem dX11_turn_64 : decode cX11_turn 64 = .ok (.if_icmp .eq 11, 3) := by decide +kernel
theorem dX11_turn_67 : decode cX11_turn 67 = .ok (.aload 4, 2) := by decide +kernel
theorem dX11_turn_69 : decode cX11_turn 69 = .ok (.getfield 336, 3) := by decide +kernel
theorem dX11_turn_72 : decode cX11_turn 72 = .ok (.ifCond .ne 6, 3) := by decide +kernel
theorem dX11_turn_75 : decode cX11_turn 75 = .ok (.bipush (-3), 2) := by decide +kernel
theorem dX11_turn_77 : decode cX11_turn 77 = .ok (.ireturn, 1) := by decide +kernel
theorem dX11_turn_78 : decode cX11_turn 78 = .ok (.aload_n 0, 1) := by decide +kernel
theorem dX11_turn_79 : decode cX11_turn 79 = .ok (.bipush 10, 2) := by decide +kernel
theorem dX11_turn_81 : decode cX11_turn 81 = .ok (.iload_n 2, 1) := by decide +kernel
theorem dX11_turn_82 : decode cX11_turn 82 = .ok (.iadd, 1) := by decide +kernel
theorem dX11_turn_83 : decode cX11_turn 83 = .ok (.invokevirtual 162, 3) := by decide +kernel
theorem dX11_turn_86 : decode cX11_turn 86 = .ok (.iconst 2, 1) := by decide +kernel
theorem dX11_turn_87 : decode cX11_turn 87 = .ok (.aload 4, 2) := by decide +kernel
theorem dX11_turn_89 : decode cX11_turn 89 = .ok (.getfield 327, 3) := by decide +kernel
theorem dX11_turn_92 : decode cX11_turn 92 = .ok (.imul, 1) := by decide +kernel
theorem dX11_turn_93 : decode cX11_turn 93 = .ok (.if_icmp .lt 6, 3) := by decide +kernel
theorem dX11_turn_96 : decode cX11_turn 96 = .ok (.bipush (-4), 2) := by decide +kernel
theorem dX11_turn_98 : decode cX11_turn 98 = .ok (.ireturn, 1) := by decide +kernel
theorem dX11_turn_99 : decode cX11_turn 99 = .ok (.aload_n 3, 1) := by decide +kernel
theorem dX11_turn_100 : decode cX11_turn 100 = .ok (.bipush 10, 2) := by decide +kernel
theorem dX11_turn_102 : decode cX11_turn 102 = .ok (.iload_n 2, 1) := by decide +kernel
theorem dX11_turn_103 : decode cX11_turn 103 = .ok (.iadd, 1) := by decide +kernel
theorem dX11_turn_104 : decode cX11_turn 104 = .ok (.aload_n 0, 1) := by decide +kernel
theorem dX11_turn_105 : decode cX11_turn 105 = .ok (.getfield 152, 3) := by decide +kernel
theorem dX11_turn_108 : decode cX11_turn 108 = .ok (.invokevirtual 184, 3) := by decide +kernel
theorem dX11_turn_111 : decode cX11_turn 111 = .ok (.ireturn, 1) := by decide +kernel
theorem dX11_notAshore_0 : decode cX11_notAshore 0 = .ok (.aload_n 0, 1) := by decide +kernel
theorem dX11_notAshore_1 : decode cX11_notAshore 1 = .ok (.iload_n 1, 1) := by decide +kernel
theorem dX11_notAshore_2 : decode cX11_notAshore 2 = .ok (.invokevirtual 123, 3) := by decide +kernel
theorem dX11_notAshore_5 : decode cX11_notAshore 5 = .ok (.astore_n 3, 1) := by decide +kernel
theorem dX11_notAshore_6 : decode cX11_notAshore 6 = .ok (.aload_n 3, 1) := by decide +kernel
theorem dX11_notAshore_7 : decode cX11_notAshore 7 = .ok (.ifnonnull 5, 3) := by decide +kernel
theorem dX11_notAshore_10 : decode cX11_notAshore 10 = .ok (.iconst (-1), 1) := by decide +kernel
theorem dX11_notAshore_11 : decode cX11_notAshore 11 = .ok (.ireturn, 1) := by decide +kernel
theorem dX11_notAshore_12 : decode cX11_notAshore 12 = .ok (.iload_n 2, 1) := by decide +kernel
theorem dX11_notAshore_13 : decode cX11_notAshore 13 = .ok (.iconst 0, 1) := by decide +kernel
theorem dX11_notAshore_14 : decode cX11_notAshore 14 = .ok (.aload_n 0, 1) := by decide +kernel
theorem dX11_notAshore_15 : decode cX11_notAshore 15 = .ok (.getfield 152, 3) := by decide +kernel
theorem dX11_notAshore_18 : decode cX11_notAshore 18 = .ok (.invokestatic 90, 3) := by decide +kernel
theorem dX11_notAshore_21 : decode cX11_notAshore 21 = .ok (.ifCond .ne 6, 3) := by decide +kernel
theorem dX11_notAshore_24 : decode cX11_notAshore 24 = .ok (.bipush (-2), 2) := by decide +kernel
theorem dX11_notAshore_26 : decode cX11_notAshore 26 = .ok (.ireturn, 1) := by decide +kernel
theorem dX11_notAshore_27 : decode cX11_notAshore 27 = .ok (.aload_n 3, 1) := by decide +kernel
theorem dX11_notAshore_28 : decode cX11_notAshore 28 = .ok (.iload_n 2, 1) := by decide +kernel
theorem dX11_notAshore_29 : decode cX11_notAshore 29 = .ok (.invokevirtual 352, 3) := by decide +kernel
theorem dX11_notAshore_32 : decode cX11_notAshore 32 = .ok (.ireturn, 1) := by decide +kernel
theorem dX11_taken_0 : decode cX11_taken 0 = .ok (.aload_n 0, 1) := by decide +kernel
theorem dX11_taken_1 : decode cX11_taken 1 = .ok (.invokevirtual 355, 3) := by decide +kernel
theorem dX11_taken_4 : decode cX11_taken 4 = .ok (.istore_n 3, 1) := by decide +kernel
theorem dX11_taken_5 : decode cX11_taken 5 = .ok (.iload_n 2, 1) := by decide +kernel
theorem dX11_taken_6 : decode cX11_taken 6 = .ok (.invokestatic 342, 3) := by decide +kernel
theorem dX11_taken_9 : decode cX11_taken 9 = .ok (.ifCond .eq 11, 3) := by decide +kernel
theorem dX11_taken_12 : decode cX11_taken 12 = .ok (.iload_n 1, 1) := by decide +kernel
theorem dX11_taken_13 : decode cX11_taken 13 = .ok (.iload_n 3, 1) := by decide +kernel
theorem dX11_taken_14 : decode cX11_taken 14 = .ok (.iconst (-1), 1) := by decide +kernel
theorem dX11_taken_15 : decode cX11_taken 15 = .ok (.ixor, 1) := by decide +kernel
theorem dX11_taken_16 : decode cX11_taken 16 = .ok (.iand, 1) := by decide +kernel
theorem dX11_taken_17 : decode cX11_taken 17 = .ok (.ifCond .eq 6, 3) := by decide +kernel
theorem dX11_taken_20 : decode cX11_taken 20 = .ok (.bipush (-2), 2) := by decide +kernel
theorem dX11_taken_22 : decode cX11_taken 22 = .ok (.ireturn, 1) := by decide +kernel
theorem dX11_taken_23 : decode cX11_taken 23 = .ok (.aload_n 0, 1) := by decide +kernel
theorem dX11_taken_24 : decode cX11_taken 24 = .ok (.iload_n 2, 1) := by decide +kernel
theorem dX11_taken_25 : decode cX11_taken 25 = .ok (.invokevirtual 358, 3) := by decide +kernel
theorem dX11_taken_28 : decode cX11_taken 28 = .ok (.aload_n 0, 1) := by decide +kernel
theorem dX11_taken_29 : decode cX11_taken 29 = .ok (.iload_n 1, 1) := by decide +kernel
theorem dX11_taken_30 : decode cX11_taken 30 = .ok (.invokevirtual 361, 3) := by decide +kernel
theorem dX11_taken_33 : decode cX11_taken 33 = .ok (.ireturn, 1) := by decide +kernel
theorem dX11_fleet_0 : decode cX11_fleet 0 = .ok (.iload_n 1, 1) := by decide +kernel
theorem dX11_fleet_1 : decode cX11_fleet 1 = .ok (.invokestatic 342, 3) := by decide +kernel
theorem dX11_fleet_4 : decode cX11_fleet 4 = .ok (.ifCond .ne 6, 3) := by decide +kernel
theorem dX11_fleet_7 : decode cX11_fleet 7 = .ok (.bipush (-2), 2) := by decide +kernel
theorem dX11_fleet_9 : decode cX11_fleet 9 = .ok (.ireturn, 1) := by decide +kernel
theorem dX11_fleet_10 : decode cX11_fleet 10 = .ok (.aload_n 0, 1) := by decide +kernel
theorem dX11_fleet_11 : decode cX11_fleet 11 = .ok (.iload_n 1, 1) := by decide +kernel
theorem dX11_fleet_12 : decode cX11_fleet 12 = .ok (.invokevirtual 358, 3) := by decide +kernel
theorem dX11_fleet_15 : decode cX11_fleet 15 = .ok (.aload_n 0, 1) := by decide +kernel
theorem dX11_fleet_16 : decode cX11_fleet 16 = .ok (.invokevirtual 355, 3) := by decide +kernel
theorem dX11_fleet_19 : decode cX11_fleet 19 = .ok (.istore_n 2, 1) := by decide +kernel
theorem dX11_fleet_20 : decode cX11_fleet 20 = .ok (.iconst 0, 1) := by decide +kernel
theorem dX11_fleet_21 : decode cX11_fleet 21 = .ok (.istore_n 3, 1) := by decide +kernel
theorem dX11_fleet_22 : decode cX11_fleet 22 = .ok (.iconst 0, 1) := by decide +kernel
theorem dX11_fleet_23 : decode cX11_fleet 23 = .ok (.istore 4, 2) := by decide +kernel
theorem dX11_fleet_25 : decode cX11_fleet 25 = .ok (.iconst 0, 1) := by decide +kernel
theorem dX11_fleet_26 : decode cX11_fleet 26 = .ok (.istore 5, 2) := by decide +kernel
theorem dX11_fleet_28 : decode cX11_fleet 28 = .ok (.iconst 1, 1) := by decide +kernel
theorem dX11_fleet_29 : decode cX11_fleet 29 = .ok (.istore 6, 2) := by decide +kernel
theorem dX11_fleet_31 : decode cX11_fleet 31 = .ok (.iload 6, 2) := by decide +kernel
theorem dX11_fleet_33 : decode cX11_fleet 33 = .ok (.iload_n 2, 1) := by decide +kernel
theorem dX11_fleet_34 : decode cX11_fleet 34 = .ok (.if_icmp .gt 75, 3) := by decide +kernel
theorem dX11_fleet_37 : decode cX11_fleet 37 = .ok (.iload 6, 2) := by decide +kernel
theorem dX11_fleet_39 : decode cX11_fleet 39 = .ok (.invokestatic 364, 3) := by decide +kernel
theorem dX11_fleet_42 : decode cX11_fleet 42 = .ok (.istore 7, 2) := by decide +kernel
theorem dX11_fleet_44 : decode cX11_fleet 44 = .ok (.iload 6, 2) := by decide +kernel
theorem dX11_fleet_46 : decode cX11_fleet 46 = .ok (.iload_n 2, 1) := by decide +kernel
theorem dX11_fleet_47 : decode cX11_fleet 47 = .ok (.iconst (-1), 1) := by decide +kernel
theorem dX11_fleet_48 : decode cX11_fleet 48 = .ok (.ixor, 1) := by decide +kernel
theorem dX11_fleet_49 : decode cX11_fleet 49 = .ok (.iand, 1) := by decide +kernel
theorem dX11_fleet_50 : decode cX11_fleet 50 = .ok (.ifCond .ne 53, 3) := by decide +kernel
theorem dX11_fleet_53 : decode cX11_fleet 53 = .ok (.iload 7, 2) := by decide +kernel
theorem dX11_fleet_55 : decode cX11_fleet 55 = .ok (.iload 4, 2) := by decide +kernel
theorem dX11_fleet_57 : decode cX11_fleet 57 = .ok (.if_icmp .ge 6, 3) := by decide +kernel
theorem dX11_fleet_60 : decode cX11_fleet 60 = .ok (.goto 43, 3) := by decide +kernel
theorem dX11_fleet_63 : decode cX11_fleet 63 = .ok (.aload_n 0, 1) := by decide +kernel
theorem dX11_fleet_64 : decode cX11_fleet 64 = .ok (.iload 6, 2) := by decide +kernel
theorem dX11_fleet_66 : decode cX11_fleet 66 = .ok (.invokevirtual 361, 3) := by decide +kernel
theorem dX11_fleet_69 : decode cX11_fleet 69 = .ok (.istore 8, 2) := by decide +kernel
theorem dX11_fleet_71 : decode cX11_fleet 71 = .ok (.iload 8, 2) := by decide +kernel
theorem dX11_fleet_73 : decode cX11_fleet 73 = .ok (.bipush (-9), 2) := by decide +kernel
theorem dX11_fleet_75 : decode cX11_fleet 75 = .ok (.if_icmp .eq 28, 3) := by decide +kernel
theorem dX11_fleet_78 : decode cX11_fleet 78 = .ok (.iload 7, 2) := by decide +kernel
theorem dX11_fleet_80 : decode cX11_fleet 80 = .ok (.iload 4, 2) := by decide +kernel
theorem dX11_fleet_82 : decode cX11_fleet 82 = .ok (.if_icmp .gt 10, 3) := by decide +kernel
theorem dX11_fleet_85 : decode cX11_fleet 85 = .ok (.iload 8, 2) := by decide +kernel
theorem dX11_fleet_87 : decode cX11_fleet 87 = .ok (.iload 5, 2) := by decide +kernel
theorem dX11_fleet_89 : decode cX11_fleet 89 = .ok (.if_icmp .ge 14, 3) := by decide +kernel
theorem dX11_fleet_92 : decode cX11_fleet 92 = .ok (.iload 6, 2) := by decide +kernel
theorem dX11_fleet_94 : decode cX11_fleet 94 = .ok (.istore_n 3, 1) := by decide +kernel
theorem dX11_fleet_95 : decode cX11_fleet 95 = .ok (.iload 7, 2) := by decide +kernel
theorem dX11_fleet_97 : decode cX11_fleet 97 = .ok (.istore 4, 2) := by decide +kernel
theorem dX11_fleet_99 : decode cX11_fleet 99 = .ok (.iload 8, 2) := by decide +kernel
theorem dX11_fleet_101 : decode cX11_fleet 101 = .ok (.istore 5, 2) := by decide +kernel
theorem dX11_fleet_103 : decode cX11_fleet 103 = .ok (.iinc 6 1, 3) := by decide +kernel
theorem dX11_fleet_106 : decode cX11_fleet 106 = .ok (.goto (-75), 3) := by decide +kernel
theorem dX11_fleet_109 : decode cX11_fleet 109 = .ok (.iload_n 3, 1) := by decide +kernel
theorem dX11_fleet_110 : decode cX11_fleet 110 = .ok (.ireturn, 1) := by decide +kernel
theorem dX11_sail_0 : decode cX11_sail 0 = .ok (.aload_n 0, 1) := by decide +kernel
theorem dX11_sail_1 : decode cX11_sail 1 = .ok (.iload_n 1, 1) := by decide +kernel
theorem dX11_sail_2 : decode cX11_sail 2 = .ok (.invokevirtual 320, 3) := by decide +kernel
theorem dX11_sail_5 : decode cX11_sail 5 = .ok (.astore_n 2, 1) := by decide +kernel
theorem dX11_sail_6 : decode cX11_sail 6 = .ok (.aload_n 2, 1) := by decide +kernel
theorem dX11_sail_7 : decode cX11_sail 7 = .ok (.ifnonnull 5, 3) := by decide +kernel
theorem dX11_sail_10 : decode cX11_sail 10 = .ok (.iconst (-1), 1) := by decide +kernel
theorem dX11_sail_11 : decode cX11_sail 11 = .ok (.ireturn, 1) := by decide +kernel
theorem dX11_sail_12 : decode cX11_sail 12 = .ok (.aload_n 0, 1) := by decide +kernel
theorem dX11_sail_13 : decode cX11_sail 13 = .ok (.bipush 10, 2) := by decide +kernel
theorem dX11_sail_15 : decode cX11_sail 15 = .ok (.iload_n 1, 1) := by decide +kernel
theorem dX11_sail_16 : decode cX11_sail 16 = .ok (.iadd, 1) := by decide +kernel
theorem dX11_sail_17 : decode cX11_sail 17 = .ok (.invokevirtual 162, 3) := by decide +kernel
theorem dX11_sail_20 : decode cX11_sail 20 = .ok (.istore_n 3, 1) := by decide +kernel
theorem dX11_sail_21 : decode cX11_sail 21 = .ok (.aload_n 2, 1) := by decide +kernel
theorem dX11_sail_22 : decode cX11_sail 22 = .ok (.getfield 336, 3) := by decide +kernel
theorem dX11_sail_25 : decode cX11_sail 25 = .ok (.ifCond .eq 26, 3) := by decide +kernel
theorem dX11_sail_28 : decode cX11_sail 28 = .ok (.iload_n 3, 1) := by decide +kernel
theorem dX11_sail_29 : decode cX11_sail 29 = .ok (.aload_n 2, 1) := by decide +kernel
theorem dX11_sail_30 : decode cX11_sail 30 = .ok (.getfield 327, 3) := by decide +kernel
theorem dX11_sail_33 : decode cX11_sail 33 = .ok (.if_icmp .lt 18, 3) := by decide +kernel
theorem dX11_sail_36 : decode cX11_sail 36 = .ok (.aload_n 0, 1) := by decide +kernel
theorem dX11_sail_37 : decode cX11_sail 37 = .ok (.bipush 10, 2) := by decide +kernel
theorem dX11_sail_39 : decode cX11_sail 39 = .ok (.iload_n 1, 1) := by decide +kernel
theorem dX11_sail_40 : decode cX11_sail 40 = .ok (.iadd, 1) := by decide +kernel
theorem dX11_sail_41 : decode cX11_sail 41 = .ok (.invokevirtual 339, 3) := by decide +kernel
theorem dX11_sail_44 : decode cX11_sail 44 = .ok (.aload_n 2, 1) := by decide +kernel
theorem dX11_sail_45 : decode cX11_sail 45 = .ok (.getfield 330, 3) := by decide +kernel
theorem dX11_sail_48 : decode cX11_sail 48 = .ok (.if_icmp .ge 6, 3) := by decide +kernel
theorem dX11_sail_51 : decode cX11_sail 51 = .ok (.bipush (-3), 2) := by decide +kernel
theorem dX11_sail_53 : decode cX11_sail 53 = .ok (.ireturn, 1) := by decide +kernel
theorem dX11_sail_54 : decode cX11_sail 54 = .ok (.aload_n 2, 1) := by decide +kernel
theorem dX11_sail_55 : decode cX11_sail 55 = .ok (.iconst 0, 1) := by decide +kernel
theorem dX11_sail_56 : decode cX11_sail 56 = .ok (.putfield 336, 3) := by decide +kernel
theorem dX11_sail_59 : decode cX11_sail 59 = .ok (.iload_n 3, 1) := by decide +kernel
theorem dX11_sail_60 : decode cX11_sail 60 = .ok (.ireturn, 1) := by decide +kernel
theorem dX11_comeHome_0 : decode cX11_comeHome 0 = .ok (.aload_n 0, 1) := by decide +kernel
theorem dX11_comeHome_1 : decode cX11_comeHome 1 = .ok (.iload_n 1, 1) := by decide +kernel
theorem dX11_comeHome_2 : decode cX11_comeHome 2 = .ok (.invokevirtual 320, 3) := by decide +kernel
theorem dX11_comeHome_5 : decode cX11_comeHome 5 = .ok (.astore_n 2, 1) := by decide +kernel
theorem dX11_comeHome_6 : decode cX11_comeHome 6 = .ok (.aload_n 2, 1) := by decide +kernel
theorem dX11_comeHome_7 : decode cX11_comeHome 7 = .ok (.ifnonnull 5, 3) := by decide +kernel
theorem dX11_comeHome_10 : decode cX11_comeHome 10 = .ok (.iconst (-1), 1) := by decide +kernel
theorem dX11_comeHome_11 : decode cX11_comeHome 11 = .ok (.ireturn, 1) := by decide +kernel
theorem dX11_comeHome_12 : decode cX11_comeHome 12 = .ok (.aload_n 2, 1) := by decide +kernel
theorem dX11_comeHome_13 : decode cX11_comeHome 13 = .ok (.getfield 336, 3) := by decide +kernel
theorem dX11_comeHome_16 : decode cX11_comeHome 16 = .ok (.ifCond .eq 6, 3) := by decide +kernel
theorem dX11_comeHome_19 : decode cX11_comeHome 19 = .ok (.bipush (-3), 2) := by decide +kernel
theorem dX11_comeHome_21 : decode cX11_comeHome 21 = .ok (.ireturn, 1) := by decide +kernel
theorem dX11_comeHome_22 : decode cX11_comeHome 22 = .ok (.aload_n 2, 1) := by decide +kernel
theorem dX11_comeHome_23 : decode cX11_comeHome 23 = .ok (.iconst 1, 1) := by decide +kernel
theorem dX11_comeHome_24 : decode cX11_comeHome 24 = .ok (.putfield 336, 3) := by decide +kernel
theorem dX11_comeHome_27 : decode cX11_comeHome 27 = .ok (.aload_n 0, 1) := by decide +kernel
theorem dX11_comeHome_28 : decode cX11_comeHome 28 = .ok (.bipush 10, 2) := by decide +kernel
theorem dX11_comeHome_30 : decode cX11_comeHome 30 = .ok (.iload_n 1, 1) := by decide +kernel
theorem dX11_comeHome_31 : decode cX11_comeHome 31 = .ok (.iadd, 1) := by decide +kernel
theorem dX11_comeHome_32 : decode cX11_comeHome 32 = .ok (.invokevirtual 162, 3) := by decide +kernel
theorem dX11_comeHome_35 : decode cX11_comeHome 35 = .ok (.ireturn, 1) := by decide +kernel
theorem dX11_ticket_0 : decode cX11_ticket 0 = .ok (.aload_n 0, 1) := by decide +kernel
theorem dX11_ticket_1 : decode cX11_ticket 1 = .ok (.iload_n 1, 1) := by decide +kernel
theorem dX11_ticket_2 : decode cX11_ticket 2 = .ok (.invokevirtual 123, 3) := by decide +kernel
theorem dX11_ticket_5 : decode cX11_ticket 5 = .ok (.astore 4, 2) := by decide +kernel
theorem dX11_ticket_7 : decode cX11_ticket 7 = .ok (.aload 4, 2) := by decide +kernel
theorem dX11_ticket_9 : decode cX11_ticket 9 = .ok (.ifnonnull 5, 3) := by decide +kernel
theorem dX11_ticket_12 : decode cX11_ticket 12 = .ok (.iconst (-1), 1) := by decide +kernel
theorem dX11_ticket_13 : decode cX11_ticket 13 = .ok (.ireturn, 1) := by decide +kernel
theorem dX11_ticket_14 : decode cX11_ticket 14 = .ok (.iload_n 2, 1) := by decide +kernel
theorem dX11_ticket_15 : decode cX11_ticket 15 = .ok (.iconst 1, 1) := by decide +kernel
theorem dX11_ticket_16 : decode cX11_ticket 16 = .ok (.bipush 99, 2) := by decide +kernel
theorem dX11_ticket_18 : decode cX11_ticket 18 = .ok (.invokestatic 90, 3) := by decide +kernel
theorem dX11_ticket_21 : decode cX11_ticket 21 = .ok (.ifCond .eq 13, 3) := by decide +kernel
theorem dX11_ticket_24 : decode cX11_ticket 24 = .ok (.iload_n 3, 1) := by decide +kernel
theorem dX11_ticket_25 : decode cX11_ticket 25 = .ok (.iconst 1, 1) := by decide +kernel
theorem dX11_ticket_26 : decode cX11_ticket 26 = .ok (.bipush 50, 2) := by decide +kernel
theorem dX11_ticket_28 : decode cX11_ticket 28 = .ok (.invokestatic 90, 3) := by decide +kernel
theorem dX11_ticket_31 : decode cX11_ticket 31 = .ok (.ifCond .ne 6, 3) := by decide +kernel
theorem dX11_ticket_34 : decode cX11_ticket 34 = .ok (.bipush (-2), 2) := by decide +kernel
theorem dX11_ticket_36 : decode cX11_ticket 36 = .ok (.ireturn, 1) := by decide +kernel
theorem dX11_ticket_37 : decode cX11_ticket 37 = .ok (.aload_n 0, 1) := by decide +kernel
theorem dX11_ticket_38 : decode cX11_ticket 38 = .ok (.getfield 369, 3) := by decide +kernel
theorem dX11_ticket_41 : decode cX11_ticket 41 = .ok (.bipush 40, 2) := by decide +kernel
theorem dX11_ticket_43 : decode cX11_ticket 43 = .ok (.if_icmp .lt 6, 3) := by decide +kernel
theorem dX11_ticket_46 : decode cX11_ticket 46 = .ok (.bipush (-4), 2) := by decide +kernel
theorem dX11_ticket_48 : decode cX11_ticket 48 = .ok (.ireturn, 1) := by decide +kernel
theorem dX11_ticket_49 : decode cX11_ticket 49 = .ok (.aload_n 0, 1) := by decide +kernel
theorem dX11_ticket_50 : decode cX11_ticket 50 = .ok (.getfield 49, 3) := by decide +kernel
theorem dX11_ticket_53 : decode cX11_ticket 53 = .ok (.aload_n 0, 1) := by decide +kernel
theorem dX11_ticket_54 : decode cX11_ticket 54 = .ok (.getfield 369, 3) := by decide +kernel
theorem dX11_ticket_57 : decode cX11_ticket 57 = .ok (.new 47, 3) := by decide +kernel
theorem dX11_ticket_60 : decode cX11_ticket 60 = .ok (.dup, 1) := by decide +kernel
theorem dX11_ticket_61 : decode cX11_ticket 61 = .ok (.iload_n 1, 1) := by decide +kernel
theorem dX11_ticket_62 : decode cX11_ticket 62 = .ok (.iload_n 2, 1) := by decide +kernel
theorem dX11_ticket_63 : decode cX11_ticket 63 = .ok (.iload_n 3, 1) := by decide +kernel
theorem dX11_ticket_64 : decode cX11_ticket 64 = .ok (.imul, 1) := by decide +kernel
theorem dX11_ticket_65 : decode cX11_ticket 65 = .ok (.invokespecial 372, 3) := by decide +kernel
theorem dX11_ticket_68 : decode cX11_ticket 68 = .ok (.aastore, 1) := by decide +kernel
theorem dX11_ticket_69 : decode cX11_ticket 69 = .ok (.aload_n 0, 1) := by decide +kernel
theorem dX11_ticket_70 : decode cX11_ticket 70 = .ok (.dup, 1) := by decide +kernel
theorem dX11_ticket_71 : decode cX11_ticket 71 = .ok (.getfield 369, 3) := by decide +kernel
theorem dX11_ticket_74 : decode cX11_ticket 74 = .ok (.iconst 1, 1) := by decide +kernel
theorem dX11_ticket_75 : decode cX11_ticket 75 = .ok (.iadd, 1) := by decide +kernel
theorem dX11_ticket_76 : decode cX11_ticket 76 = .ok (.putfield 369, 3) := by decide +kernel
theorem dX11_ticket_79 : decode cX11_ticket 79 = .ok (.aload_n 0, 1) := by decide +kernel
theorem dX11_ticket_80 : decode cX11_ticket 80 = .ok (.getfield 369, 3) := by decide +kernel
theorem dX11_ticket_83 : decode cX11_ticket 83 = .ok (.iconst 1, 1) := by decide +kernel
theorem dX11_ticket_84 : decode cX11_ticket 84 = .ok (.isub, 1) := by decide +kernel
theorem dX11_ticket_85 : decode cX11_ticket 85 = .ok (.ireturn, 1) := by decide +kernel
theorem dX11_sell_0 : decode cX11_sell 0 = .ok (.aload_n 0, 1) := by decide +kernel
theorem dX11_sell_1 : decode cX11_sell 1 = .ok (.iload_n 1, 1) := by decide +kernel
theorem dX11_sell_2 : decode cX11_sell 2 = .ok (.invokevirtual 373, 3) := by decide +kernel
theorem dX11_sell_5 : decode cX11_sell 5 = .ok (.astore 4, 2) := by decide +kernel
theorem dX11_sell_7 : decode cX11_sell 7 = .ok (.aload 4, 2) := by decide +kernel
theorem dX11_sell_9 : decode cX11_sell 9 = .ok (.ifnull 10, 3) := by decide +kernel
theorem dX11_sell_12 : decode cX11_sell 12 = .ok (.iload_n 2, 1) := by decide +kernel
theorem dX11_sell_13 : decode cX11_sell 13 = .ok (.invokestatic 377, 3) := by decide +kernel
theorem dX11_sell_16 : decode cX11_sell 16 = .ok (.ifCond .ne 5, 3) := by decide +kernel
theorem dX11_sell_19 : decode cX11_sell 19 = .ok (.iconst (-1), 1) := by decide +kernel
theorem dX11_sell_20 : decode cX11_sell 20 = .ok (.ireturn, 1) := by decide +kernel
theorem dX11_sell_21 : decode cX11_sell 21 = .ok (.iload_n 3, 1) := by decide +kernel
theorem dX11_sell_22 : decode cX11_sell 22 = .ok (.iconst 1, 1) := by decide +kernel
theorem dX11_sell_23 : decode cX11_sell 23 = .ok (.bipush 100, 2) := by decide +kernel
theorem dX11_sell_25 : decode cX11_sell 25 = .ok (.invokestatic 90, 3) := by decide +kernel
theorem dX11_sell_28 : decode cX11_sell 28 = .ok (.ifCond .ne 6, 3) := by decide +kernel
theorem dX11_sell_31 : decode cX11_sell 31 = .ok (.bipush (-2), 2) := by decide +kernel
theorem dX11_sell_33 : decode cX11_sell 33 = .ok (.ireturn, 1) := by decide +kernel
theorem dX11_sell_34 : decode cX11_sell 34 = .ok (.aload 4, 2) := by decide +kernel
theorem dX11_sell_36 : decode cX11_sell 36 = .ok (.getfield 380, 3) := by decide +kernel
theorem dX11_sell_39 : decode cX11_sell 39 = .ok (.ifCond .ne 12, 3) := by decide +kernel
theorem dX11_sell_42 : decode cX11_sell 42 = .ok (.aload 4, 2) := by decide +kernel
theorem dX11_sell_44 : decode cX11_sell 44 = .ok (.getfield 383, 3) := by decide +kernel
theorem dX11_sell_47 : decode cX11_sell 47 = .ok (.iload_n 2, 1) := by decide +kernel
theorem dX11_sell_48 : decode cX11_sell 48 = .ok (.if_icmp .ne 6, 3) := by decide +kernel
theorem dX11_sell_51 : decode cX11_sell 51 = .ok (.bipush (-3), 2) := by decide +kernel
theorem dX11_sell_53 : decode cX11_sell 53 = .ok (.ireturn, 1) := by decide +kernel
theorem dX11_sell_54 : decode cX11_sell 54 = .ok (.aload 4, 2) := by decide +kernel
theorem dX11_sell_56 : decode cX11_sell 56 = .ok (.getfield 386, 3) := by decide +kernel
theorem dX11_sell_59 : decode cX11_sell 59 = .ok (.iload_n 3, 1) := by decide +kernel
theorem dX11_sell_60 : decode cX11_sell 60 = .ok (.imul, 1) := by decide +kernel
theorem dX11_sell_61 : decode cX11_sell 61 = .ok (.bipush 100, 2) := by decide +kernel
theorem dX11_sell_63 : decode cX11_sell 63 = .ok (.idiv, 1) := by decide +kernel
theorem dX11_sell_64 : decode cX11_sell 64 = .ok (.istore 5, 2) := by decide +kernel
theorem dX11_sell_66 : decode cX11_sell 66 = .ok (.aload_n 0, 1) := by decide +kernel
theorem dX11_sell_67 : decode cX11_sell 67 = .ok (.aload 4, 2) := by decide +kernel
theorem dX11_sell_69 : decode cX11_sell 69 = .ok (.aload 4, 2) := by decide +kernel
theorem dX11_sell_71 : decode cX11_sell 71 = .ok (.getfield 383, 3) := by decide +kernel
theorem dX11_sell_74 : decode cX11_sell 74 = .ok (.iload 5, 2) := by decide +kernel
theorem dX11_sell_76 : decode cX11_sell 76 = .ok (.invokevirtual 389, 3) := by decide +kernel
theorem dX11_sell_79 : decode cX11_sell 79 = .ok (.aload_n 0, 1) := by decide +kernel
theorem dX11_sell_80 : decode cX11_sell 80 = .ok (.getfield 53, 3) := by decide +kernel
theorem dX11_sell_83 : decode cX11_sell 83 = .ok (.iload_n 2, 1) := by decide +kernel
theorem dX11_sell_84 : decode cX11_sell 84 = .ok (.dup2, 1) := by decide +kernel
theorem dX11_sell_85 : decode cX11_sell 85 = .ok (.iaload, 1) := by decide +kernel
theorem dX11_sell_86 : decode cX11_sell 86 = .ok (.iload 5, 2) := by decide +kernel
theorem dX11_sell_88 : decode cX11_sell 88 = .ok (.isub, 1) := by decide +kernel
theorem dX11_sell_89 : decode cX11_sell 89 = .ok (.iastore, 1) := by decide +kernel
theorem dX11_sell_90 : decode cX11_sell 90 = .ok (.aload 4, 2) := by decide +kernel
theorem dX11_sell_92 : decode cX11_sell 92 = .ok (.iload_n 2, 1) := by decide +kernel
theorem dX11_sell_93 : decode cX11_sell 93 = .ok (.putfield 383, 3) := by decide +kernel
theorem dX11_sell_96 : decode cX11_sell 96 = .ok (.iload 5, 2) := by decide +kernel
theorem dX11_sell_98 : decode cX11_sell 98 = .ok (.ireturn, 1) := by decide +kernel
theorem dX11_pay_0 : decode cX11_pay 0 = .ok (.aload_n 0, 1) := by decide +kernel
theorem dX11_pay_1 : decode cX11_pay 1 = .ok (.iload_n 1, 1) := by decide +kernel
theorem dX11_pay_2 : decode cX11_pay 2 = .ok (.invokevirtual 373, 3) := by decide +kernel
theorem dX11_pay_5 : decode cX11_pay 5 = .ok (.astore_n 3, 1) := by decide +kernel
theorem dX11_pay_6 : decode cX11_pay 6 = .ok (.aload_n 3, 1) := by decide +kernel
theorem dX11_pay_7 : decode cX11_pay 7 = .ok (.ifnull 16, 3) := by decide +kernel
theorem dX11_pay_10 : decode cX11_pay 10 = .ok (.iload_n 2, 1) := by decide +kernel
theorem dX11_pay_11 : decode cX11_pay 11 = .ok (.bipush (-9), 2) := by decide +kernel
theorem dX11_pay_13 : decode cX11_pay 13 = .ok (.if_icmp .eq 12, 3) := by decide +kernel
theorem dX11_pay_16 : decode cX11_pay 16 = .ok (.iload_n 2, 1) := by decide +kernel
theorem dX11_pay_17 : decode cX11_pay 17 = .ok (.invokestatic 377, 3) := by decide +kernel
theorem dX11_pay_20 : decode cX11_pay 20 = .ok (.ifCond .ne 5, 3) := by decide +kernel
theorem dX11_pay_23 : decode cX11_pay 23 = .ok (.iconst (-1), 1) := by decide +kernel
theorem dX11_pay_24 : decode cX11_pay 24 = .ok (.ireturn, 1) := by decide +kernel
theorem dX11_pay_25 : decode cX11_pay 25 = .ok (.aload_n 3, 1) := by decide +kernel
theorem dX11_pay_26 : decode cX11_pay 26 = .ok (.getfield 380, 3) := by decide +kernel
theorem dX11_pay_29 : decode cX11_pay 29 = .ok (.ifCond .ne 11, 3) := by decide +kernel
theorem dX11_pay_32 : decode cX11_pay 32 = .ok (.aload_n 3, 1) := by decide +kernel
theorem dX11_pay_33 : decode cX11_pay 33 = .ok (.getfield 383, 3) := by decide +kernel
theorem dX11_pay_36 : decode cX11_pay 36 = .ok (.iload_n 2, 1) := by decide +kernel
theorem dX11_pay_37 : decode cX11_pay 37 = .ok (.if_icmp .eq 16, 3) := by decide +kernel
theorem dX11_pay_40 : decode cX11_pay 40 = .ok (.aload_n 3, 1) := by decide +kernel
theorem dX11_pay_41 : decode cX11_pay 41 = .ok (.dup, 1) := by decide +kernel
theorem dX11_pay_42 : decode cX11_pay 42 = .ok (.getfield 393, 3) := by decide +kernel
theorem dX11_pay_45 : decode cX11_pay 45 = .ok (.iconst 1, 1) := by decide +kernel
theorem dX11_pay_46 : decode cX11_pay 46 = .ok (.iadd, 1) := by decide +kernel
theorem dX11_pay_47 : decode cX11_pay 47 = .ok (.putfield 393, 3) := by decide +kernel
theorem dX11_pay_50 : decode cX11_pay 50 = .ok (.goto 8, 3) := by decide +kernel
theorem dX11_pay_53 : decode cX11_pay 53 = .ok (.aload_n 3, 1) := by decide +kernel
theorem dX11_pay_54 : decode cX11_pay 54 = .ok (.iconst 1, 1) := by decide +kernel
theorem dX11_pay_55 : decode cX11_pay 55 = .ok (.putfield 380, 3) := by decide +kernel
theorem dX11_pay_58 : decode cX11_pay 58 = .ok (.aload_n 0, 1) := by decide +kernel
theorem dX11_pay_59 : decode cX11_pay 59 = .ok (.aload_n 3, 1) := by decide +kernel
theorem dX11_pay_60 : decode cX11_pay 60 = .ok (.iload_n 2, 1) := by decide +kernel
theorem dX11_pay_61 : decode cX11_pay 61 = .ok (.aload_n 3, 1) := by decide +kernel
theorem dX11_pay_62 : decode cX11_pay 62 = .ok (.getfield 386, 3) := by decide +kernel
theorem dX11_pay_65 : decode cX11_pay 65 = .ok (.invokevirtual 389, 3) := by decide +kernel
theorem dX11_pay_68 : decode cX11_pay 68 = .ok (.aload_n 3, 1) := by decide +kernel
theorem dX11_pay_69 : decode cX11_pay 69 = .ok (.getfield 386, 3) := by decide +kernel
theorem dX11_pay_72 : decode cX11_pay 72 = .ok (.ireturn, 1) := by decide +kernel
theorem dX11_ticketOf_0 : decode cX11_ticketOf 0 = .ok (.aload_n 0, 1) := by decide +kernel
theorem dX11_ticketOf_1 : decode cX11_ticketOf 1 = .ok (.iload_n 1, 1) := by decide +kernel
theorem dX11_ticketOf_2 : decode cX11_ticketOf 2 = .ok (.invokevirtual 373, 3) := by decide +kernel
theorem dX11_ticketOf_5 : decode cX11_ticketOf 5 = .ok (.astore_n 3, 1) := by decide +kernel
theorem dX11_ticketOf_6 : decode cX11_ticketOf 6 = .ok (.aload_n 3, 1) := by decide +kernel
theorem dX11_ticketOf_7 : decode cX11_ticketOf 7 = .ok (.ifnonnull 5, 3) := by decide +kernel
theorem dX11_ticketOf_10 : decode cX11_ticketOf 10 = .ok (.iconst (-1), 1) := by decide +kernel
theorem dX11_ticketOf_11 : decode cX11_ticketOf 11 = .ok (.ireturn, 1) := by decide +kernel
theorem dX11_ticketOf_12 : decode cX11_ticketOf 12 = .ok (.iload_n 2, 1) := by decide +kernel
theorem dX11_ticketOf_13 : decode cX11_ticketOf 13 = .ok (.tableswitch 54 0 3 #[31, 36, 44, 49], 31) := by decide +kernel
theorem dX11_ticketOf_44 : decode cX11_ticketOf 44 = .ok (.aload_n 3, 1) := by decide +kernel
theorem dX11_ticketOf_45 : decode cX11_ticketOf 45 = .ok (.getfield 383, 3) := by decide +kernel
theorem dX11_ticketOf_48 : decode cX11_ticketOf 48 = .ok (.ireturn, 1) := by decide +kernel
theorem dX11_ticketOf_49 : decode cX11_ticketOf 49 = .ok (.aload_n 3, 1) := by decide +kernel
theorem dX11_ticketOf_50 : decode cX11_ticketOf 50 = .ok (.getfield 380, 3) := by decide +kernel
theorem dX11_ticketOf_53 : decode cX11_ticketOf 53 = .ok (.invokestatic 112, 3) := by decide +kernel
theorem dX11_ticketOf_56 : decode cX11_ticketOf 56 = .ok (.ireturn, 1) := by decide +kernel
theorem dX11_ticketOf_57 : decode cX11_ticketOf 57 = .ok (.aload_n 3, 1) := by decide +kernel
theorem dX11_ticketOf_58 : decode cX11_ticketOf 58 = .ok (.getfield 393, 3) := by decide +kernel
theorem dX11_ticketOf_61 : decode cX11_ticketOf 61 = .ok (.ireturn, 1) := by decide +kernel
theorem dX11_ticketOf_62 : decode cX11_ticketOf 62 = .ok (.aload_n 3, 1) := by decide +kernel
theorem dX11_ticketOf_63 : decode cX11_ticketOf 63 = .ok (.getfield 386, 3) := by decide +kernel
theorem dX11_ticketOf_66 : decode cX11_ticketOf 66 = .ok (.ireturn, 1) := by decide +kernel
theorem dX11_ticketOf_67 : decode cX11_ticketOf 67 = .ok (.bipush (-2), 2) := by decide +kernel
theorem dX11_ticketOf_69 : decode cX11_ticketOf 69 = .ok (.ireturn, 1) := by decide +kernel
theorem dX11_purse_0 : decode cX11_purse 0 = .ok (.iload_n 1, 1) := by decide +kernel
theorem dX11_purse_1 : decode cX11_purse 1 = .ok (.invokestatic 377, 3) := by decide +kernel
theorem dX11_purse_4 : decode cX11_purse 4 = .ok (.ifCond .eq 12, 3) := by decide +kernel
theorem dX11_purse_7 : decode cX11_purse 7 = .ok (.aload_n 0, 1) := by decide +kernel
theorem dX11_purse_8 : decode cX11_purse 8 = .ok (.getfield 53, 3) := by decide +kernel
theorem dX11_purse_11 : decode cX11_purse 11 = .ok (.iload_n 1, 1) := by decide +kernel
theorem dX11_purse_12 : decode cX11_purse 12 = .ok (.iaload, 1) := by decide +kernel
theorem dX11_purse_13 : decode cX11_purse 13 = .ok (.goto 4, 3) := by decide +kernel
theorem dX11_purse_16 : decode cX11_purse 16 = .ok (.iconst (-1), 1) := by decide +kernel
theorem dX11_purse_17 : decode cX11_purse 17 = .ok (.ireturn, 1) := by decide +kernel
theorem dX11_wages_0 : decode cX11_wages 0 = .ok (.aload_n 0, 1) := by decide +kernel
theorem dX11_wages_1 : decode cX11_wages 1 = .ok (.iload_n 1, 1) := by decide +kernel
theorem dX11_wages_2 : decode cX11_wages 2 = .ok (.invokevirtual 123, 3) := by decide +kernel
theorem dX11_wages_5 : decode cX11_wages 5 = .ok (.astore_n 3, 1) := by decide +kernel
theorem dX11_wages_6 : decode cX11_wages 6 = .ok (.aload_n 3, 1) := by decide +kernel
theorem dX11_wages_7 : decode cX11_wages 7 = .ok (.ifnonnull 5, 3) := by decide +kernel
theorem dX11_wages_10 : decode cX11_wages 10 = .ok (.iconst (-1), 1) := by decide +kernel
theorem dX11_wages_11 : decode cX11_wages 11 = .ok (.ireturn, 1) := by decide +kernel
theorem dX11_wages_12 : decode cX11_wages 12 = .ok (.iload_n 2, 1) := by decide +kernel
theorem dX11_wages_13 : decode cX11_wages 13 = .ok (.ifCond .eq 11, 3) := by decide +kernel
theorem dX11_wages_16 : decode cX11_wages 16 = .ok (.aload_n 0, 1) := by decide +kernel
theorem dX11_wages_17 : decode cX11_wages 17 = .ok (.iload_n 1, 1) := by decide +kernel
theorem dX11_wages_18 : decode cX11_wages 18 = .ok (.invokevirtual 396, 3) := by decide +kernel
theorem dX11_wages_21 : decode cX11_wages 21 = .ok (.goto 7, 3) := by decide +kernel
theorem dX11_wages_24 : decode cX11_wages 24 = .ok (.aload_n 3, 1) := by decide +kernel
theorem dX11_wages_25 : decode cX11_wages 25 = .ok (.getfield 399, 3) := by decide +kernel
theorem dX11_wages_28 : decode cX11_wages 28 = .ok (.ireturn, 1) := by decide +kernel
theorem dX11_count_0 : decode cX11_count 0 = .ok (.iload_n 1, 1) := by decide +kernel
theorem dX11_count_1 : decode cX11_count 1 = .ok (.tableswitch 93 0 7 #[47, 52, 57, 62, 67, 75, 80, 85], 47) := by decide +kernel
theorem dX11_count_48 : decode cX11_count 48 = .ok (.aload_n 0, 1) := by decide +kernel
theorem dX11_count_49 : decode cX11_count 49 = .ok (.getfield 94, 3) := by decide +kernel
theorem dX11_count_52 : decode cX11_count 52 = .ok (.ireturn, 1) := by decide +kernel
theorem dX11_count_53 : decode cX11_count 53 = .ok (.aload_n 0, 1) := by decide +kernel
theorem dX11_count_54 : decode cX11_count 54 = .ok (.getfield 314, 3) := by decide +kernel
theorem dX11_count_57 : decode cX11_count 57 = .ok (.ireturn, 1) := by decide +kernel
theorem dX11_count_58 : decode cX11_count 58 = .ok (.aload_n 0, 1) := by decide +kernel
theorem dX11_count_59 : decode cX11_count 59 = .ok (.getfield 193, 3) := by decide +kernel
theorem dX11_count_62 : decode cX11_count 62 = .ok (.ireturn, 1) := by decide +kernel
theorem dX11_count_63 : decode cX11_count 63 = .ok (.aload_n 0, 1) := by decide +kernel
theorem dX11_count_64 : decode cX11_count 64 = .ok (.getfield 219, 3) := by decide +kernel
theorem dX11_count_67 : decode cX11_count 67 = .ok (.ireturn, 1) := by decide +kernel
theorem dX11_count_68 : decode cX11_count 68 = .ok (.aload_n 0, 1) := by decide +kernel
theorem dX11_count_69 : decode cX11_count 69 = .ok (.getfield 37, 3) := by decide +kernel
theorem dX11_count_72 : decode cX11_count 72 = .ok (.getfield 254, 3) := by decide +kernel
theorem dX11_count_75 : decode cX11_count 75 = .ok (.ireturn, 1) := by decide +kernel
theorem dX11_count_76 : decode cX11_count 76 = .ok (.aload_n 0, 1) := by decide +kernel
theorem dX11_count_77 : decode cX11_count 77 = .ok (.getfield 369, 3) := by decide +kernel
theorem dX11_count_80 : decode cX11_count 80 = .ok (.ireturn, 1) := by decide +kernel
theorem dX11_count_81 : decode cX11_count 81 = .ok (.aload_n 0, 1) := by decide +kernel
theorem dX11_count_82 : decode cX11_count 82 = .ok (.invokevirtual 402, 3) := by decide +kernel
theorem dX11_count_85 : decode cX11_count 85 = .ok (.ireturn, 1) := by decide +kernel
theorem dX11_count_86 : decode cX11_count 86 = .ok (.aload_n 0, 1) := by decide +kernel
theorem dX11_count_87 : decode cX11_count 87 = .ok (.getfield 10, 3) := by decide +kernel
theorem dX11_count_90 : decode cX11_count 90 = .ok (.getfield 97, 3) := by decide +kernel
theorem dX11_count_93 : decode cX11_count 93 = .ok (.ireturn, 1) := by decide +kernel
theorem dX11_count_94 : decode cX11_count 94 = .ok (.bipush (-2), 2) := by decide +kernel
theorem dX11_count_96 : decode cX11_count 96 = .ok (.ireturn, 1) := by decide +kernel
theorem dX11_within_0 : decode cX11_within 0 = .ok (.iload_n 0, 1) := by decide +kernel
theorem dX11_within_1 : decode cX11_within 1 = .ok (.iload_n 1, 1) := by decide +kernel
theorem dX11_within_2 : decode cX11_within 2 = .ok (.if_icmp .lt 12, 3) := by decide +kernel
theorem dX11_within_5 : decode cX11_within 5 = .ok (.iload_n 0, 1) := by decide +kernel
theorem dX11_within_6 : decode cX11_within 6 = .ok (.iload_n 2, 1) := by decide +kernel
theorem dX11_within_7 : decode cX11_within 7 = .ok (.if_icmp .gt 7, 3) := by decide +kernel
theorem dX11_within_10 : decode cX11_within 10 = .ok (.iconst 1, 1) := by decide +kernel
theorem dX11_within_11 : decode cX11_within 11 = .ok (.goto 4, 3) := by decide +kernel
theorem dX11_within_14 : decode cX11_within 14 = .ok (.iconst 0, 1) := by decide +kernel
theorem dX11_within_15 : decode cX11_within 15 = .ok (.ireturn, 1) := by decide +kernel
theorem dX11_asNumber_0 : decode cX11_asNumber 0 = .ok (.iload_n 0, 1) := by decide +kernel
theorem dX11_asNumber_1 : decode cX11_asNumber 1 = .ok (.ifCond .eq 7, 3) := by decide +kernel
theorem dX11_asNumber_4 : decode cX11_asNumber 4 = .ok (.iconst 1, 1) := by decide +kernel
theorem dX11_asNumber_5 : decode cX11_asNumber 5 = .ok (.goto 4, 3) := by decide +kernel
theorem dX11_asNumber_8 : decode cX11_asNumber 8 = .ok (.iconst 0, 1) := by decide +kernel
theorem dX11_asNumber_9 : decode cX11_asNumber 9 = .ok (.ireturn, 1) := by decide +kernel
theorem dX11_isTide_0 : decode cX11_isTide 0 = .ok (.iload_n 0, 1) := by decide +kernel
theorem dX11_isTide_1 : decode cX11_isTide 1 = .ok (.iconst 0, 1) := by decide +kernel
theorem dX11_isTide_2 : decode cX11_isTide 2 = .ok (.sipush 899, 3) := by decide +kernel
theorem dX11_isTide_5 : decode cX11_isTide 5 = .ok (.invokestatic 90, 3) := by decide +kernel
theorem dX11_isTide_8 : decode cX11_isTide 8 = .ok (.ireturn, 1) := by decide +kernel
theorem dX11_isWeather_0 : decode cX11_isWeather 0 = .ok (.iload_n 0, 1) := by decide +kernel
theorem dX11_isWeather_1 : decode cX11_isWeather 1 = .ok (.iconst 0, 1) := by decide +kernel
theorem dX11_isWeather_2 : decode cX11_isWeather 2 = .ok (.iconst 3, 1) := by decide +kernel
theorem dX11_isWeather_3 : decode cX11_isWeather 3 = .ok (.invokestatic 90, 3) := by decide +kernel
theorem dX11_isWeather_6 : decode cX11_isWeather 6 = .ok (.ireturn, 1) := by decide +kernel
theorem dX11_isHolder_0 : decode cX11_isHolder 0 = .ok (.iload_n 0, 1) := by decide +kernel
theorem dX11_isHolder_1 : decode cX11_isHolder 1 = .ok (.iconst 0, 1) := by decide +kernel
theorem dX11_isHolder_2 : decode cX11_isHolder 2 = .ok (.bipush 9, 2) := by decide +kernel
theorem dX11_isHolder_4 : decode cX11_isHolder 4 = .ok (.invokestatic 90, 3) := by decide +kernel
theorem dX11_isHolder_7 : decode cX11_isHolder 7 = .ok (.ireturn, 1) := by decide +kernel
theorem dX11_isMark_0 : decode cX11_isMark 0 = .ok (.iload_n 0, 1) := by decide +kernel
theorem dX11_isMark_1 : decode cX11_isMark 1 = .ok (.bipush (-9), 2) := by decide +kernel
theorem dX11_isMark_3 : decode cX11_isMark 3 = .ok (.if_icmp .eq 12, 3) := by decide +kernel
theorem dX11_isMark_6 : decode cX11_isMark 6 = .ok (.iload_n 0, 1) := by decide +kernel
theorem dX11_isMark_7 : decode cX11_isMark 7 = .ok (.iconst 0, 1) := by decide +kernel
theorem dX11_isMark_8 : decode cX11_isMark 8 = .ok (.iconst 3, 1) := by decide +kernel
theorem dX11_isMark_9 : decode cX11_isMark 9 = .ok (.invokestatic 90, 3) := by decide +kernel
theorem dX11_isMark_12 : decode cX11_isMark 12 = .ok (.ifCond .eq 7, 3) := by decide +kernel
theorem dX11_isMark_15 : decode cX11_isMark 15 = .ok (.iconst 1, 1) := by decide +kernel
theorem dX11_isMark_16 : decode cX11_isMark 16 = .ok (.goto 4, 3) := by decide +kernel
theorem dX11_isMark_19 : decode cX11_isMark 19 = .ok (.iconst 0, 1) := by decide +kernel
theorem dX11_isMark_20 : decode cX11_isMark 20 = .ok (.ireturn, 1) := by decide +kernel
theorem dX11_isSpan_0 : decode cX11_isSpan 0 = .ok (.iload_n 0, 1) := by decide +kernel
theorem dX11_isSpan_1 : decode cX11_isSpan 1 = .ok (.ifCond .lt 17, 3) := by decide +kernel
theorem dX11_isSpan_4 : decode cX11_isSpan 4 = .ok (.iload_n 0, 1) := by decide +kernel
theorem dX11_isSpan_5 : decode cX11_isSpan 5 = .ok (.iload_n 1, 1) := by decide +kernel
theorem dX11_isSpan_6 : decode cX11_isSpan 6 = .ok (.if_icmp .gt 12, 3) := by decide +kernel
theorem dX11_isSpan_9 : decode cX11_isSpan 9 = .ok (.iload_n 1, 1) := by decide +kernel
theorem dX11_isSpan_10 : decode cX11_isSpan 10 = .ok (.iload_n 2, 1) := by decide +kernel
theorem dX11_isSpan_11 : decode cX11_isSpan 11 = .ok (.if_icmp .gt 7, 3) := by decide +kernel
theorem dX11_isSpan_14 : decode cX11_isSpan 14 = .ok (.iconst 1, 1) := by decide +kernel
theorem dX11_isSpan_15 : decode cX11_isSpan 15 = .ok (.goto 4, 3) := by decide +kernel
theorem dX11_isSpan_18 : decode cX11_isSpan 18 = .ok (.iconst 0, 1) := by decide +kernel
theorem dX11_isSpan_19 : decode cX11_isSpan 19 = .ok (.ireturn, 1) := by decide +kernel
theorem dX11_isStreet_0 : decode cX11_isStreet 0 = .ok (.iload_n 0, 1) := by decide +kernel
theorem dX11_isStreet_1 : decode cX11_isStreet 1 = .ok (.iconst 0, 1) := by decide +kernel
theorem dX11_isStreet_2 : decode cX11_isStreet 2 = .ok (.bipush 7, 2) := by decide +kernel
theorem dX11_isStreet_4 : decode cX11_isStreet 4 = .ok (.invokestatic 90, 3) := by decide +kernel
theorem dX11_isStreet_7 : decode cX11_isStreet 7 = .ok (.ireturn, 1) := by decide +kernel
theorem dX11_isShip_0 : decode cX11_isShip 0 = .ok (.iload_n 0, 1) := by decide +kernel
theorem dX11_isShip_1 : decode cX11_isShip 1 = .ok (.bipush 10, 2) := by decide +kernel
theorem dX11_isShip_3 : decode cX11_isShip 3 = .ok (.bipush 19, 2) := by decide +kernel
theorem dX11_isShip_5 : decode cX11_isShip 5 = .ok (.invokestatic 90, 3) := by decide +kernel
theorem dX11_isShip_8 : decode cX11_isShip 8 = .ok (.ireturn, 1) := by decide +kernel
theorem dX11_isAshore_0 : decode cX11_isAshore 0 = .ok (.iload_n 0, 1) := by decide +kernel
theorem dX11_isAshore_1 : decode cX11_isAshore 1 = .ok (.invokestatic 349, 3) := by decide +kernel
theorem dX11_isAshore_4 : decode cX11_isAshore 4 = .ok (.ifCond .ne 9, 3) := by decide +kernel
theorem dX11_isAshore_7 : decode cX11_isAshore 7 = .ok (.iload_n 0, 1) := by decide +kernel
theorem dX11_isAshore_8 : decode cX11_isAshore 8 = .ok (.bipush 22, 2) := by decide +kernel
theorem dX11_isAshore_10 : decode cX11_isAshore 10 = .ok (.if_icmp .ne 7, 3) := by decide +kernel
theorem dX11_isAshore_13 : decode cX11_isAshore 13 = .ok (.iconst 1, 1) := by decide +kernel
theorem dX11_isAshore_14 : decode cX11_isAshore 14 = .ok (.goto 4, 3) := by decide +kernel
theorem dX11_isAshore_17 : decode cX11_isAshore 17 = .ok (.iconst 0, 1) := by decide +kernel
theorem dX11_isAshore_18 : decode cX11_isAshore 18 = .ok (.ireturn, 1) := by decide +kernel
theorem dX11_findMan_0 : decode cX11_findMan 0 = .ok (.iload_n 1, 1) := by decide +kernel
theorem dX11_findMan_1 : decode cX11_findMan 1 = .ok (.iconst 0, 1) := by decide +kernel
theorem dX11_findMan_2 : decode cX11_findMan 2 = .ok (.aload_n 0, 1) := by decide +kernel
theorem dX11_findMan_3 : decode cX11_findMan 3 = .ok (.getfield 94, 3) := by decide +kernel
theorem dX11_findMan_6 : decode cX11_findMan 6 = .ok (.iconst 1, 1) := by decide +kernel
theorem dX11_findMan_7 : decode cX11_findMan 7 = .ok (.isub, 1) := by decide +kernel
theorem dX11_findMan_8 : decode cX11_findMan 8 = .ok (.invokestatic 90, 3) := by decide +kernel
theorem dX11_findMan_11 : decode cX11_findMan 11 = .ok (.ifCond .eq 12, 3) := by decide +kernel
theorem dX11_findMan_14 : decode cX11_findMan 14 = .ok (.aload_n 0, 1) := by decide +kernel
theorem dX11_findMan_15 : decode cX11_findMan 15 = .ok (.getfield 18, 3) := by decide +kernel
theorem dX11_findMan_18 : decode cX11_findMan 18 = .ok (.iload_n 1, 1) := by decide +kernel
theorem dX11_findMan_19 : decode cX11_findMan 19 = .ok (.aaload, 1) := by decide +kernel
theorem dX11_findMan_20 : decode cX11_findMan 20 = .ok (.goto 4, 3) := by decide +kernel
theorem dX11_findMan_23 : decode cX11_findMan 23 = .ok (.aconst_null, 1) := by decide +kernel
theorem dX11_findMan_24 : decode cX11_findMan 24 = .ok (.areturn, 1) := by decide +kernel
theorem dX11_findPaper_0 : decode cX11_findPaper 0 = .ok (.iload_n 1, 1) := by decide +kernel
theorem dX11_findPaper_1 : decode cX11_findPaper 1 = .ok (.iconst 0, 1) := by decide +kernel
theorem dX11_findPaper_2 : decode cX11_findPaper 2 = .ok (.aload_n 0, 1) := by decide +kernel
theorem dX11_findPaper_3 : decode cX11_findPaper 3 = .ok (.getfield 193, 3) := by decide +kernel
theorem dX11_findPaper_6 : decode cX11_findPaper 6 = .ok (.iconst 1, 1) := by decide +kernel
theorem dX11_findPaper_7 : decode cX11_findPaper 7 = .ok (.isub, 1) := by decide +kernel
theorem dX11_findPaper_8 : decode cX11_findPaper 8 = .ok (.invokestatic 90, 3) := by decide +kernel
theorem dX11_findPaper_11 : decode cX11_findPaper 11 = .ok (.ifCond .eq 12, 3) := by decide +kernel
theorem dX11_findPaper_14 : decode cX11_findPaper 14 = .ok (.aload_n 0, 1) := by decide +kernel
theorem dX11_findPaper_15 : decode cX11_findPaper 15 = .ok (.getfield 24, 3) := by decide +kernel
theorem dX11_findPaper_18 : decode cX11_findPaper 18 = .ok (.iload_n 1, 1) := by decide +kernel
theorem dX11_findPaper_19 : decode cX11_findPaper 19 = .ok (.aaload, 1) := by decide +kernel
theorem dX11_findPaper_20 : decode cX11_findPaper 20 = .ok (.goto 4, 3) := by decide +kernel
theorem dX11_findPaper_23 : decode cX11_findPaper 23 = .ok (.aconst_null, 1) := by decide +kernel
theorem dX11_findPaper_24 : decode cX11_findPaper 24 = .ok (.areturn, 1) := by decide +kernel
theorem dX11_isPaperOrNone_0 : decode cX11_isPaperOrNone 0 = .ok (.iload_n 1, 1) := by decide +kernel
theorem dX11_isPaperOrNone_1 : decode cX11_isPaperOrNone 1 = .ok (.bipush (-9), 2) := by decide +kernel
theorem dX11_isPaperOrNone_3 : decode cX11_isPaperOrNone 3 = .ok (.if_icmp .eq 11, 3) := by decide +kernel
theorem dX11_isPaperOrNone_6 : decode cX11_isPaperOrNone 6 = .ok (.aload_n 0, 1) := by decide +kernel
theorem dX11_isPaperOrNone_7 : decode cX11_isPaperOrNone 7 = .ok (.iload_n 1, 1) := by decide +kernel
theorem dX11_isPaperOrNone_8 : decode cX11_isPaperOrNone 8 = .ok (.invokevirtual 204, 3) := by decide +kernel
theorem dX11_isPaperOrNone_11 : decode cX11_isPaperOrNone 11 = .ok (.ifnull 7, 3) := by decide +kernel
theorem dX11_isPaperOrNone_14 : decode cX11_isPaperOrNone 14 = .ok (.iconst 1, 1) := by decide +kernel
theorem dX11_isPaperOrNone_15 : decode cX11_isPaperOrNone 15 = .ok (.goto 4, 3) := by decide +kernel
theorem dX11_isPaperOrNone_18 : decode cX11_isPaperOrNone 18 = .ok (.iconst 0, 1) := by decide +kernel
theorem dX11_isPaperOrNone_19 : decode cX11_isPaperOrNone 19 = .ok (.ireturn, 1) := by decide +kernel
theorem dX11_findAct_0 : decode cX11_findAct 0 = .ok (.iload_n 1, 1) := by decide +kernel
theorem dX11_findAct_1 : decode cX11_findAct 1 = .ok (.iconst 0, 1) := by decide +kernel
theorem dX11_findAct_2 : decode cX11_findAct 2 = .ok (.aload_n 0, 1) := by decide +kernel
theorem dX11_findAct_3 : decode cX11_findAct 3 = .ok (.getfield 219, 3) := by decide +kernel
theorem dX11_findAct_6 : decode cX11_findAct 6 = .ok (.iconst 1, 1) := by decide +kernel
theorem dX11_findAct_7 : decode cX11_findAct 7 = .ok (.isub, 1) := by decide +kernel
theorem dX11_findAct_8 : decode cX11_findAct 8 = .ok (.invokestatic 90, 3) := by decide +kernel
theorem dX11_findAct_11 : decode cX11_findAct 11 = .ok (.ifCond .eq 12, 3) := by decide +kernel
theorem dX11_findAct_14 : decode cX11_findAct 14 = .ok (.aload_n 0, 1) := by decide +kernel
theorem dX11_findAct_15 : decode cX11_findAct 15 = .ok (.getfield 30, 3) := by decide +kernel
theorem dX11_findAct_18 : decode cX11_findAct 18 = .ok (.iload_n 1, 1) := by decide +kernel
theorem dX11_findAct_19 : decode cX11_findAct 19 = .ok (.aaload, 1) := by decide +kernel
theorem dX11_findAct_20 : decode cX11_findAct 20 = .ok (.goto 4, 3) := by decide +kernel
theorem dX11_findAct_23 : decode cX11_findAct 23 = .ok (.aconst_null, 1) := by decide +kernel
theorem dX11_findAct_24 : decode cX11_findAct 24 = .ok (.areturn, 1) := by decide +kernel
theorem dX11_findShip_0 : decode cX11_findShip 0 = .ok (.iload_n 1, 1) := by decide +kernel
theorem dX11_findShip_1 : decode cX11_findShip 1 = .ok (.iconst 0, 1) := by decide +kernel
theorem dX11_findShip_2 : decode cX11_findShip 2 = .ok (.aload_n 0, 1) := by decide +kernel
theorem dX11_findShip_3 : decode cX11_findShip 3 = .ok (.getfield 314, 3) := by decide +kernel
theorem dX11_findShip_6 : decode cX11_findShip 6 = .ok (.iconst 1, 1) := by decide +kernel
theorem dX11_findShip_7 : decode cX11_findShip 7 = .ok (.isub, 1) := by decide +kernel
theorem dX11_findShip_8 : decode cX11_findShip 8 = .ok (.invokestatic 90, 3) := by decide +kernel
theorem dX11_findShip_11 : decode cX11_findShip 11 = .ok (.ifCond .eq 12, 3) := by decide +kernel
theorem dX11_findShip_14 : decode cX11_findShip 14 = .ok (.aload_n 0, 1) := by decide +kernel
theorem dX11_findShip_15 : decode cX11_findShip 15 = .ok (.getfield 43, 3) := by decide +kernel
theorem dX11_findShip_18 : decode cX11_findShip 18 = .ok (.iload_n 1, 1) := by decide +kernel
theorem dX11_findShip_19 : decode cX11_findShip 19 = .ok (.aaload, 1) := by decide +kernel
theorem dX11_findShip_20 : decode cX11_findShip 20 = .ok (.goto 4, 3) := by decide +kernel
theorem dX11_findShip_23 : decode cX11_findShip 23 = .ok (.aconst_null, 1) := by decide +kernel
theorem dX11_findShip_24 : decode cX11_findShip 24 = .ok (.areturn, 1) := by decide +kernel
theorem dX11_findTicket_0 : decode cX11_findTicket 0 = .ok (.iload_n 1, 1) := by decide +kernel
theorem dX11_findTicket_1 : decode cX11_findTicket 1 = .ok (.iconst 0, 1) := by decide +kernel
theorem dX11_findTicket_2 : decode cX11_findTicket 2 = .ok (.aload_n 0, 1) := by decide +kernel
theorem dX11_findTicket_3 : decode cX11_findTicket 3 = .ok (.getfield 369, 3) := by decide +kernel
theorem dX11_findTicket_6 : decode cX11_findTicket 6 = .ok (.iconst 1, 1) := by decide +kernel
theorem dX11_findTicket_7 : decode cX11_findTicket 7 = .ok (.isub, 1) := by decide +kernel
theorem dX11_findTicket_8 : decode cX11_findTicket 8 = .ok (.invokestatic 90, 3) := by decide +kernel
theorem dX11_findTicket_11 : decode cX11_findTicket 11 = .ok (.ifCond .eq 12, 3) := by decide +kernel
theorem dX11_findTicket_14 : decode cX11_findTicket 14 = .ok (.aload_n 0, 1) := by decide +kernel
theorem dX11_findTicket_15 : decode cX11_findTicket 15 = .ok (.getfield 49, 3) := by decide +kernel
theorem dX11_findTicket_18 : decode cX11_findTicket 18 = .ok (.iload_n 1, 1) := by decide +kernel
theorem dX11_findTicket_19 : decode cX11_findTicket 19 = .ok (.aaload, 1) := by decide +kernel
theorem dX11_findTicket_20 : decode cX11_findTicket 20 = .ok (.goto 4, 3) := by decide +kernel
theorem dX11_findTicket_23 : decode cX11_findTicket 23 = .ok (.aconst_null, 1) := by decide +kernel
theorem dX11_findTicket_24 : decode cX11_findTicket 24 = .ok (.areturn, 1) := by decide +kernel
theorem dX11_isPlace_0 : decode cX11_isPlace 0 = .ok (.aload_n 0, 1) := by decide +kernel
theorem dX11_isPlace_1 : decode cX11_isPlace 1 = .ok (.getfield 10, 3) := by decide +kernel
theorem dX11_isPlace_4 : decode cX11_isPlace 4 = .ok (.iload_n 1, 1) := by decide +kernel
theorem dX11_isPlace_5 : decode cX11_isPlace 5 = .ok (.invokevirtual 104, 3) := by decide +kernel
theorem dX11_isPlace_8 : decode cX11_isPlace 8 = .ok (.ifCond .ne 25, 3) := by decide +kernel
theorem dX11_isPlace_11 : decode cX11_isPlace 11 = .ok (.aload_n 0, 1) := by decide +kernel
theorem dX11_isPlace_12 : decode cX11_isPlace 12 = .ok (.iload_n 1, 1) := by decide +kernel
theorem dX11_isPlace_13 : decode cX11_isPlace 13 = .ok (.bipush 10, 2) := by decide +kernel
theorem dX11_isPlace_15 : decode cX11_isPlace 15 = .ok (.isub, 1) := by decide +kernel
theorem dX11_isPlace_16 : decode cX11_isPlace 16 = .ok (.invokevirtual 320, 3) := by decide +kernel
theorem dX11_isPlace_19 : decode cX11_isPlace 19 = .ok (.ifnonnull 14, 3) := by decide +kernel
theorem dX11_isPlace_22 : decode cX11_isPlace 22 = .ok (.iload_n 1, 1) := by decide +kernel
theorem dX11_isPlace_23 : decode cX11_isPlace 23 = .ok (.bipush 20, 2) := by decide +kernel
theorem dX11_isPlace_25 : decode cX11_isPlace 25 = .ok (.bipush 23, 2) := by decide +kernel
theorem dX11_isPlace_27 : decode cX11_isPlace 27 = .ok (.invokestatic 90, 3) := by decide +kernel
theorem dX11_isPlace_30 : decode cX11_isPlace 30 = .ok (.ifCond .eq 7, 3) := by decide +kernel
theorem dX11_isPlace_33 : decode cX11_isPlace 33 = .ok (.iconst 1, 1) := by decide +kernel
theorem dX11_isPlace_34 : decode cX11_isPlace 34 = .ok (.goto 4, 3) := by decide +kernel
theorem dX11_isPlace_37 : decode cX11_isPlace 37 = .ok (.iconst 0, 1) := by decide +kernel
theorem dX11_isPlace_38 : decode cX11_isPlace 38 = .ok (.ireturn, 1) := by decide +kernel
theorem dX11_isInShipAtHome_0 : decode cX11_isInShipAtHome 0 = .ok (.iload_n 1, 1) := by decide +kernel
theorem dX11_isInShipAtHome_1 : decode cX11_isInShipAtHome 1 = .ok (.invokestatic 405, 3) := by decide +kernel
theorem dX11_isInShipAtHome_4 : decode cX11_isInShipAtHome 4 = .ok (.ifCond .eq 14, 3) := by decide +kernel
theorem dX11_isInShipAtHome_7 : decode cX11_isInShipAtHome 7 = .ok (.aload_n 0, 1) := by decide +kernel
theorem dX11_isInShipAtHome_8 : decode cX11_isInShipAtHome 8 = .ok (.iload_n 1, 1) := by decide +kernel
theorem dX11_isInShipAtHome_9 : decode cX11_isInShipAtHome 9 = .ok (.bipush 10, 2) := by decide +kernel
theorem dX11_isInShipAtHome_11 : decode cX11_isInShipAtHome 11 = .ok (.isub, 1) := by decide +kernel
theorem dX11_isInShipAtHome_12 : decode cX11_isInShipAtHome 12 = .ok (.invokevirtual 320, 3) := by decide +kernel
theorem dX11_isInShipAtHome_15 : decode cX11_isInShipAtHome 15 = .ok (.goto 4, 3) := by decide +kernel
theorem dX11_isInShipAtHome_18 : decode cX11_isInShipAtHome 18 = .ok (.aconst_null, 1) := by decide +kernel
theorem dX11_isInShipAtHome_19 : decode cX11_isInShipAtHome 19 = .ok (.astore_n 2, 1) := by decide +kernel
theorem dX11_isInShipAtHome_20 : decode cX11_isInShipAtHome 20 = .ok (.aload_n 2, 1) := by decide +kernel
theorem dX11_isInShipAtHome_21 : decode cX11_isInShipAtHome 21 = .ok (.ifnull 14, 3) := by decide +kernel
theorem dX11_isInShipAtHome_24 : decode cX11_isInShipAtHome 24 = .ok (.aload_n 2, 1) := by decide +kernel
theorem dX11_isInShipAtHome_25 : decode cX11_isInShipAtHome 25 = .ok (.getfield 336, 3) := by decide +kernel
theorem dX11_isInShipAtHome_28 : decode cX11_isInShipAtHome 28 = .ok (.ifCond .eq 7, 3) := by decide +kernel
theorem dX11_isInShipAtHome_31 : decode cX11_isInShipAtHome 31 = .ok (.iconst 1, 1) := by decide +kernel
theorem dX11_isInShipAtHome_32 : decode cX11_isInShipAtHome 32 = .ok (.goto 4, 3) := by decide +kernel
theorem dX11_isInShipAtHome_35 : decode cX11_isInShipAtHome 35 = .ok (.iconst 0, 1) := by decide +kernel
theorem dX11_isInShipAtHome_36 : decode cX11_isInShipAtHome 36 = .ok (.ireturn, 1) := by decide +kernel
theorem dX11_isInShipOf_0 : decode cX11_isInShipOf 0 = .ok (.iload_n 2, 1) := by decide +kernel
theorem dX11_isInShipOf_1 : decode cX11_isInShipOf 1 = .ok (.invokestatic 405, 3) := by decide +kernel
theorem dX11_isInShipOf_4 : decode cX11_isInShipOf 4 = .ok (.ifCond .eq 14, 3) := by decide +kernel
theorem dX11_isInShipOf_7 : decode cX11_isInShipOf 7 = .ok (.aload_n 0, 1) := by decide +kernel
theorem dX11_isInShipOf_8 : decode cX11_isInShipOf 8 = .ok (.iload_n 2, 1) := by decide +kernel
theorem dX11_isInShipOf_9 : decode cX11_isInShipOf 9 = .ok (.bipush 10, 2) := by decide +kernel
theorem dX11_isInShipOf_11 : decode cX11_isInShipOf 11 = .ok (.isub, 1) := by decide +kernel
theorem dX11_isInShipOf_12 : decode cX11_isInShipOf 12 = .ok (.invokevirtual 320, 3) := by decide +kernel
theorem dX11_isInShipOf_15 : decode cX11_isInShipOf 15 = .ok (.goto 4, 3) := by decide +kernel
theorem dX11_isInShipOf_18 : decode cX11_isInShipOf 18 = .ok (.aconst_null, 1) := by decide +kernel
theorem dX11_isInShipOf_19 : decode cX11_isInShipOf 19 = .ok (.astore_n 3, 1) := by decide +kernel
theorem dX11_isInShipOf_20 : decode cX11_isInShipOf 20 = .ok (.aload_n 3, 1) := by decide +kernel
theorem dX11_isInShipOf_21 : decode cX11_isInShipOf 21 = .ok (.ifnull 15, 3) := by decide +kernel
theorem dX11_isInShipOf_24 : decode cX11_isInShipOf 24 = .ok (.aload_n 3, 1) := by decide +kernel
theorem dX11_isInShipOf_25 : decode cX11_isInShipOf 25 = .ok (.getfield 324, 3) := by decide +kernel
theorem dX11_isInShipOf_28 : decode cX11_isInShipOf 28 = .ok (.iload_n 1, 1) := by decide +kernel
theorem dX11_isInShipOf_29 : decode cX11_isInShipOf 29 = .ok (.if_icmp .ne 7, 3) := by decide +kernel
theorem dX11_isInShipOf_32 : decode cX11_isInShipOf 32 = .ok (.iconst 1, 1) := by decide +kernel
theorem dX11_isInShipOf_33 : decode cX11_isInShipOf 33 = .ok (.goto 4, 3) := by decide +kernel
theorem dX11_isInShipOf_36 : decode cX11_isInShipOf 36 = .ok (.iconst 0, 1) := by decide +kernel
theorem dX11_isInShipOf_37 : decode cX11_isInShipOf 37 = .ok (.ireturn, 1) := by decide +kernel
theorem dX11_isWithinReach_0 : decode cX11_isWithinReach 0 = .ok (.iload_n 1, 1) := by decide +kernel
theorem dX11_isWithinReach_1 : decode cX11_isWithinReach 1 = .ok (.invokestatic 349, 3) := by decide +kernel
theorem dX11_isWithinReach_4 : decode cX11_isWithinReach 4 = .ok (.ifCond .ne 20, 3) := by decide +kernel
theorem dX11_isWithinReach_7 : decode cX11_isWithinReach 7 = .ok (.aload_n 0, 1) := by decide +kernel
theorem dX11_isWithinReach_8 : decode cX11_isWithinReach 8 = .ok (.iload_n 1, 1) := by decide +kernel
theorem dX11_isWithinReach_9 : decode cX11_isWithinReach 9 = .ok (.invokevirtual 293, 3) := by decide +kernel
theorem dX11_isWithinReach_12 : decode cX11_isWithinReach 12 = .ok (.ifCond .eq 16, 3) := by decide +kernel
theorem dX11_isWithinReach_15 : decode cX11_isWithinReach 15 = .ok (.aload_n 0, 1) := by decide +kernel
theorem dX11_isWithinReach_16 : decode cX11_isWithinReach 16 = .ok (.iconst 1, 1) := by decide +kernel
theorem dX11_isWithinReach_17 : decode cX11_isWithinReach 17 = .ok (.iload_n 1, 1) := by decide +kernel
theorem dX11_isWithinReach_18 : decode cX11_isWithinReach 18 = .ok (.invokevirtual 408, 3) := by decide +kernel
theorem dX11_isWithinReach_21 : decode cX11_isWithinReach 21 = .ok (.ifCond .eq 7, 3) := by decide +kernel
theorem dX11_isWithinReach_24 : decode cX11_isWithinReach 24 = .ok (.iconst 1, 1) := by decide +kernel
theorem dX11_isWithinReach_25 : decode cX11_isWithinReach 25 = .ok (.goto 4, 3) := by decide +kernel
theorem dX11_isWithinReach_28 : decode cX11_isWithinReach 28 = .ok (.iconst 0, 1) := by decide +kernel
theorem dX11_isWithinReach_29 : decode cX11_isWithinReach 29 = .ok (.ireturn, 1) := by decide +kernel
theorem dX11_menIn_0 : decode cX11_menIn 0 = .ok (.iconst 0, 1) := by decide +kernel
theorem dX11_menIn_1 : decode cX11_menIn 1 = .ok (.istore_n 2, 1) := by decide +kernel
theorem dX11_menIn_2 : decode cX11_menIn 2 = .ok (.iconst 0, 1) := by decide +kernel
theorem dX11_menIn_3 : decode cX11_menIn 3 = .ok (.istore_n 3, 1) := by decide +kernel
theorem dX11_menIn_4 : decode cX11_menIn 4 = .ok (.iload_n 3, 1) := by decide +kernel
theorem dX11_menIn_5 : decode cX11_menIn 5 = .ok (.aload_n 0, 1) := by decide +kernel
theorem dX11_menIn_6 : decode cX11_menIn 6 = .ok (.getfield 94, 3) := by decide +kernel
theorem dX11_menIn_9 : decode cX11_menIn 9 = .ok (.if_icmp .ge 25, 3) := by decide +kernel
theorem dX11_menIn_12 : decode cX11_menIn 12 = .ok (.aload_n 0, 1) := by decide +kernel
theorem dX11_menIn_13 : decode cX11_menIn 13 = .ok (.getfield 18, 3) := by decide +kernel
theorem dX11_menIn_16 : decode cX11_menIn 16 = .ok (.iload_n 3, 1) := by decide +kernel
theorem dX11_menIn_17 : decode cX11_menIn 17 = .ok (.aaload, 1) := by decide +kernel
theorem dX11_menIn_18 : decode cX11_menIn 18 = .ok (.getfield 178, 3) := by decide +kernel
theorem dX11_menIn_21 : decode cX11_menIn 21 = .ok (.iload_n 1, 1) := by decide +kernel
theorem dX11_menIn_22 : decode cX11_menIn 22 = .ok (.if_icmp .ne 6, 3) := by decide +kernel
theorem dX11_menIn_25 : decode cX11_menIn 25 = .ok (.iinc 2 1, 3) := by decide +kernel
theorem dX11_menIn_28 : decode cX11_menIn 28 = .ok (.iinc 3 1, 3) := by decide +kernel
theorem dX11_menIn_31 : decode cX11_menIn 31 = .ok (.goto (-27), 3) := by decide +kernel
theorem dX11_menIn_34 : decode cX11_menIn 34 = .ok (.iload_n 2, 1) := by decide +kernel
theorem dX11_menIn_35 : decode cX11_menIn 35 = .ok (.ireturn, 1) := by decide +kernel
theorem dX11_seamenIn_0 : decode cX11_seamenIn 0 = .ok (.iconst 0, 1) := by decide +kernel
theorem dX11_seamenIn_1 : decode cX11_seamenIn 1 = .ok (.istore_n 2, 1) := by decide +kernel
theorem dX11_seamenIn_2 : decode cX11_seamenIn 2 = .ok (.iconst 0, 1) := by decide +kernel
theorem dX11_seamenIn_3 : decode cX11_seamenIn 3 = .ok (.istore_n 3, 1) := by decide +kernel
theorem dX11_seamenIn_4 : decode cX11_seamenIn 4 = .ok (.iload_n 3, 1) := by decide +kernel
theorem dX11_seamenIn_5 : decode cX11_seamenIn 5 = .ok (.aload_n 0, 1) := by decide +kernel
theorem dX11_seamenIn_6 : decode cX11_seamenIn 6 = .ok (.getfield 94, 3) := by decide +kernel
theorem dX11_seamenIn_9 : decode cX11_seamenIn 9 = .ok (.if_icmp .ge 37, 3) := by decide +kernel
theorem dX11_seamenIn_12 : decode cX11_seamenIn 12 = .ok (.aload_n 0, 1) := by decide +kernel
theorem dX11_seamenIn_13 : decode cX11_seamenIn 13 = .ok (.getfield 18, 3) := by decide +kernel
theorem dX11_seamenIn_16 : decode cX11_seamenIn 16 = .ok (.iload_n 3, 1) := by decide +kernel
theorem dX11_seamenIn_17 : decode cX11_seamenIn 17 = .ok (.aaload, 1) := by decide +kernel
theorem dX11_seamenIn_18 : decode cX11_seamenIn 18 = .ok (.getfield 178, 3) := by decide +kernel
theorem dX11_seamenIn_21 : decode cX11_seamenIn 21 = .ok (.iload_n 1, 1) := by decide +kernel
theorem dX11_seamenIn_22 : decode cX11_seamenIn 22 = .ok (.if_icmp .ne 18, 3) := by decide +kernel
theorem dX11_seamenIn_25 : decode cX11_seamenIn 25 = .ok (.aload_n 0, 1) := by decide +kernel
theorem dX11_seamenIn_26 : decode cX11_seamenIn 26 = .ok (.getfield 18, 3) := by decide +kernel
theorem dX11_seamenIn_29 : decode cX11_seamenIn 29 = .ok (.iload_n 3, 1) := by decide +kernel
theorem dX11_seamenIn_30 : decode cX11_seamenIn 30 = .ok (.aaload, 1) := by decide +kernel
theorem dX11_seamenIn_31 : decode cX11_seamenIn 31 = .ok (.invokevirtual 412, 3) := by decide +kernel
theorem dX11_seamenIn_34 : decode cX11_seamenIn 34 = .ok (.ifCond .eq 6, 3) := by decide +kernel
theorem dX11_seamenIn_37 : decode cX11_seamenIn 37 = .ok (.iinc 2 1, 3) := by decide +kernel
theorem dX11_seamenIn_40 : decode cX11_seamenIn 40 = .ok (.iinc 3 1, 3) := by decide +kernel
theorem dX11_seamenIn_43 : decode cX11_seamenIn 43 = .ok (.goto (-39), 3) := by decide +kernel
theorem dX11_seamenIn_46 : decode cX11_seamenIn 46 = .ok (.iload_n 2, 1) := by decide +kernel
theorem dX11_seamenIn_47 : decode cX11_seamenIn 47 = .ok (.ireturn, 1) := by decide +kernel
theorem dX11_menOffTheStreets_0 : decode cX11_menOffTheStreets 0 = .ok (.iconst 0, 1) := by decide +kernel
theorem dX11_menOffTheStreets_1 : decode cX11_menOffTheStreets 1 = .ok (.istore_n 1, 1) := by decide +kernel
theorem dX11_menOffTheStreets_2 : decode cX11_menOffTheStreets 2 = .ok (.iconst 0, 1) := by decide +kernel
theorem dX11_menOffTheStreets_3 : decode cX11_menOffTheStreets 3 = .ok (.istore_n 2, 1) := by decide +kernel
theorem dX11_menOffTheStreets_4 : decode cX11_menOffTheStreets 4 = .ok (.iload_n 2, 1) := by decide +kernel
theorem dX11_menOffTheStreets_5 : decode cX11_menOffTheStreets 5 = .ok (.aload_n 0, 1) := by decide +kernel
theorem dX11_menOffTheStreets_6 : decode cX11_menOffTheStreets 6 = .ok (.getfield 94, 3) := by decide +kernel
theorem dX11_menOffTheStreets_9 : decode cX11_menOffTheStreets 9 = .ok (.if_icmp .ge 27, 3) := by decide +kernel
theorem dX11_menOffTheStreets_12 : decode cX11_menOffTheStreets 12 = .ok (.aload_n 0, 1) := by decide +kernel
theorem dX11_menOffTheStreets_13 : decode cX11_menOffTheStreets 13 = .ok (.getfield 18, 3) := by decide +kernel
theorem dX11_menOffTheStreets_16 : decode cX11_menOffTheStreets 16 = .ok (.iload_n 2, 1) := by decide +kernel
theorem dX11_menOffTheStreets_17 : decode cX11_menOffTheStreets 17 = .ok (.aaload, 1) := by decide +kernel
theorem dX11_menOffTheStreets_18 : decode cX11_menOffTheStreets 18 = .ok (.getfield 178, 3) := by decide +kernel
theorem dX11_menOffTheStreets_21 : decode cX11_menOffTheStreets 21 = .ok (.invokestatic 349, 3) := by decide +kernel
theorem dX11_menOffTheStreets_24 : decode cX11_menOffTheStreets 24 = .ok (.ifCond .ne 6, 3) := by decide +kernel
theorem dX11_menOffTheStreets_27 : decode cX11_menOffTheStreets 27 = .ok (.iinc 1 1, 3) := by decide +kernel
theorem dX11_menOffTheStreets_30 : decode cX11_menOffTheStreets 30 = .ok (.iinc 2 1, 3) := by decide +kernel
theorem dX11_menOffTheStreets_33 : decode cX11_menOffTheStreets 33 = .ok (.goto (-29), 3) := by decide +kernel
theorem dX11_menOffTheStreets_36 : decode cX11_menOffTheStreets 36 = .ok (.iload_n 1, 1) := by decide +kernel
theorem dX11_menOffTheStreets_37 : decode cX11_menOffTheStreets 37 = .ok (.ireturn, 1) := by decide +kernel
theorem dX11_hideTheShy_0 : decode cX11_hideTheShy 0 = .ok (.iconst 0, 1) := by decide +kernel
theorem dX11_hideTheShy_1 : decode cX11_hideTheShy 1 = .ok (.istore_n 1, 1) := by decide +kernel
theorem dX11_hideTheShy_2 : decode cX11_hideTheShy 2 = .ok (.iload_n 1, 1) := by decide +kernel
theorem dX11_hideTheShy_3 : decode cX11_hideTheShy 3 = .ok (.aload_n 0, 1) := by decide +kernel
theorem dX11_hideTheShy_4 : decode cX11_hideTheShy 4 = .ok (.getfield 94, 3) := by decide +kernel
theorem dX11_hideTheShy_7 : decode cX11_hideTheShy 7 = .ok (.if_icmp .ge 60, 3) := by decide +kernel
theorem dX11_hideTheShy_10 : decode cX11_hideTheShy 10 = .ok (.aload_n 0, 1) := by decide +kernel
theorem dX11_hideTheShy_11 : decode cX11_hideTheShy 11 = .ok (.getfield 18, 3) := by decide +kernel
theorem dX11_hideTheShy_14 : decode cX11_hideTheShy 14 = .ok (.iload_n 1, 1) := by decide +kernel
theorem dX11_hideTheShy_15 : decode cX11_hideTheShy 15 = .ok (.aaload, 1) := by decide +kernel
theorem dX11_hideTheShy_16 : decode cX11_hideTheShy 16 = .ok (.astore_n 2, 1) := by decide +kernel
theorem dX11_hideTheShy_17 : decode cX11_hideTheShy 17 = .ok (.aload_n 2, 1) := by decide +kernel
theorem dX11_hideTheShy_18 : decode cX11_hideTheShy 18 = .ok (.getfield 148, 3) := by decide +kernel
theorem dX11_hideTheShy_21 : decode cX11_hideTheShy 21 = .ok (.ifCond .eq 40, 3) := by decide +kernel
theorem dX11_hideTheShy_24 : decode cX11_hideTheShy 24 = .ok (.aload_n 2, 1) := by decide +kernel
theorem dX11_hideTheShy_25 : decode cX11_hideTheShy 25 = .ok (.getfield 178, 3) := by decide +kernel
theorem dX11_hideTheShy_28 : decode cX11_hideTheShy 28 = .ok (.invokestatic 349, 3) := by decide +kernel
theorem dX11_hideTheShy_31 : decode cX11_hideTheShy 31 = .ok (.ifCond .eq 30, 3) := by decide +kernel
theorem dX11_hideTheShy_34 : decode cX11_hideTheShy 34 = .ok (.aload_n 0, 1) := by decide +kernel
theorem dX11_hideTheShy_35 : decode cX11_hideTheShy 35 = .ok (.getfield 57, 3) := by decide +kernel
theorem dX11_hideTheShy_38 : decode cX11_hideTheShy 38 = .ok (.aload_n 2, 1) := by decide +kernel
theorem dX11_hideTheShy_39 : decode cX11_hideTheShy 39 = .ok (.getfield 178, 3) := by decide +kernel
theorem dX11_hideTheShy_42 : decode cX11_hideTheShy 42 = .ok (.iaload, 1) := by decide +kernel
theorem dX11_hideTheShy_43 : decode cX11_hideTheShy 43 = .ok (.aload_n 0, 1) := by decide +kernel
theorem dX11_hideTheShy_44 : decode cX11_hideTheShy 44 = .ok (.getfield 152, 3) := by decide +kernel
theorem dX11_hideTheShy_47 : decode cX11_hideTheShy 47 = .ok (.if_icmp .gt 14, 3) := by decide +kernel
theorem dX11_hideTheShy_50 : decode cX11_hideTheShy 50 = .ok (.aload_n 2, 1) := by decide +kernel
theorem dX11_hideTheShy_51 : decode cX11_hideTheShy 51 = .ok (.bipush 22, 2) := by decide +kernel
theorem dX11_hideTheShy_53 : decode cX11_hideTheShy 53 = .ok (.aload_n 0, 1) := by decide +kernel
theorem dX11_hideTheShy_54 : decode cX11_hideTheShy 54 = .ok (.getfield 152, 3) := by decide +kernel
theorem dX11_hideTheShy_57 : decode cX11_hideTheShy 57 = .ok (.invokevirtual 184, 3) := by decide +kernel
theorem dX11_hideTheShy_60 : decode cX11_hideTheShy 60 = .ok (.pop, 1) := by decide +kernel
theorem dX11_hideTheShy_61 : decode cX11_hideTheShy 61 = .ok (.iinc 1 1, 3) := by decide +kernel
theorem dX11_hideTheShy_64 : decode cX11_hideTheShy 64 = .ok (.goto (-62), 3) := by decide +kernel
theorem dX11_hideTheShy_67 : decode cX11_hideTheShy 67 = .ok (.return_, 1) := by decide +kernel
theorem dX11_sickenTheCrowd_0 : decode cX11_sickenTheCrowd 0 = .ok (.iconst 0, 1) := by decide +kernel
theorem dX11_sickenTheCrowd_1 : decode cX11_sickenTheCrowd 1 = .ok (.aload_n 0, 1) := by decide +kernel
theorem dX11_sickenTheCrowd_2 : decode cX11_sickenTheCrowd 2 = .ok (.bipush 20, 2) := by decide +kernel
theorem dX11_sickenTheCrowd_4 : decode cX11_sickenTheCrowd 4 = .ok (.invokevirtual 162, 3) := by decide +kernel
theorem dX11_sickenTheCrowd_7 : decode cX11_sickenTheCrowd 7 = .ok (.aload_n 0, 1) := by decide +kernel
theorem dX11_sickenTheCrowd_8 : decode cX11_sickenTheCrowd 8 = .ok (.getfield 76, 3) := by decide +kernel
theorem dX11_sickenTheCrowd_11 : decode cX11_sickenTheCrowd 11 = .ok (.isub, 1) := by decide +kernel
theorem dX11_sickenTheCrowd_12 : decode cX11_sickenTheCrowd 12 = .ok (.invokestatic 416, 3) := by decide +kernel
theorem dX11_sickenTheCrowd_15 : decode cX11_sickenTheCrowd 15 = .ok (.istore_n 1, 1) := by decide +kernel
theorem dX11_sickenTheCrowd_16 : decode cX11_sickenTheCrowd 16 = .ok (.iload_n 1, 1) := by decide +kernel
theorem dX11_sickenTheCrowd_17 : decode cX11_sickenTheCrowd 17 = .ok (.aload_n 0, 1) := by decide +kernel
theorem dX11_sickenTheCrowd_18 : decode cX11_sickenTheCrowd 18 = .ok (.getfield 80, 3) := by decide +kernel
theorem dX11_sickenTheCrowd_21 : decode cX11_sickenTheCrowd 21 = .ok (.imul, 1) := by decide +kernel
theorem dX11_sickenTheCrowd_22 : decode cX11_sickenTheCrowd 22 = .ok (.bipush 100, 2) := by decide +kernel
theorem dX11_sickenTheCrowd_24 : decode cX11_sickenTheCrowd 24 = .ok (.idiv, 1) := by decide +kernel
theorem dX11_sickenTheCrowd_25 : decode cX11_sickenTheCrowd 25 = .ok (.istore_n 2, 1) := by decide +kernel
theorem dX11_sickenTheCrowd_26 : decode cX11_sickenTheCrowd 26 = .ok (.iconst 0, 1) := by decide +kernel
theorem dX11_sickenTheCrowd_27 : decode cX11_sickenTheCrowd 27 = .ok (.istore_n 3, 1) := by decide +kernel
theorem dX11_sickenTheCrowd_28 : decode cX11_sickenTheCrowd 28 = .ok (.iload_n 3, 1) := by decide +kernel
theorem dX11_sickenTheCrowd_29 : decode cX11_sickenTheCrowd 29 = .ok (.aload_n 0, 1) := by decide +kernel
theorem dX11_sickenTheCrowd_30 : decode cX11_sickenTheCrowd 30 = .ok (.getfield 94, 3) := by decide +kernel
theorem dX11_sickenTheCrowd_33 : decode cX11_sickenTheCrowd 33 = .ok (.if_icmp .ge 46, 3) := by decide +kernel
theorem dX11_sickenTheCrowd_36 : decode cX11_sickenTheCrowd 36 = .ok (.iload_n 2, 1) := by decide +kernel
theorem dX11_sickenTheCrowd_37 : decode cX11_sickenTheCrowd 37 = .ok (.ifCond .le 42, 3) := by decide +kernel
theorem dX11_sickenTheCrowd_40 : decode cX11_sickenTheCrowd 40 = .ok (.aload_n 0, 1) := by decide +kernel
theorem dX11_sickenTheCrowd_41 : decode cX11_sickenTheCrowd 41 = .ok (.getfield 18, 3) := by decide +kernel
theorem dX11_sickenTheCrowd_44 : decode cX11_sickenTheCrowd 44 = .ok (.iload_n 3, 1) := by decide +kernel
theorem dX11_sickenTheCrowd_45 : decode cX11_sickenTheCrowd 45 = .ok (.aaload, 1) := by decide +kernel
theorem dX11_sickenTheCrowd_46 : decode cX11_sickenTheCrowd 46 = .ok (.getfield 178, 3) := by decide +kernel
theorem dX11_sickenTheCrowd_49 : decode cX11_sickenTheCrowd 49 = .ok (.bipush 20, 2) := by decide +kernel
theorem dX11_sickenTheCrowd_51 : decode cX11_sickenTheCrowd 51 = .ok (.if_icmp .ne 22, 3) := by decide +kernel
theorem dX11_sickenTheCrowd_54 : decode cX11_sickenTheCrowd 54 = .ok (.aload_n 0, 1) := by decide +kernel
theorem dX11_sickenTheCrowd_55 : decode cX11_sickenTheCrowd 55 = .ok (.getfield 18, 3) := by decide +kernel
theorem dX11_sickenTheCrowd_58 : decode cX11_sickenTheCrowd 58 = .ok (.iload_n 3, 1) := by decide +kernel
theorem dX11_sickenTheCrowd_59 : decode cX11_sickenTheCrowd 59 = .ok (.aaload, 1) := by decide +kernel
theorem dX11_sickenTheCrowd_60 : decode cX11_sickenTheCrowd 60 = .ok (.bipush 21, 2) := by decide +kernel
theorem dX11_sickenTheCrowd_62 : decode cX11_sickenTheCrowd 62 = .ok (.aload_n 0, 1) := by decide +kernel
theorem dX11_sickenTheCrowd_63 : decode cX11_sickenTheCrowd 63 = .ok (.getfield 152, 3) := by decide +kernel
theorem dX11_sickenTheCrowd_66 : decode cX11_sickenTheCrowd 66 = .ok (.invokevirtual 184, 3) := by decide +kernel
theorem dX11_sickenTheCrowd_69 : decode cX11_sickenTheCrowd 69 = .ok (.pop, 1) := by decide +kernel
theorem dX11_sickenTheCrowd_70 : decode cX11_sickenTheCrowd 70 = .ok (.iinc 2 (-1), 3) := by decide +kernel
theorem dX11_sickenTheCrowd_73 : decode cX11_sickenTheCrowd 73 = .ok (.iinc 3 1, 3) := by decide +kernel
theorem dX11_sickenTheCrowd_76 : decode cX11_sickenTheCrowd 76 = .ok (.goto (-48), 3) := by decide +kernel
theorem dX11_sickenTheCrowd_79 : decode cX11_sickenTheCrowd 79 = .ok (.return_, 1) := by decide +kernel
theorem dX11_sendTheSickHome_0 : decode cX11_sendTheSickHome 0 = .ok (.iconst 0, 1) := by decide +kernel
theorem dX11_sendTheSickHome_1 : decode cX11_sendTheSickHome 1 = .ok (.istore_n 1, 1) := by decide +kernel
theorem dX11_sendTheSickHome_2 : decode cX11_sendTheSickHome 2 = .ok (.iload_n 1, 1) := by decide +kernel
theorem dX11_sendTheSickHome_3 : decode cX11_sendTheSickHome 3 = .ok (.aload_n 0, 1) := by decide +kernel
theorem dX11_sendTheSickHome_4 : decode cX11_sendTheSickHome 4 = .ok (.getfield 94, 3) := by decide +kernel
theorem dX11_sendTheSickHome_7 : decode cX11_sendTheSickHome 7 = .ok (.if_icmp .ge 52, 3) := by decide +kernel
theorem dX11_sendTheSickHome_10 : decode cX11_sendTheSickHome 10 = .ok (.aload_n 0, 1) := by decide +kernel
theorem dX11_sendTheSickHome_11 : decode cX11_sendTheSickHome 11 = .ok (.getfield 18, 3) := by decide +kernel
theorem dX11_sendTheSickHome_14 : decode cX11_sendTheSickHome 14 = .ok (.iload_n 1, 1) := by decide +kernel
theorem dX11_sendTheSickHome_15 : decode cX11_sendTheSickHome 15 = .ok (.aaload, 1) := by decide +kernel
theorem dX11_sendTheSickHome_16 : decode cX11_sendTheSickHome 16 = .ok (.astore_n 2, 1) := by decide +kernel
theorem dX11_sendTheSickHome_17 : decode cX11_sendTheSickHome 17 = .ok (.aload_n 2, 1) := by decide +kernel
theorem dX11_sendTheSickHome_18 : decode cX11_sendTheSickHome 18 = .ok (.getfield 178, 3) := by decide +kernel
theorem dX11_sendTheSickHome_21 : decode cX11_sendTheSickHome 21 = .ok (.bipush 21, 2) := by decide +kernel
theorem dX11_sendTheSickHome_23 : decode cX11_sendTheSickHome 23 = .ok (.if_icmp .ne 30, 3) := by decide +kernel
theorem dX11_sendTheSickHome_26 : decode cX11_sendTheSickHome 26 = .ok (.aload_n 2, 1) := by decide +kernel
theorem dX11_sendTheSickHome_27 : decode cX11_sendTheSickHome 27 = .ok (.invokevirtual 421, 3) := by decide +kernel
theorem dX11_sendTheSickHome_30 : decode cX11_sendTheSickHome 30 = .ok (.aload_n 0, 1) := by decide +kernel
theorem dX11_sendTheSickHome_31 : decode cX11_sendTheSickHome 31 = .ok (.getfield 152, 3) := by decide +kernel
theorem dX11_sendTheSickHome_34 : decode cX11_sendTheSickHome 34 = .ok (.bipush 10, 2) := by decide +kernel
theorem dX11_sendTheSickHome_36 : decode cX11_sendTheSickHome 36 = .ok (.isub, 1) := by decide +kernel
theorem dX11_sendTheSickHome_37 : decode cX11_sendTheSickHome 37 = .ok (.if_icmp .ne 16, 3) := by decide +kernel
theorem dX11_sendTheSickHome_40 : decode cX11_sendTheSickHome 40 = .ok (.aload_n 2, 1) := by decide +kernel
theorem dX11_sendTheSickHome_41 : decode cX11_sendTheSickHome 41 = .ok (.aload_n 2, 1) := by decide +kernel
theorem dX11_sendTheSickHome_42 : decode cX11_sendTheSickHome 42 = .ok (.getfield 145, 3) := by decide +kernel
theorem dX11_sendTheSickHome_45 : decode cX11_sendTheSickHome 45 = .ok (.aload_n 0, 1) := by decide +kernel
theorem dX11_sendTheSickHome_46 : decode cX11_sendTheSickHome 46 = .ok (.getfield 152, 3) := by decide +kernel
theorem dX11_sendTheSickHome_49 : decode cX11_sendTheSickHome 49 = .ok (.invokevirtual 184, 3) := by decide +kernel
theorem dX11_sendTheSickHome_52 : decode cX11_sendTheSickHome 52 = .ok (.pop, 1) := by decide +kernel
theorem dX11_sendTheSickHome_53 : decode cX11_sendTheSickHome 53 = .ok (.iinc 1 1, 3) := by decide +kernel
theorem dX11_sendTheSickHome_56 : decode cX11_sendTheSickHome 56 = .ok (.goto (-54), 3) := by decide +kernel
theorem dX11_sendTheSickHome_59 : decode cX11_sendTheSickHome 59 = .ok (.return_, 1) := by decide +kernel
theorem dX11_actInForce_0 : decode cX11_actInForce 0 = .ok (.bipush (-9), 2) := by decide +kernel
theorem dX11_actInForce_2 : decode cX11_actInForce 2 = .ok (.istore_n 2, 1) := by decide +kernel
theorem dX11_actInForce_3 : decode cX11_actInForce 3 = .ok (.iconst 0, 1) := by decide +kernel
theorem dX11_actInForce_4 : decode cX11_actInForce 4 = .ok (.istore_n 3, 1) := by decide +kernel
theorem dX11_actInForce_5 : decode cX11_actInForce 5 = .ok (.iconst 0, 1) := by decide +kernel
theorem dX11_actInForce_6 : decode cX11_actInForce 6 = .ok (.istore 4, 2) := by decide +kernel
theorem dX11_actInForce_8 : decode cX11_actInForce 8 = .ok (.iload 4, 2) := by decide +kernel
theorem dX11_actInForce_10 : decode cX11_actInForce 10 = .ok (.aload_n 0, 1) := by decide +kernel
theorem dX11_actInForce_11 : decode cX11_actInForce 11 = .ok (.getfield 219, 3) := by decide +kernel
theorem dX11_actInForce_14 : decode cX11_actInForce 14 = .ok (.if_icmp .ge 55, 3) := by decide +kernel
theorem dX11_actInForce_17 : decode cX11_actInForce 17 = .ok (.aload_n 0, 1) := by decide +kernel
theorem dX11_actInForce_18 : decode cX11_actInForce 18 = .ok (.getfield 30, 3) := by decide +kernel
theorem dX11_actInForce_21 : decode cX11_actInForce 21 = .ok (.iload 4, 2) := by decide +kernel
theorem dX11_actInForce_23 : decode cX11_actInForce 23 = .ok (.aaload, 1) := by decide +kernel
theorem dX11_actInForce_24 : decode cX11_actInForce 24 = .ok (.astore 5, 2) := by decide +kernel
theorem dX11_actInForce_26 : decode cX11_actInForce 26 = .ok (.aload 5, 2) := by decide +kernel
theorem dX11_actInForce_28 : decode cX11_actInForce 28 = .ok (.getfield 424, 3) := by decide +kernel
theorem dX11_actInForce_31 : decode cX11_actInForce 31 = .ok (.iload_n 1, 1) := by decide +kernel
theorem dX11_actInForce_32 : decode cX11_actInForce 32 = .ok (.if_icmp .gt 31, 3) := by decide +kernel
theorem dX11_actInForce_35 : decode cX11_actInForce 35 = .ok (.aload 5, 2) := by decide +kernel
theorem dX11_actInForce_37 : decode cX11_actInForce 37 = .ok (.getfield 424, 3) := by decide +kernel
theorem dX11_actInForce_40 : decode cX11_actInForce 40 = .ok (.iload_n 3, 1) := by decide +kernel
theorem dX11_actInForce_41 : decode cX11_actInForce 41 = .ok (.if_icmp .lt 22, 3) := by decide +kernel
theorem dX11_actInForce_44 : decode cX11_actInForce 44 = .ok (.aload 5, 2) := by decide +kernel
theorem dX11_actInForce_46 : decode cX11_actInForce 46 = .ok (.invokevirtual 234, 3) := by decide +kernel
theorem dX11_actInForce_49 : decode cX11_actInForce 49 = .ok (.bipush (-9), 2) := by decide +kernel
theorem dX11_actInForce_51 : decode cX11_actInForce 51 = .ok (.if_icmp .ne 12, 3) := by decide +kernel
theorem dX11_actInForce_54 : decode cX11_actInForce 54 = .ok (.iload 4, 2) := by decide +kernel
theorem dX11_actInForce_56 : decode cX11_actInForce 56 = .ok (.istore_n 2, 1) := by decide +kernel
theorem dX11_actInForce_57 : decode cX11_actInForce 57 = .ok (.aload 5, 2) := by decide +kernel
theorem dX11_actInForce_59 : decode cX11_actInForce 59 = .ok (.getfield 424, 3) := by decide +kernel
theorem dX11_actInForce_62 : decode cX11_actInForce 62 = .ok (.istore_n 3, 1) := by decide +kernel
theorem dX11_actInForce_63 : decode cX11_actInForce 63 = .ok (.iinc 4 1, 3) := by decide +kernel
theorem dX11_actInForce_66 : decode cX11_actInForce 66 = .ok (.goto (-58), 3) := by decide +kernel
theorem dX11_actInForce_69 : decode cX11_actInForce 69 = .ok (.iload_n 2, 1) := by decide +kernel
theorem dX11_actInForce_70 : decode cX11_actInForce 70 = .ok (.ireturn, 1) := by decide +kernel
theorem dX11_mayAsShown_0 : decode cX11_mayAsShown 0 = .ok (.aload_n 0, 1) := by decide +kernel
theorem dX11_mayAsShown_1 : decode cX11_mayAsShown 1 = .ok (.aload_n 0, 1) := by decide +kernel
theorem dX11_mayAsShown_2 : decode cX11_mayAsShown 2 = .ok (.aload_n 0, 1) := by decide +kernel
theorem dX11_mayAsShown_3 : decode cX11_mayAsShown 3 = .ok (.getfield 152, 3) := by decide +kernel
theorem dX11_mayAsShown_6 : decode cX11_mayAsShown 6 = .ok (.invokevirtual 238, 3) := by decide +kernel
theorem dX11_mayAsShown_9 : decode cX11_mayAsShown 9 = .ok (.invokevirtual 224, 3) := by decide +kernel
theorem dX11_mayAsShown_12 : decode cX11_mayAsShown 12 = .ok (.astore_n 3, 1) := by decide +kernel
theorem dX11_mayAsShown_13 : decode cX11_mayAsShown 13 = .ok (.aload_n 3, 1) := by decide +kernel
theorem dX11_mayAsShown_14 : decode cX11_mayAsShown 14 = .ok (.ifnonnull 5, 3) := by decide +kernel
theorem dX11_mayAsShown_17 : decode cX11_mayAsShown 17 = .ok (.iconst 0, 1) := by decide +kernel
theorem dX11_mayAsShown_18 : decode cX11_mayAsShown 18 = .ok (.ireturn, 1) := by decide +kernel
theorem dX11_mayAsShown_19 : decode cX11_mayAsShown 19 = .ok (.aload_n 0, 1) := by decide +kernel
theorem dX11_mayAsShown_20 : decode cX11_mayAsShown 20 = .ok (.iload_n 2, 1) := by decide +kernel
theorem dX11_mayAsShown_21 : decode cX11_mayAsShown 21 = .ok (.invokevirtual 204, 3) := by decide +kernel
theorem dX11_mayAsShown_24 : decode cX11_mayAsShown 24 = .ok (.astore 4, 2) := by decide +kernel
theorem dX11_mayAsShown_26 : decode cX11_mayAsShown 26 = .ok (.aload_n 3, 1) := by decide +kernel
theorem dX11_mayAsShown_27 : decode cX11_mayAsShown 27 = .ok (.aload_n 1, 1) := by decide +kernel
theorem dX11_mayAsShown_28 : decode cX11_mayAsShown 28 = .ok (.aload 4, 2) := by decide +kernel
theorem dX11_mayAsShown_30 : decode cX11_mayAsShown 30 = .ok (.ifnull 20, 3) := by decide +kernel
theorem dX11_mayAsShown_33 : decode cX11_mayAsShown 33 = .ok (.aload 4, 2) := by decide +kernel
theorem dX11_mayAsShown_35 : decode cX11_mayAsShown 35 = .ok (.aload_n 1, 1) := by decide +kernel
theorem dX11_mayAsShown_36 : decode cX11_mayAsShown 36 = .ok (.aload_n 0, 1) := by decide +kernel
theorem dX11_mayAsShown_37 : decode cX11_mayAsShown 37 = .ok (.getfield 152, 3) := by decide +kernel
theorem dX11_mayAsShown_40 : decode cX11_mayAsShown 40 = .ok (.invokevirtual 211, 3) := by decide +kernel
theorem dX11_mayAsShown_43 : decode cX11_mayAsShown 43 = .ok (.ifCond .le 7, 3) := by decide +kernel
theorem dX11_mayAsShown_46 : decode cX11_mayAsShown 46 = .ok (.iconst 1, 1) := by decide +kernel
theorem dX11_mayAsShown_47 : decode cX11_mayAsShown 47 = .ok (.goto 4, 3) := by decide +kernel
theorem dX11_mayAsShown_50 : decode cX11_mayAsShown 50 = .ok (.iconst 0, 1) := by decide +kernel
theorem dX11_mayAsShown_51 : decode cX11_mayAsShown 51 = .ok (.invokevirtual 425, 3) := by decide +kernel
theorem dX11_mayAsShown_54 : decode cX11_mayAsShown 54 = .ok (.ireturn, 1) := by decide +kernel
theorem dX11_mayInTruth_0 : decode cX11_mayInTruth 0 = .ok (.aload_n 0, 1) := by decide +kernel
theorem dX11_mayInTruth_1 : decode cX11_mayInTruth 1 = .ok (.aload_n 0, 1) := by decide +kernel
theorem dX11_mayInTruth_2 : decode cX11_mayInTruth 2 = .ok (.aload_n 0, 1) := by decide +kernel
theorem dX11_mayInTruth_3 : decode cX11_mayInTruth 3 = .ok (.aload_n 0, 1) := by decide +kernel
theorem dX11_mayInTruth_4 : decode cX11_mayInTruth 4 = .ok (.getfield 152, 3) := by decide +kernel
theorem dX11_mayInTruth_7 : decode cX11_mayInTruth 7 = .ok (.invokevirtual 238, 3) := by decide +kernel
theorem dX11_mayInTruth_10 : decode cX11_mayInTruth 10 = .ok (.invokevirtual 224, 3) := by decide +kernel
theorem dX11_mayInTruth_13 : decode cX11_mayInTruth 13 = .ok (.iload_n 1, 1) := by decide +kernel
theorem dX11_mayInTruth_14 : decode cX11_mayInTruth 14 = .ok (.invokevirtual 429, 3) := by decide +kernel
theorem dX11_mayInTruth_17 : decode cX11_mayInTruth 17 = .ok (.ireturn, 1) := by decide +kernel
theorem dX11_holdsInTruth_0 : decode cX11_holdsInTruth 0 = .ok (.aload_n 0, 1) := by decide +kernel
theorem dX11_holdsInTruth_1 : decode cX11_holdsInTruth 1 = .ok (.iload_n 2, 1) := by decide +kernel
theorem dX11_holdsInTruth_2 : decode cX11_holdsInTruth 2 = .ok (.invokevirtual 123, 3) := by decide +kernel
theorem dX11_holdsInTruth_5 : decode cX11_holdsInTruth 5 = .ok (.astore_n 3, 1) := by decide +kernel
theorem dX11_holdsInTruth_6 : decode cX11_holdsInTruth 6 = .ok (.aload_n 1, 1) := by decide +kernel
theorem dX11_holdsInTruth_7 : decode cX11_holdsInTruth 7 = .ok (.ifnull 25, 3) := by decide +kernel
theorem dX11_holdsInTruth_10 : decode cX11_holdsInTruth 10 = .ok (.aload_n 3, 1) := by decide +kernel
theorem dX11_holdsInTruth_11 : decode cX11_holdsInTruth 11 = .ok (.ifnull 21, 3) := by decide +kernel
theorem dX11_holdsInTruth_14 : decode cX11_holdsInTruth 14 = .ok (.aload_n 1, 1) := by decide +kernel
theorem dX11_holdsInTruth_15 : decode cX11_holdsInTruth 15 = .ok (.aload_n 3, 1) := by decide +kernel
theorem dX11_holdsInTruth_16 : decode cX11_holdsInTruth 16 = .ok (.aload_n 0, 1) := by decide +kernel
theorem dX11_holdsInTruth_17 : decode cX11_holdsInTruth 17 = .ok (.aload_n 3, 1) := by decide +kernel
theorem dX11_holdsInTruth_18 : decode cX11_holdsInTruth 18 = .ok (.iload_n 2, 1) := by decide +kernel
theorem dX11_holdsInTruth_19 : decode cX11_holdsInTruth 19 = .ok (.invokevirtual 433, 3) := by decide +kernel
theorem dX11_holdsInTruth_22 : decode cX11_holdsInTruth 22 = .ok (.invokevirtual 425, 3) := by decide +kernel
theorem dX11_holdsInTruth_25 : decode cX11_holdsInTruth 25 = .ok (.ifCond .eq 7, 3) := by decide +kernel
theorem dX11_holdsInTruth_28 : decode cX11_holdsInTruth 28 = .ok (.iconst 1, 1) := by decide +kernel
theorem dX11_holdsInTruth_29 : decode cX11_holdsInTruth 29 = .ok (.goto 4, 3) := by decide +kernel
theorem dX11_holdsInTruth_32 : decode cX11_holdsInTruth 32 = .ok (.iconst 0, 1) := by decide +kernel
theorem dX11_holdsInTruth_33 : decode cX11_holdsInTruth 33 = .ok (.ireturn, 1) := by decide +kernel
theorem dX11_isCoveredInTruth_0 : decode cX11_isCoveredInTruth 0 = .ok (.iconst 0, 1) := by decide +kernel
theorem dX11_isCoveredInTruth_1 : decode cX11_isCoveredInTruth 1 = .ok (.istore_n 3, 1) := by decide +kernel
theorem dX11_isCoveredInTruth_2 : decode cX11_isCoveredInTruth 2 = .ok (.iload_n 3, 1) := by decide +kernel
theorem dX11_isCoveredInTruth_3 : decode cX11_isCoveredInTruth 3 = .ok (.aload_n 0, 1) := by decide +kernel
theorem dX11_isCoveredInTruth_4 : decode cX11_isCoveredInTruth 4 = .ok (.getfield 193, 3) := by decide +kernel
theorem dX11_isCoveredInTruth_7 : decode cX11_isCoveredInTruth 7 = .ok (.if_icmp .ge 41, 3) := by decide +kernel
theorem dX11_isCoveredInTruth_10 : decode cX11_isCoveredInTruth 10 = .ok (.aload_n 0, 1) := by decide +kernel
theorem dX11_isCoveredInTruth_11 : decode cX11_isCoveredInTruth 11 = .ok (.getfield 24, 3) := by decide +kernel
theorem dX11_isCoveredInTruth_14 : decode cX11_isCoveredInTruth 14 = .ok (.iload_n 3, 1) := by decide +kernel
theorem dX11_isCoveredInTruth_15 : decode cX11_isCoveredInTruth 15 = .ok (.aaload, 1) := by decide +kernel
theorem dX11_isCoveredInTruth_16 : decode cX11_isCoveredInTruth 16 = .ok (.getfield 436, 3) := by decide +kernel
theorem dX11_isCoveredInTruth_19 : decode cX11_isCoveredInTruth 19 = .ok (.iload_n 2, 1) := by decide +kernel
theorem dX11_isCoveredInTruth_20 : decode cX11_isCoveredInTruth 20 = .ok (.if_icmp .ne 22, 3) := by decide +kernel
theorem dX11_isCoveredInTruth_23 : decode cX11_isCoveredInTruth 23 = .ok (.aload_n 0, 1) := by decide +kernel
theorem dX11_isCoveredInTruth_24 : decode cX11_isCoveredInTruth 24 = .ok (.getfield 24, 3) := by decide +kernel
theorem dX11_isCoveredInTruth_27 : decode cX11_isCoveredInTruth 27 = .ok (.iload_n 3, 1) := by decide +kernel
theorem dX11_isCoveredInTruth_28 : decode cX11_isCoveredInTruth 28 = .ok (.aaload, 1) := by decide +kernel
theorem dX11_isCoveredInTruth_29 : decode cX11_isCoveredInTruth 29 = .ok (.aload_n 1, 1) := by decide +kernel
theorem dX11_isCoveredInTruth_30 : decode cX11_isCoveredInTruth 30 = .ok (.aload_n 0, 1) := by decide +kernel
theorem dX11_isCoveredInTruth_31 : decode cX11_isCoveredInTruth 31 = .ok (.getfield 152, 3) := by decide +kernel
theorem dX11_isCoveredInTruth_34 : decode cX11_isCoveredInTruth 34 = .ok (.invokevirtual 211, 3) := by decide +kernel
theorem dX11_isCoveredInTruth_37 : decode cX11_isCoveredInTruth 37 = .ok (.ifCond .le 5, 3) := by decide +kernel
theorem dX11_isCoveredInTruth_40 : decode cX11_isCoveredInTruth 40 = .ok (.iconst 1, 1) := by decide +kernel
theorem dX11_isCoveredInTruth_41 : decode cX11_isCoveredInTruth 41 = .ok (.ireturn, 1) := by decide +kernel
theorem dX11_isCoveredInTruth_42 : decode cX11_isCoveredInTruth 42 = .ok (.iinc 3 1, 3) := by decide +kernel
theorem dX11_isCoveredInTruth_45 : decode cX11_isCoveredInTruth 45 = .ok (.goto (-43), 3) := by decide +kernel
theorem dX11_isCoveredInTruth_48 : decode cX11_isCoveredInTruth 48 = .ok (.iconst 0, 1) := by decide +kernel
theorem dX11_isCoveredInTruth_49 : decode cX11_isCoveredInTruth 49 = .ok (.ireturn, 1) := by decide +kernel
theorem dX11_countTheTakeable_0 : decode cX11_countTheTakeable 0 = .ok (.aload_n 0, 1) := by decide +kernel
theorem dX11_countTheTakeable_1 : decode cX11_countTheTakeable 1 = .ok (.getfield 65, 3) := by decide +kernel
theorem dX11_countTheTakeable_4 : decode cX11_countTheTakeable 4 = .ok (.invokevirtual 439, 3) := by decide +kernel
theorem dX11_countTheTakeable_7 : decode cX11_countTheTakeable 7 = .ok (.aload_n 0, 1) := by decide +kernel
theorem dX11_countTheTakeable_8 : decode cX11_countTheTakeable 8 = .ok (.aload_n 0, 1) := by decide +kernel
theorem dX11_countTheTakeable_9 : decode cX11_countTheTakeable 9 = .ok (.aload_n 0, 1) := by decide +kernel
theorem dX11_countTheTakeable_10 : decode cX11_countTheTakeable 10 = .ok (.getfield 152, 3) := by decide +kernel
theorem dX11_countTheTakeable_13 : decode cX11_countTheTakeable 13 = .ok (.invokevirtual 238, 3) := by decide +kernel
theorem dX11_countTheTakeable_16 : decode cX11_countTheTakeable 16 = .ok (.invokevirtual 224, 3) := by decide +kernel
theorem dX11_countTheTakeable_19 : decode cX11_countTheTakeable 19 = .ok (.astore_n 1, 1) := by decide +kernel
theorem dX11_countTheTakeable_20 : decode cX11_countTheTakeable 20 = .ok (.iconst 0, 1) := by decide +kernel
theorem dX11_countTheTakeable_21 : decode cX11_countTheTakeable 21 = .ok (.istore_n 2, 1) := by decide +kernel
theorem dX11_countTheTakeable_22 : decode cX11_countTheTakeable 22 = .ok (.iload_n 2, 1) := by decide +kernel
theorem dX11_countTheTakeable_23 : decode cX11_countTheTakeable 23 = .ok (.aload_n 0, 1) := by decide +kernel
theorem dX11_countTheTakeable_24 : decode cX11_countTheTakeable 24 = .ok (.getfield 94, 3) := by decide +kernel
theorem dX11_countTheTakeable_27 : decode cX11_countTheTakeable 27 = .ok (.if_icmp .ge 49, 3) := by decide +kernel
theorem dX11_countTheTakeable_30 : decode cX11_countTheTakeable 30 = .ok (.aload_n 0, 1) := by decide +kernel
theorem dX11_countTheTakeable_31 : decode cX11_countTheTakeable 31 = .ok (.getfield 18, 3) := by decide +kernel
theorem dX11_countTheTakeable_34 : decode cX11_countTheTakeable 34 = .ok (.iload_n 2, 1) := by decide +kernel
theorem dX11_countTheTakeable_35 : decode cX11_countTheTakeable 35 = .ok (.aaload, 1) := by decide +kernel
theorem dX11_countTheTakeable_36 : decode cX11_countTheTakeable 36 = .ok (.getfield 178, 3) := by decide +kernel
theorem dX11_countTheTakeable_39 : decode cX11_countTheTakeable 39 = .ok (.invokestatic 349, 3) := by decide +kernel
theorem dX11_countTheTakeable_42 : decode cX11_countTheTakeable 42 = .ok (.ifCond .eq 28, 3) := by decide +kernel
theorem dX11_countTheTakeable_45 : decode cX11_countTheTakeable 45 = .ok (.aload_n 0, 1) := by decide +kernel
theorem dX11_countTheTakeable_46 : decode cX11_countTheTakeable 46 = .ok (.aload_n 1, 1) := by decide +kernel
theorem dX11_countTheTakeable_47 : decode cX11_countTheTakeable 47 = .ok (.iload_n 2, 1) := by decide +kernel
theorem dX11_countTheTakeable_48 : decode cX11_countTheTakeable 48 = .ok (.invokevirtual 429, 3) := by decide +kernel
theorem dX11_countTheTakeable_51 : decode cX11_countTheTakeable 51 = .ok (.ifCond .eq 19, 3) := by decide +kernel
theorem dX11_countTheTakeable_54 : decode cX11_countTheTakeable 54 = .ok (.aload_n 0, 1) := by decide +kernel
theorem dX11_countTheTakeable_55 : decode cX11_countTheTakeable 55 = .ok (.getfield 65, 3) := by decide +kernel
theorem dX11_countTheTakeable_58 : decode cX11_countTheTakeable 58 = .ok (.aload_n 0, 1) := by decide +kernel
theorem dX11_countTheTakeable_59 : decode cX11_countTheTakeable 59 = .ok (.getfield 18, 3) := by decide +kernel
theorem dX11_countTheTakeable_62 : decode cX11_countTheTakeable 62 = .ok (.iload_n 2, 1) := by decide +kernel
theorem dX11_countTheTakeable_63 : decode cX11_countTheTakeable 63 = .ok (.aaload, 1) := by decide +kernel
theorem dX11_countTheTakeable_64 : decode cX11_countTheTakeable 64 = .ok (.getfield 178, 3) := by decide +kernel
theorem dX11_countTheTakeable_67 : decode cX11_countTheTakeable 67 = .ok (.invokevirtual 442, 3) := by decide +kernel
theorem dX11_countTheTakeable_70 : decode cX11_countTheTakeable 70 = .ok (.iinc 2 1, 3) := by decide +kernel
theorem dX11_countTheTakeable_73 : decode cX11_countTheTakeable 73 = .ok (.goto (-51), 3) := by decide +kernel
theorem dX11_countTheTakeable_76 : decode cX11_countTheTakeable 76 = .ok (.return_, 1) := by decide +kernel
theorem dX11_isWronged_0 : decode cX11_isWronged 0 = .ok (.aload_n 1, 1) := by decide +kernel
theorem dX11_isWronged_1 : decode cX11_isWronged 1 = .ok (.getfield 260, 3) := by decide +kernel
theorem dX11_isWronged_4 : decode cX11_isWronged 4 = .ok (.ifnull 13, 3) := by decide +kernel
theorem dX11_isWronged_7 : decode cX11_isWronged 7 = .ok (.aload_n 1, 1) := by decide +kernel
theorem dX11_isWronged_8 : decode cX11_isWronged 8 = .ok (.getfield 260, 3) := by decide +kernel
theorem dX11_isWronged_11 : decode cX11_isWronged 11 = .ok (.getfield 286, 3) := by decide +kernel
theorem dX11_isWronged_14 : decode cX11_isWronged 14 = .ok (.ifCond .eq 5, 3) := by decide +kernel
theorem dX11_isWronged_17 : decode cX11_isWronged 17 = .ok (.iconst 0, 1) := by decide +kernel
theorem dX11_isWronged_18 : decode cX11_isWronged 18 = .ok (.ireturn, 1) := by decide +kernel
theorem dX11_isWronged_19 : decode cX11_isWronged 19 = .ok (.aload_n 1, 1) := by decide +kernel
theorem dX11_isWronged_20 : decode cX11_isWronged 20 = .ok (.getfield 178, 3) := by decide +kernel
theorem dX11_isWronged_23 : decode cX11_isWronged 23 = .ok (.bipush 20, 2) := by decide +kernel
theorem dX11_isWronged_25 : decode cX11_isWronged 25 = .ok (.if_icmp .eq 24, 3) := by decide +kernel
theorem dX11_isWronged_28 : decode cX11_isWronged 28 = .ok (.aload_n 1, 1) := by decide +kernel
theorem dX11_isWronged_29 : decode cX11_isWronged 29 = .ok (.getfield 178, 3) := by decide +kernel
theorem dX11_isWronged_32 : decode cX11_isWronged 32 = .ok (.bipush 21, 2) := by decide +kernel
theorem dX11_isWronged_34 : decode cX11_isWronged 34 = .ok (.if_icmp .eq 15, 3) := by decide +kernel
theorem dX11_isWronged_37 : decode cX11_isWronged 37 = .ok (.aload_n 0, 1) := by decide +kernel
theorem dX11_isWronged_38 : decode cX11_isWronged 38 = .ok (.iconst 0, 1) := by decide +kernel
theorem dX11_isWronged_39 : decode cX11_isWronged 39 = .ok (.aload_n 1, 1) := by decide +kernel
theorem dX11_isWronged_40 : decode cX11_isWronged 40 = .ok (.getfield 178, 3) := by decide +kernel
theorem dX11_isWronged_43 : decode cX11_isWronged 43 = .ok (.invokevirtual 408, 3) := by decide +kernel
theorem dX11_isWronged_46 : decode cX11_isWronged 46 = .ok (.ifCond .eq 7, 3) := by decide +kernel
theorem dX11_isWronged_49 : decode cX11_isWronged 49 = .ok (.iconst 1, 1) := by decide +kernel
theorem dX11_isWronged_50 : decode cX11_isWronged 50 = .ok (.goto 4, 3) := by decide +kernel
theorem dX11_isWronged_53 : decode cX11_isWronged 53 = .ok (.iconst 0, 1) := by decide +kernel
theorem dX11_isWronged_54 : decode cX11_isWronged 54 = .ok (.ireturn, 1) := by decide +kernel
theorem dX11_spareOf_0 : decode cX11_spareOf 0 = .ok (.iconst 0, 1) := by decide +kernel
theorem dX11_spareOf_1 : decode cX11_spareOf 1 = .ok (.iload_n 1, 1) := by decide +kernel
theorem dX11_spareOf_2 : decode cX11_spareOf 2 = .ok (.aload_n 0, 1) := by decide +kernel
theorem dX11_spareOf_3 : decode cX11_spareOf 3 = .ok (.getfield 333, 3) := by decide +kernel
theorem dX11_spareOf_6 : decode cX11_spareOf 6 = .ok (.isub, 1) := by decide +kernel
theorem dX11_spareOf_7 : decode cX11_spareOf 7 = .ok (.iload_n 2, 1) := by decide +kernel
theorem dX11_spareOf_8 : decode cX11_spareOf 8 = .ok (.isub, 1) := by decide +kernel
theorem dX11_spareOf_9 : decode cX11_spareOf 9 = .ok (.invokestatic 416, 3) := by decide +kernel
theorem dX11_spareOf_12 : decode cX11_spareOf 12 = .ok (.ireturn, 1) := by decide +kernel
theorem dX11_kingsAtHome_0 : decode cX11_kingsAtHome 0 = .ok (.iconst 0, 1) := by decide +kernel
theorem dX11_kingsAtHome_1 : decode cX11_kingsAtHome 1 = .ok (.istore_n 1, 1) := by decide +kernel
theorem dX11_kingsAtHome_2 : decode cX11_kingsAtHome 2 = .ok (.iconst 0, 1) := by decide +kernel
theorem dX11_kingsAtHome_3 : decode cX11_kingsAtHome 3 = .ok (.istore_n 2, 1) := by decide +kernel
theorem dX11_kingsAtHome_4 : decode cX11_kingsAtHome 4 = .ok (.iload_n 2, 1) := by decide +kernel
theorem dX11_kingsAtHome_5 : decode cX11_kingsAtHome 5 = .ok (.aload_n 0, 1) := by decide +kernel
theorem dX11_kingsAtHome_6 : decode cX11_kingsAtHome 6 = .ok (.getfield 314, 3) := by decide +kernel
theorem dX11_kingsAtHome_9 : decode cX11_kingsAtHome 9 = .ok (.if_icmp .ge 39, 3) := by decide +kernel
theorem dX11_kingsAtHome_12 : decode cX11_kingsAtHome 12 = .ok (.aload_n 0, 1) := by decide +kernel
theorem dX11_kingsAtHome_13 : decode cX11_kingsAtHome 13 = .ok (.getfield 43, 3) := by decide +kernel
theorem dX11_kingsAtHome_16 : decode cX11_kingsAtHome 16 = .ok (.iload_n 2, 1) := by decide +kernel
theorem dX11_kingsAtHome_17 : decode cX11_kingsAtHome 17 = .ok (.aaload, 1) := by decide +kernel
theorem dX11_kingsAtHome_18 : decode cX11_kingsAtHome 18 = .ok (.getfield 324, 3) := by decide +kernel
theorem dX11_kingsAtHome_21 : decode cX11_kingsAtHome 21 = .ok (.ifCond .ne 21, 3) := by decide +kernel
theorem dX11_kingsAtHome_24 : decode cX11_kingsAtHome 24 = .ok (.aload_n 0, 1) := by decide +kernel
theorem dX11_kingsAtHome_25 : decode cX11_kingsAtHome 25 = .ok (.getfield 43, 3) := by decide +kernel
theorem dX11_kingsAtHome_28 : decode cX11_kingsAtHome 28 = .ok (.iload_n 2, 1) := by decide +kernel
theorem dX11_kingsAtHome_29 : decode cX11_kingsAtHome 29 = .ok (.aaload, 1) := by decide +kernel
theorem dX11_kingsAtHome_30 : decode cX11_kingsAtHome 30 = .ok (.getfield 336, 3) := by decide +kernel
theorem dX11_kingsAtHome_33 : decode cX11_kingsAtHome 33 = .ok (.ifCond .eq 9, 3) := by decide +kernel
theorem dX11_kingsAtHome_36 : decode cX11_kingsAtHome 36 = .ok (.iload_n 1, 1) := by decide +kernel
theorem dX11_kingsAtHome_37 : decode cX11_kingsAtHome 37 = .ok (.iconst 1, 1) := by decide +kernel
theorem dX11_kingsAtHome_38 : decode cX11_kingsAtHome 38 = .ok (.iload_n 2, 1) := by decide +kernel
theorem dX11_kingsAtHome_39 : decode cX11_kingsAtHome 39 = .ok (.ishl, 1) := by decide +kernel
theorem dX11_kingsAtHome_40 : decode cX11_kingsAtHome 40 = .ok (.ior, 1) := by decide +kernel
theorem dX11_kingsAtHome_41 : decode cX11_kingsAtHome 41 = .ok (.istore_n 1, 1) := by decide +kernel
theorem dX11_kingsAtHome_42 : decode cX11_kingsAtHome 42 = .ok (.iinc 2 1, 3) := by decide +kernel
theorem dX11_kingsAtHome_45 : decode cX11_kingsAtHome 45 = .ok (.goto (-41), 3) := by decide +kernel
theorem dX11_kingsAtHome_48 : decode cX11_kingsAtHome 48 = .ok (.iload_n 1, 1) := by decide +kernel
theorem dX11_kingsAtHome_49 : decode cX11_kingsAtHome 49 = .ok (.ireturn, 1) := by decide +kernel
theorem dX11_musterLevy_0 : decode cX11_musterLevy 0 = .ok (.aload_n 0, 1) := by decide +kernel
theorem dX11_musterLevy_1 : decode cX11_musterLevy 1 = .ok (.getfield 72, 3) := by decide +kernel
theorem dX11_musterLevy_4 : decode cX11_musterLevy 4 = .ok (.aload_n 0, 1) := by decide +kernel
theorem dX11_musterLevy_5 : decode cX11_musterLevy 5 = .ok (.bipush 20, 2) := by decide +kernel
theorem dX11_musterLevy_7 : decode cX11_musterLevy 7 = .ok (.invokevirtual 162, 3) := by decide +kernel
theorem dX11_musterLevy_10 : decode cX11_musterLevy 10 = .ok (.aload_n 0, 1) := by decide +kernel
theorem dX11_musterLevy_11 : decode cX11_musterLevy 11 = .ok (.bipush 20, 2) := by decide +kernel
theorem dX11_musterLevy_13 : decode cX11_musterLevy 13 = .ok (.invokevirtual 339, 3) := by decide +kernel
theorem dX11_musterLevy_16 : decode cX11_musterLevy 16 = .ok (.invokevirtual 445, 3) := by decide +kernel
theorem dX11_musterLevy_19 : decode cX11_musterLevy 19 = .ok (.iconst 0, 1) := by decide +kernel
theorem dX11_musterLevy_20 : decode cX11_musterLevy 20 = .ok (.istore_n 2, 1) := by decide +kernel
theorem dX11_musterLevy_21 : decode cX11_musterLevy 21 = .ok (.iload_n 2, 1) := by decide +kernel
theorem dX11_musterLevy_22 : decode cX11_musterLevy 22 = .ok (.aload_n 0, 1) := by decide +kernel
theorem dX11_musterLevy_23 : decode cX11_musterLevy 23 = .ok (.getfield 314, 3) := by decide +kernel
theorem dX11_musterLevy_26 : decode cX11_musterLevy 26 = .ok (.if_icmp .ge 83, 3) := by decide +kernel
theorem dX11_musterLevy_29 : decode cX11_musterLevy 29 = .ok (.aload_n 0, 1) := by decide +kernel
theorem dX11_musterLevy_30 : decode cX11_musterLevy 30 = .ok (.getfield 43, 3) := by decide +kernel
theorem dX11_musterLevy_33 : decode cX11_musterLevy 33 = .ok (.iload_n 2, 1) := by decide +kernel
theorem dX11_musterLevy_34 : decode cX11_musterLevy 34 = .ok (.aaload, 1) := by decide +kernel
theorem dX11_musterLevy_35 : decode cX11_musterLevy 35 = .ok (.astore_n 3, 1) := by decide +kernel
theorem dX11_musterLevy_36 : decode cX11_musterLevy 36 = .ok (.aload_n 3, 1) := by decide +kernel
theorem dX11_musterLevy_37 : decode cX11_musterLevy 37 = .ok (.getfield 336, 3) := by decide +kernel
theorem dX11_musterLevy_40 : decode cX11_musterLevy 40 = .ok (.ifCond .ne 6, 3) := by decide +kernel
theorem dX11_musterLevy_43 : decode cX11_musterLevy 43 = .ok (.goto 60, 3) := by decide +kernel
theorem dX11_musterLevy_46 : decode cX11_musterLevy 46 = .ok (.aload_n 0, 1) := by decide +kernel
theorem dX11_musterLevy_47 : decode cX11_musterLevy 47 = .ok (.bipush 10, 2) := by decide +kernel
theorem dX11_musterLevy_49 : decode cX11_musterLevy 49 = .ok (.iload_n 2, 1) := by decide +kernel
theorem dX11_musterLevy_50 : decode cX11_musterLevy 50 = .ok (.iadd, 1) := by decide +kernel
theorem dX11_musterLevy_51 : decode cX11_musterLevy 51 = .ok (.invokevirtual 162, 3) := by decide +kernel
theorem dX11_musterLevy_54 : decode cX11_musterLevy 54 = .ok (.istore 4, 2) := by decide +kernel
theorem dX11_musterLevy_56 : decode cX11_musterLevy 56 = .ok (.aload_n 0, 1) := by decide +kernel
theorem dX11_musterLevy_57 : decode cX11_musterLevy 57 = .ok (.bipush 10, 2) := by decide +kernel
theorem dX11_musterLevy_59 : decode cX11_musterLevy 59 = .ok (.iload_n 2, 1) := by decide +kernel
theorem dX11_musterLevy_60 : decode cX11_musterLevy 60 = .ok (.iadd, 1) := by decide +kernel
theorem dX11_musterLevy_61 : decode cX11_musterLevy 61 = .ok (.invokevirtual 339, 3) := by decide +kernel
theorem dX11_musterLevy_64 : decode cX11_musterLevy 64 = .ok (.istore 5, 2) := by decide +kernel
theorem dX11_musterLevy_66 : decode cX11_musterLevy 66 = .ok (.aload_n 3, 1) := by decide +kernel
theorem dX11_musterLevy_67 : decode cX11_musterLevy 67 = .ok (.getfield 324, 3) := by decide +kernel
theorem dX11_musterLevy_70 : decode cX11_musterLevy 70 = .ok (.ifCond .ne 17, 3) := by decide +kernel
theorem dX11_musterLevy_73 : decode cX11_musterLevy 73 = .ok (.aload_n 0, 1) := by decide +kernel
theorem dX11_musterLevy_74 : decode cX11_musterLevy 74 = .ok (.getfield 72, 3) := by decide +kernel
theorem dX11_musterLevy_77 : decode cX11_musterLevy 77 = .ok (.iload 4, 2) := by decide +kernel
theorem dX11_musterLevy_79 : decode cX11_musterLevy 79 = .ok (.iload 5, 2) := by decide +kernel
theorem dX11_musterLevy_81 : decode cX11_musterLevy 81 = .ok (.invokevirtual 448, 3) := by decide +kernel
theorem dX11_musterLevy_84 : decode cX11_musterLevy 84 = .ok (.goto 19, 3) := by decide +kernel
theorem dX11_musterLevy_87 : decode cX11_musterLevy 87 = .ok (.aload_n 0, 1) := by decide +kernel
theorem dX11_musterLevy_88 : decode cX11_musterLevy 88 = .ok (.getfield 72, 3) := by decide +kernel
theorem dX11_musterLevy_91 : decode cX11_musterLevy 91 = .ok (.aload_n 3, 1) := by decide +kernel
theorem dX11_musterLevy_92 : decode cX11_musterLevy 92 = .ok (.iload 4, 2) := by decide +kernel
theorem dX11_musterLevy_94 : decode cX11_musterLevy 94 = .ok (.iload_n 1, 1) := by decide +kernel
theorem dX11_musterLevy_95 : decode cX11_musterLevy 95 = .ok (.invokestatic 345, 3) := by decide +kernel
theorem dX11_musterLevy_98 : decode cX11_musterLevy 98 = .ok (.iload 5, 2) := by decide +kernel
theorem dX11_musterLevy_100 : decode cX11_musterLevy 100 = .ok (.invokevirtual 451, 3) := by decide +kernel
theorem dX11_musterLevy_103 : decode cX11_musterLevy 103 = .ok (.iinc 2 1, 3) := by decide +kernel
theorem dX11_musterLevy_106 : decode cX11_musterLevy 106 = .ok (.goto (-85), 3) := by decide +kernel
theorem dX11_musterLevy_109 : decode cX11_musterLevy 109 = .ok (.return_, 1) := by decide +kernel
theorem dX11_leastTaken_0 : decode cX11_leastTaken 0 = .ok (.iconst 0, 1) := by decide +kernel
theorem dX11_leastTaken_1 : decode cX11_leastTaken 1 = .ok (.istore_n 2, 1) := by decide +kernel
theorem dX11_leastTaken_2 : decode cX11_leastTaken 2 = .ok (.iconst 0, 1) := by decide +kernel
theorem dX11_leastTaken_3 : decode cX11_leastTaken 3 = .ok (.istore_n 3, 1) := by decide +kernel
theorem dX11_leastTaken_4 : decode cX11_leastTaken 4 = .ok (.iconst 0, 1) := by decide +kernel
theorem dX11_leastTaken_5 : decode cX11_leastTaken 5 = .ok (.istore 4, 2) := by decide +kernel
theorem dX11_leastTaken_7 : decode cX11_leastTaken 7 = .ok (.iload 4, 2) := by decide +kernel
theorem dX11_leastTaken_9 : decode cX11_leastTaken 9 = .ok (.aload_n 0, 1) := by decide +kernel
theorem dX11_leastTaken_10 : decode cX11_leastTaken 10 = .ok (.getfield 314, 3) := by decide +kernel
theorem dX11_leastTaken_13 : decode cX11_leastTaken 13 = .ok (.if_icmp .ge 45, 3) := by decide +kernel
theorem dX11_leastTaken_16 : decode cX11_leastTaken 16 = .ok (.iload_n 1, 1) := by decide +kernel
theorem dX11_leastTaken_17 : decode cX11_leastTaken 17 = .ok (.iload 4, 2) := by decide +kernel
theorem dX11_leastTaken_19 : decode cX11_leastTaken 19 = .ok (.ishr, 1) := by decide +kernel
theorem dX11_leastTaken_20 : decode cX11_leastTaken 20 = .ok (.iconst 1, 1) := by decide +kernel
theorem dX11_leastTaken_21 : decode cX11_leastTaken 21 = .ok (.iand, 1) := by decide +kernel
theorem dX11_leastTaken_22 : decode cX11_leastTaken 22 = .ok (.iconst 1, 1) := by decide +kernel
theorem dX11_leastTaken_23 : decode cX11_leastTaken 23 = .ok (.if_icmp .ne 29, 3) := by decide +kernel
theorem dX11_leastTaken_26 : decode cX11_leastTaken 26 = .ok (.iload_n 2, 1) := by decide +kernel
theorem dX11_leastTaken_27 : decode cX11_leastTaken 27 = .ok (.aload_n 0, 1) := by decide +kernel
theorem dX11_leastTaken_28 : decode cX11_leastTaken 28 = .ok (.getfield 43, 3) := by decide +kernel
theorem dX11_leastTaken_31 : decode cX11_leastTaken 31 = .ok (.iload 4, 2) := by decide +kernel
theorem dX11_leastTaken_33 : decode cX11_leastTaken 33 = .ok (.aaload, 1) := by decide +kernel
theorem dX11_leastTaken_34 : decode cX11_leastTaken 34 = .ok (.getfield 327, 3) := by decide +kernel
theorem dX11_leastTaken_37 : decode cX11_leastTaken 37 = .ok (.iadd, 1) := by decide +kernel
theorem dX11_leastTaken_38 : decode cX11_leastTaken 38 = .ok (.istore_n 2, 1) := by decide +kernel
theorem dX11_leastTaken_39 : decode cX11_leastTaken 39 = .ok (.iload_n 3, 1) := by decide +kernel
theorem dX11_leastTaken_40 : decode cX11_leastTaken 40 = .ok (.aload_n 0, 1) := by decide +kernel
theorem dX11_leastTaken_41 : decode cX11_leastTaken 41 = .ok (.getfield 43, 3) := by decide +kernel
theorem dX11_leastTaken_44 : decode cX11_leastTaken 44 = .ok (.iload 4, 2) := by decide +kernel
theorem dX11_leastTaken_46 : decode cX11_leastTaken 46 = .ok (.aaload, 1) := by decide +kernel
theorem dX11_leastTaken_47 : decode cX11_leastTaken 47 = .ok (.getfield 330, 3) := by decide +kernel
theorem dX11_leastTaken_50 : decode cX11_leastTaken 50 = .ok (.iadd, 1) := by decide +kernel
theorem dX11_leastTaken_51 : decode cX11_leastTaken 51 = .ok (.istore_n 3, 1) := by decide +kernel
theorem dX11_leastTaken_52 : decode cX11_leastTaken 52 = .ok (.iinc 4 1, 3) := by decide +kernel
theorem dX11_leastTaken_55 : decode cX11_leastTaken 55 = .ok (.goto (-48), 3) := by decide +kernel
theorem dX11_leastTaken_58 : decode cX11_leastTaken 58 = .ok (.aload_n 0, 1) := by decide +kernel
theorem dX11_leastTaken_59 : decode cX11_leastTaken 59 = .ok (.getfield 72, 3) := by decide +kernel
theorem dX11_leastTaken_62 : decode cX11_leastTaken 62 = .ok (.iload_n 2, 1) := by decide +kernel
theorem dX11_leastTaken_63 : decode cX11_leastTaken 63 = .ok (.iload_n 3, 1) := by decide +kernel
theorem dX11_leastTaken_64 : decode cX11_leastTaken 64 = .ok (.invokevirtual 454, 3) := by decide +kernel
theorem dX11_leastTaken_67 : decode cX11_leastTaken 67 = .ok (.ireturn, 1) := by decide +kernel
theorem dX11_give_0 : decode cX11_give 0 = .ok (.iload_n 2, 1) := by decide +kernel
theorem dX11_give_1 : decode cX11_give 1 = .ok (.invokestatic 377, 3) := by decide +kernel
theorem dX11_give_4 : decode cX11_give 4 = .ok (.ifCond .eq 14, 3) := by decide +kernel
theorem dX11_give_7 : decode cX11_give 7 = .ok (.aload_n 0, 1) := by decide +kernel
theorem dX11_give_8 : decode cX11_give 8 = .ok (.getfield 53, 3) := by decide +kernel
theorem dX11_give_11 : decode cX11_give 11 = .ok (.iload_n 2, 1) := by decide +kernel
theorem dX11_give_12 : decode cX11_give 12 = .ok (.dup2, 1) := by decide +kernel
theorem dX11_give_13 : decode cX11_give 13 = .ok (.iaload, 1) := by decide +kernel
theorem dX11_give_14 : decode cX11_give 14 = .ok (.iload_n 3, 1) := by decide +kernel
theorem dX11_give_15 : decode cX11_give 15 = .ok (.iadd, 1) := by decide +kernel
theorem dX11_give_16 : decode cX11_give 16 = .ok (.iastore, 1) := by decide +kernel
theorem dX11_give_17 : decode cX11_give 17 = .ok (.return_, 1) := by decide +kernel
theorem dX11_give_18 : decode cX11_give 18 = .ok (.aload_n 0, 1) := by decide +kernel
theorem dX11_give_19 : decode cX11_give 19 = .ok (.aload_n 1, 1) := by decide +kernel
theorem dX11_give_20 : decode cX11_give 20 = .ok (.getfield 457, 3) := by decide +kernel
theorem dX11_give_23 : decode cX11_give 23 = .ok (.invokevirtual 123, 3) := by decide +kernel
theorem dX11_give_26 : decode cX11_give 26 = .ok (.astore 4, 2) := by decide +kernel
theorem dX11_give_28 : decode cX11_give 28 = .ok (.aload 4, 2) := by decide +kernel
theorem dX11_give_30 : decode cX11_give 30 = .ok (.ifnull 14, 3) := by decide +kernel
theorem dX11_give_33 : decode cX11_give 33 = .ok (.aload 4, 2) := by decide +kernel
theorem dX11_give_35 : decode cX11_give 35 = .ok (.dup, 1) := by decide +kernel
theorem dX11_give_36 : decode cX11_give 36 = .ok (.getfield 399, 3) := by decide +kernel
theorem dX11_give_39 : decode cX11_give 39 = .ok (.iload_n 3, 1) := by decide +kernel
theorem dX11_give_40 : decode cX11_give 40 = .ok (.iadd, 1) := by decide +kernel
theorem dX11_give_41 : decode cX11_give 41 = .ok (.putfield 399, 3) := by decide +kernel
theorem dX11_give_44 : decode cX11_give 44 = .ok (.return_, 1) := by decide +kernel
theorem dX11_owedTo_0 : decode cX11_owedTo 0 = .ok (.iconst 0, 1) := by decide +kernel
theorem dX11_owedTo_1 : decode cX11_owedTo 1 = .ok (.istore_n 2, 1) := by decide +kernel
theorem dX11_owedTo_2 : decode cX11_owedTo 2 = .ok (.iconst 0, 1) := by decide +kernel
theorem dX11_owedTo_3 : decode cX11_owedTo 3 = .ok (.istore_n 3, 1) := by decide +kernel
theorem dX11_owedTo_4 : decode cX11_owedTo 4 = .ok (.iload_n 3, 1) := by decide +kernel
theorem dX11_owedTo_5 : decode cX11_owedTo 5 = .ok (.aload_n 0, 1) := by decide +kernel
theorem dX11_owedTo_6 : decode cX11_owedTo 6 = .ok (.getfield 369, 3) := by decide +kernel
theorem dX11_owedTo_9 : decode cX11_owedTo 9 = .ok (.if_icmp .ge 52, 3) := by decide +kernel
theorem dX11_owedTo_12 : decode cX11_owedTo 12 = .ok (.aload_n 0, 1) := by decide +kernel
theorem dX11_owedTo_13 : decode cX11_owedTo 13 = .ok (.getfield 49, 3) := by decide +kernel
theorem dX11_owedTo_16 : decode cX11_owedTo 16 = .ok (.iload_n 3, 1) := by decide +kernel
theorem dX11_owedTo_17 : decode cX11_owedTo 17 = .ok (.aaload, 1) := by decide +kernel
theorem dX11_owedTo_18 : decode cX11_owedTo 18 = .ok (.astore 4, 2) := by decide +kernel
theorem dX11_owedTo_20 : decode cX11_owedTo 20 = .ok (.aload 4, 2) := by decide +kernel
theorem dX11_owedTo_22 : decode cX11_owedTo 22 = .ok (.getfield 457, 3) := by decide +kernel
theorem dX11_owedTo_25 : decode cX11_owedTo 25 = .ok (.iload_n 1, 1) := by decide +kernel
theorem dX11_owedTo_26 : decode cX11_owedTo 26 = .ok (.if_icmp .ne 29, 3) := by decide +kernel
theorem dX11_owedTo_29 : decode cX11_owedTo 29 = .ok (.aload 4, 2) := by decide +kernel
theorem dX11_owedTo_31 : decode cX11_owedTo 31 = .ok (.getfield 383, 3) := by decide +kernel
theorem dX11_owedTo_34 : decode cX11_owedTo 34 = .ok (.bipush (-9), 2) := by decide +kernel
theorem dX11_owedTo_36 : decode cX11_owedTo 36 = .ok (.if_icmp .ne 19, 3) := by decide +kernel
theorem dX11_owedTo_39 : decode cX11_owedTo 39 = .ok (.aload 4, 2) := by decide +kernel
theorem dX11_owedTo_41 : decode cX11_owedTo 41 = .ok (.getfield 380, 3) := by decide +kernel
theorem dX11_owedTo_44 : decode cX11_owedTo 44 = .ok (.ifCond .ne 11, 3) := by decide +kernel
theorem dX11_owedTo_47 : decode cX11_owedTo 47 = .ok (.iload_n 2, 1) := by decide +kernel
theorem dX11_owedTo_48 : decode cX11_owedTo 48 = .ok (.aload 4, 2) := by decide +kernel
theorem dX11_owedTo_50 : decode cX11_owedTo 50 = .ok (.getfield 386, 3) := by decide +kernel
theorem dX11_owedTo_53 : decode cX11_owedTo 53 = .ok (.iadd, 1) := by decide +kernel
theorem dX11_owedTo_54 : decode cX11_owedTo 54 = .ok (.istore_n 2, 1) := by decide +kernel
theorem dX11_owedTo_55 : decode cX11_owedTo 55 = .ok (.iinc 3 1, 3) := by decide +kernel
theorem dX11_owedTo_58 : decode cX11_owedTo 58 = .ok (.goto (-54), 3) := by decide +kernel
theorem dX11_owedTo_61 : decode cX11_owedTo 61 = .ok (.iload_n 2, 1) := by decide +kernel
theorem dX11_owedTo_62 : decode cX11_owedTo 62 = .ok (.ireturn, 1) := by decide +kernel
theorem dJ6_bitCount_0f7a4_0 : decode cJ6_bitCount_0f7a4 0 = .ok (.iload_n 0, 1) := by decide +kernel
theorem dJ6_bitCount_0f7a4_1 : decode cJ6_bitCount_0f7a4 1 = .ok (.iload_n 0, 1) := by decide +kernel
theorem dJ6_bitCount_0f7a4_2 : decode cJ6_bitCount_0f7a4 2 = .ok (.iconst 1, 1) := by decide +kernel
theorem dJ6_bitCount_0f7a4_3 : decode cJ6_bitCount_0f7a4 3 = .ok (.iushr, 1) := by decide +kernel
theorem dJ6_bitCount_0f7a4_4 : decode cJ6_bitCount_0f7a4 4 = .ok (.ldc_w 265, 3) := by decide +kernel
theorem dJ6_bitCount_0f7a4_7 : decode cJ6_bitCount_0f7a4 7 = .ok (.iand, 1) := by decide +kernel
theorem dJ6_bitCount_0f7a4_8 : decode cJ6_bitCount_0f7a4 8 = .ok (.isub, 1) := by decide +kernel
theorem dJ6_bitCount_0f7a4_9 : decode cJ6_bitCount_0f7a4 9 = .ok (.istore_n 0, 1) := by decide +kernel
theorem dJ6_bitCount_0f7a4_10 : decode cJ6_bitCount_0f7a4 10 = .ok (.iload_n 0, 1) := by decide +kernel
theorem dJ6_bitCount_0f7a4_11 : decode cJ6_bitCount_0f7a4 11 = .ok (.ldc_w 266, 3) := by decide +kernel
theorem dJ6_bitCount_0f7a4_14 : decode cJ6_bitCount_0f7a4 14 = .ok (.iand, 1) := by decide +kernel
theorem dJ6_bitCount_0f7a4_15 : decode cJ6_bitCount_0f7a4 15 = .ok (.iload_n 0, 1) := by decide +kernel
theorem dJ6_bitCount_0f7a4_16 : decode cJ6_bitCount_0f7a4 16 = .ok (.iconst 2, 1) := by decide +kernel
theorem dJ6_bitCount_0f7a4_17 : decode cJ6_bitCount_0f7a4 17 = .ok (.iushr, 1) := by decide +kernel
theorem dJ6_bitCount_0f7a4_18 : decode cJ6_bitCount_0f7a4 18 = .ok (.ldc_w 266, 3) := by decide +kernel
theorem dJ6_bitCount_0f7a4_21 : decode cJ6_bitCount_0f7a4 21 = .ok (.iand, 1) := by decide +kernel
theorem dJ6_bitCount_0f7a4_22 : decode cJ6_bitCount_0f7a4 22 = .ok (.iadd, 1) := by decide +kernel
theorem dJ6_bitCount_0f7a4_23 : decode cJ6_bitCount_0f7a4 23 = .ok (.istore_n 0, 1) := by decide +kernel
theorem dJ6_bitCount_0f7a4_24 : decode cJ6_bitCount_0f7a4 24 = .ok (.iload_n 0, 1) := by decide +kernel
theorem dJ6_bitCount_0f7a4_25 : decode cJ6_bitCount_0f7a4 25 = .ok (.iload_n 0, 1) := by decide +kernel
theorem dJ6_bitCount_0f7a4_26 : decode cJ6_bitCount_0f7a4 26 = .ok (.iconst 4, 1) := by decide +kernel
theorem dJ6_bitCount_0f7a4_27 : decode cJ6_bitCount_0f7a4 27 = .ok (.iushr, 1) := by decide +kernel
theorem dJ6_bitCount_0f7a4_28 : decode cJ6_bitCount_0f7a4 28 = .ok (.iadd, 1) := by decide +kernel
theorem dJ6_bitCount_0f7a4_29 : decode cJ6_bitCount_0f7a4 29 = .ok (.ldc_w 267, 3) := by decide +kernel
theorem dJ6_bitCount_0f7a4_32 : decode cJ6_bitCount_0f7a4 32 = .ok (.iand, 1) := by decide +kernel
theorem dJ6_bitCount_0f7a4_33 : decode cJ6_bitCount_0f7a4 33 = .ok (.istore_n 0, 1) := by decide +kernel
theorem dJ6_bitCount_0f7a4_34 : decode cJ6_bitCount_0f7a4 34 = .ok (.iload_n 0, 1) := by decide +kernel
theorem dJ6_bitCount_0f7a4_35 : decode cJ6_bitCount_0f7a4 35 = .ok (.iload_n 0, 1) := by decide +kernel
theorem dJ6_bitCount_0f7a4_36 : decode cJ6_bitCount_0f7a4 36 = .ok (.bipush 8, 2) := by decide +kernel
theorem dJ6_bitCount_0f7a4_38 : decode cJ6_bitCount_0f7a4 38 = .ok (.iushr, 1) := by decide +kernel
theorem dJ6_bitCount_0f7a4_39 : decode cJ6_bitCount_0f7a4 39 = .ok (.iadd, 1) := by decide +kernel
theorem dJ6_bitCount_0f7a4_40 : decode cJ6_bitCount_0f7a4 40 = .ok (.istore_n 0, 1) := by decide +kernel
theorem dJ6_bitCount_0f7a4_41 : decode cJ6_bitCount_0f7a4 41 = .ok (.iload_n 0, 1) := by decide +kernel
theorem dJ6_bitCount_0f7a4_42 : decode cJ6_bitCount_0f7a4 42 = .ok (.iload_n 0, 1) := by decide +kernel
theorem dJ6_bitCount_0f7a4_43 : decode cJ6_bitCount_0f7a4 43 = .ok (.bipush 16, 2) := by decide +kernel
theorem dJ6_bitCount_0f7a4_45 : decode cJ6_bitCount_0f7a4 45 = .ok (.iushr, 1) := by decide +kernel
theorem dJ6_bitCount_0f7a4_46 : decode cJ6_bitCount_0f7a4 46 = .ok (.iadd, 1) := by decide +kernel
theorem dJ6_bitCount_0f7a4_47 : decode cJ6_bitCount_0f7a4 47 = .ok (.istore_n 0, 1) := by decide +kernel
theorem dJ6_bitCount_0f7a4_48 : decode cJ6_bitCount_0f7a4 48 = .ok (.iload_n 0, 1) := by decide +kernel
theorem dJ6_bitCount_0f7a4_49 : decode cJ6_bitCount_0f7a4 49 = .ok (.bipush 63, 2) := by decide +kernel
theorem dJ6_bitCount_0f7a4_51 : decode cJ6_bitCount_0f7a4 51 = .ok (.iand, 1) := by decide +kernel
theorem dJ6_bitCount_0f7a4_52 : decode cJ6_bitCount_0f7a4 52 = .ok (.ireturn, 1) := by decide +kernel
theorem dJ13_bitCount_95d88_0 : decode cJ13_bitCount_95d88 0 = .ok (.lload_n 0, 1) := by decide +kernel
theorem dJ13_bitCount_95d88_1 : decode cJ13_bitCount_95d88 1 = .ok (.lload_n 0, 1) := by decide +kernel
theorem dJ13_bitCount_95d88_2 : decode cJ13_bitCount_95d88 2 = .ok (.iconst 1, 1) := by decide +kernel
theorem dJ13_bitCount_95d88_3 : decode cJ13_bitCount_95d88 3 = .ok (.lushr, 1) := by decide +kernel
theorem dJ13_bitCount_95d88_4 : decode cJ13_bitCount_95d88 4 = .ok (.ldc2_w 314, 3) := by decide +kernel
theorem dJ13_bitCount_95d88_7 : decode cJ13_bitCount_95d88 7 = .ok (.land, 1) := by decide +kernel
theorem dJ13_bitCount_95d88_8 : decode cJ13_bitCount_95d88 8 = .ok (.lsub, 1) := by decide +kernel
theorem dJ13_bitCount_95d88_9 : decode cJ13_bitCount_95d88 9 = .ok (.lstore_n 0, 1) := by decide +kernel
theorem dJ13_bitCount_95d88_10 : decode cJ13_bitCount_95d88 10 = .ok (.lload_n 0, 1) := by decide +kernel
theorem dJ13_bitCount_95d88_11 : decode cJ13_bitCount_95d88 11 = .ok (.ldc2_w 316, 3) := by decide +kernel
theorem dJ13_bitCount_95d88_14 : decode cJ13_bitCount_95d88 14 = .ok (.land, 1) := by decide +kernel
theorem dJ13_bitCount_95d88_15 : decode cJ13_bitCount_95d88 15 = .ok (.lload_n 0, 1) := by decide +kernel
theorem dJ13_bitCount_95d88_16 : decode cJ13_bitCount_95d88 16 = .ok (.iconst 2, 1) := by decide +kernel
theorem dJ13_bitCount_95d88_17 : decode cJ13_bitCount_95d88 17 = .ok (.lushr, 1) := by decide +kernel
theorem dJ13_bitCount_95d88_18 : decode cJ13_bitCount_95d88 18 = .ok (.ldc2_w 316, 3) := by decide +kernel
theorem dJ13_bitCount_95d88_21 : decode cJ13_bitCount_95d88 21 = .ok (.land, 1) := by decide +kernel
theorem dJ13_bitCount_95d88_22 : decode cJ13_bitCount_95d88 22 = .ok (.ladd, 1) := by decide +kernel
theorem dJ13_bitCount_95d88_23 : decode cJ13_bitCount_95d88 23 = .ok (.lstore_n 0, 1) := by decide +kernel
theorem dJ13_bitCount_95d88_24 : decode cJ13_bitCount_95d88 24 = .ok (.lload_n 0, 1) := by decide +kernel
theorem dJ13_bitCount_95d88_25 : decode cJ13_bitCount_95d88 25 = .ok (.lload_n 0, 1) := by decide +kernel
theorem dJ13_bitCount_95d88_26 : decode cJ13_bitCount_95d88 26 = .ok (.iconst 4, 1) := by decide +kernel
theorem dJ13_bitCount_95d88_27 : decode cJ13_bitCount_95d88 27 = .ok (.lushr, 1) := by decide +kernel
theorem dJ13_bitCount_95d88_28 : decode cJ13_bitCount_95d88 28 = .ok (.ladd, 1) := by decide +kernel
theorem dJ13_bitCount_95d88_29 : decode cJ13_bitCount_95d88 29 = .ok (.ldc2_w 318, 3) := by decide +kernel
theorem dJ13_bitCount_95d88_32 : decode cJ13_bitCount_95d88 32 = .ok (.land, 1) := by decide +kernel
theorem dJ13_bitCount_95d88_33 : decode cJ13_bitCount_95d88 33 = .ok (.lstore_n 0, 1) := by decide +kernel
theorem dJ13_bitCount_95d88_34 : decode cJ13_bitCount_95d88 34 = .ok (.lload_n 0, 1) := by decide +kernel
theorem dJ13_bitCount_95d88_35 : decode cJ13_bitCount_95d88 35 = .ok (.lload_n 0, 1) := by decide +kernel
theorem dJ13_bitCount_95d88_36 : decode cJ13_bitCount_95d88 36 = .ok (.bipush 8, 2) := by decide +kernel
theorem dJ13_bitCount_95d88_38 : decode cJ13_bitCount_95d88 38 = .ok (.lushr, 1) := by decide +kernel
theorem dJ13_bitCount_95d88_39 : decode cJ13_bitCount_95d88 39 = .ok (.ladd, 1) := by decide +kernel
theorem dJ13_bitCount_95d88_40 : decode cJ13_bitCount_95d88 40 = .ok (.lstore_n 0, 1) := by decide +kernel
theorem dJ13_bitCount_95d88_41 : decode cJ13_bitCount_95d88 41 = .ok (.lload_n 0, 1) := by decide +kernel
theorem dJ13_bitCount_95d88_42 : decode cJ13_bitCount_95d88 42 = .ok (.lload_n 0, 1) := by decide +kernel
theorem dJ13_bitCount_95d88_43 : decode cJ13_bitCount_95d88 43 = .ok (.bipush 16, 2) := by decide +kernel
theorem dJ13_bitCount_95d88_45 : decode cJ13_bitCount_95d88 45 = .ok (.lushr, 1) := by decide +kernel
theorem dJ13_bitCount_95d88_46 : decode cJ13_bitCount_95d88 46 = .ok (.ladd, 1) := by decide +kernel
theorem dJ13_bitCount_95d88_47 : decode cJ13_bitCount_95d88 47 = .ok (.lstore_n 0, 1) := by decide +kernel
theorem dJ13_bitCount_95d88_48 : decode cJ13_bitCount_95d88 48 = .ok (.lload_n 0, 1) := by decide +kernel
theorem dJ13_bitCount_95d88_49 : decode cJ13_bitCount_95d88 49 = .ok (.lload_n 0, 1) := by decide +kernel
theorem dJ13_bitCount_95d88_50 : decode cJ13_bitCount_95d88 50 = .ok (.bipush 32, 2) := by decide +kernel
theorem dJ13_bitCount_95d88_52 : decode cJ13_bitCount_95d88 52 = .ok (.lushr, 1) := by decide +kernel
theorem dJ13_bitCount_95d88_53 : decode cJ13_bitCount_95d88 53 = .ok (.ladd, 1) := by decide +kernel
theorem dJ13_bitCount_95d88_54 : decode cJ13_bitCount_95d88 54 = .ok (.lstore_n 0, 1) := by decide +kernel
theorem dJ13_bitCount_95d88_55 : decode cJ13_bitCount_95d88 55 = .ok (.lload_n 0, 1) := by decide +kernel
theorem dJ13_bitCount_95d88_56 : decode cJ13_bitCount_95d88 56 = .ok (.l2i, 1) := by decide +kernel
theorem dJ13_bitCount_95d88_57 : decode cJ13_bitCount_95d88 57 = .ok (.bipush 127, 2) := by decide +kernel
theorem dJ13_bitCount_95d88_59 : decode cJ13_bitCount_95d88 59 = .ok (.iand, 1) := by decide +kernel
theorem dJ13_bitCount_95d88_60 : decode cJ13_bitCount_95d88 60 = .ok (.ireturn, 1) := by decide +kernel
theorem dJ9_max_7cf53_0 : decode cJ9_max_7cf53 0 = .ok (.iload_n 0, 1) := by decide +kernel
theorem dJ9_max_7cf53_1 : decode cJ9_max_7cf53 1 = .ok (.iload_n 1, 1) := by decide +kernel
theorem dJ9_max_7cf53_2 : decode cJ9_max_7cf53 2 = .ok (.if_icmp .lt 7, 3) := by decide +kernel
theorem dJ9_max_7cf53_5 : decode cJ9_max_7cf53 5 = .ok (.iload_n 0, 1) := by decide +kernel
theorem dJ9_max_7cf53_6 : decode cJ9_max_7cf53 6 = .ok (.goto 4, 3) := by decide +kernel
theorem dJ9_max_7cf53_9 : decode cJ9_max_7cf53 9 = .ok (.iload_n 1, 1) := by decide +kernel
theorem dJ9_max_7cf53_10 : decode cJ9_max_7cf53 10 = .ok (.ireturn, 1) := by decide +kernel
theorem dJ9_min_7cf53_0 : decode cJ9_min_7cf53 0 = .ok (.iload_n 0, 1) := by decide +kernel
theorem dJ9_min_7cf53_1 : decode cJ9_min_7cf53 1 = .ok (.iload_n 1, 1) := by decide +kernel
theorem dJ9_min_7cf53_2 : decode cJ9_min_7cf53 2 = .ok (.if_icmp .gt 7, 3) := by decide +kernel
theorem dJ9_min_7cf53_5 : decode cJ9_min_7cf53 5 = .ok (.iload_n 0, 1) := by decide +kernel
theorem dJ9_min_7cf53_6 : decode cJ9_min_7cf53 6 = .ok (.goto 4, 3) := by decide +kernel
theorem dJ9_min_7cf53_9 : decode cJ9_min_7cf53 9 = .ok (.iload_n 1, 1) := by decide +kernel
theorem dJ9_min_7cf53_10 : decode cJ9_min_7cf53 10 = .ok (.ireturn, 1) := by decide +kernel
theorem dJ7_fill_53178_0 : decode cJ7_fill_53178 0 = .ok (.iconst 0, 1) := by decide +kernel
theorem dJ7_fill_53178_1 : decode cJ7_fill_53178 1 = .ok (.istore_n 2, 1) := by decide +kernel
theorem dJ7_fill_53178_2 : decode cJ7_fill_53178 2 = .ok (.aload_n 0, 1) := by decide +kernel
theorem dJ7_fill_53178_3 : decode cJ7_fill_53178 3 = .ok (.arraylength, 1) := by decide +kernel
theorem dJ7_fill_53178_4 : decode cJ7_fill_53178 4 = .ok (.istore_n 3, 1) := by decide +kernel
theorem dJ7_fill_53178_5 : decode cJ7_fill_53178 5 = .ok (.iload_n 2, 1) := by decide +kernel
theorem dJ7_fill_53178_6 : decode cJ7_fill_53178 6 = .ok (.iload_n 3, 1) := by decide +kernel
theorem dJ7_fill_53178_7 : decode cJ7_fill_53178 7 = .ok (.if_icmp .ge 13, 3) := by decide +kernel
theorem dJ7_fill_53178_10 : decode cJ7_fill_53178 10 = .ok (.aload_n 0, 1) := by decide +kernel
theorem dJ7_fill_53178_11 : decode cJ7_fill_53178 11 = .ok (.iload_n 2, 1) := by decide +kernel
theorem dJ7_fill_53178_12 : decode cJ7_fill_53178 12 = .ok (.iload_n 1, 1) := by decide +kernel
theorem dJ7_fill_53178_13 : decode cJ7_fill_53178 13 = .ok (.iastore, 1) := by decide +kernel
theorem dJ7_fill_53178_14 : decode cJ7_fill_53178 14 = .ok (.iinc 2 1, 3) := by decide +kernel
theorem dJ7_fill_53178_17 : decode cJ7_fill_53178 17 = .ok (.goto (-12), 3) := by decide +kernel
theorem dJ7_fill_53178_20 : decode cJ7_fill_53178 20 = .ok (.return_, 1) := by decide +kernel
theorem dJ7_copyOf_59c91_0 : decode cJ7_copyOf_59c91 0 = .ok (.iload_n 1, 1) := by decide +kernel
theorem dJ7_copyOf_59c91_1 : decode cJ7_copyOf_59c91 1 = .ok (.aload_n 0, 1) := by decide +kernel
theorem dJ7_copyOf_59c91_2 : decode cJ7_copyOf_59c91 2 = .ok (.arraylength, 1) := by decide +kernel
theorem dJ7_copyOf_59c91_3 : decode cJ7_copyOf_59c91 3 = .ok (.if_icmp .ne 11, 3) := by decide +kernel
theorem dJ7_copyOf_59c91_6 : decode cJ7_copyOf_59c91 6 = .ok (.aload_n 0, 1) := by decide +kernel
theorem dJ7_copyOf_59c91_7 : decode cJ7_copyOf_59c91 7 = .ok (.invokevirtual 316, 3) := by decide +kernel
theorem dJ7_copyOf_59c91_10 : decode cJ7_copyOf_59c91 10 = .ok (.checkcast 317, 3) := by decide +kernel
theorem dJ7_copyOf_59c91_13 : decode cJ7_copyOf_59c91 13 = .ok (.areturn, 1) := by decide +kernel
theorem dJ7_copyOf_59c91_14 : decode cJ7_copyOf_59c91 14 = .ok (.iload_n 1, 1) := by decide +kernel
theorem dJ7_copyOf_59c91_15 : decode cJ7_copyOf_59c91 15 = .ok (.newarray .int, 2) := by decide +kernel
theorem dJ7_copyOf_59c91_17 : decode cJ7_copyOf_59c91 17 = .ok (.astore_n 2, 1) := by decide +kernel
theorem dJ7_copyOf_59c91_18 : decode cJ7_copyOf_59c91 18 = .ok (.aload_n 0, 1) := by decide +kernel
theorem dJ7_copyOf_59c91_19 : decode cJ7_copyOf_59c91 19 = .ok (.iconst 0, 1) := by decide +kernel
theorem dJ7_copyOf_59c91_20 : decode cJ7_copyOf_59c91 20 = .ok (.aload_n 2, 1) := by decide +kernel
theorem dJ7_copyOf_59c91_21 : decode cJ7_copyOf_59c91 21 = .ok (.iconst 0, 1) := by decide +kernel
theorem dJ7_copyOf_59c91_22 : decode cJ7_copyOf_59c91 22 = .ok (.aload_n 0, 1) := by decide +kernel
theorem dJ7_copyOf_59c91_23 : decode cJ7_copyOf_59c91 23 = .ok (.arraylength, 1) := by decide +kernel
theorem dJ7_copyOf_59c91_24 : decode cJ7_copyOf_59c91 24 = .ok (.iload_n 1, 1) := by decide +kernel
theorem dJ7_copyOf_59c91_25 : decode cJ7_copyOf_59c91 25 = .ok (.invokestatic 304, 3) := by decide +kernel
theorem dJ7_copyOf_59c91_28 : decode cJ7_copyOf_59c91 28 = .ok (.invokestatic 150, 3) := by decide +kernel
theorem dJ7_copyOf_59c91_31 : decode cJ7_copyOf_59c91 31 = .ok (.aload_n 2, 1) := by decide +kernel
theorem dJ7_copyOf_59c91_32 : decode cJ7_copyOf_59c91 32 = .ok (.areturn, 1) := by decide +kernel
end
section
theorem dX12_init_0 : decode cX12_init 0 = .ok (.aload_n 0, 1) := by decide +kernel
theorem dX12_init_1 : decode cX12_init 1 = .ok (.invokespecial 1, 3) := by decide +kernel
theorem dX12_init_4 : decode cX12_init 4 = .ok (.aload_n 0, 1) := by decide +kernel
theorem dX12_init_5 : decode cX12_init 5 = .ok (.iconst 4, 1) := by decide +kernel
theorem dX12_init_6 : decode cX12_init 6 = .ok (.putfield 7, 3) := by decide +kernel
theorem dX12_init_9 : decode cX12_init 9 = .ok (.aload_n 0, 1) := by decide +kernel
theorem dX12_init_10 : decode cX12_init 10 = .ok (.bipush 64, 2) := by decide +kernel
theorem dX12_init_12 : decode cX12_init 12 = .ok (.newarray .boolean, 2) := by decide +kernel
theorem dX12_init_14 : decode cX12_init 14 = .ok (.putfield 13, 3) := by decide +kernel
theorem dX12_init_17 : decode cX12_init 17 = .ok (.aload_n 0, 1) := by decide +kernel
theorem dX12_init_18 : decode cX12_init 18 = .ok (.bipush 64, 2) := by decide +kernel
theorem dX12_init_20 : decode cX12_init 20 = .ok (.newarray .int, 2) := by decide +kernel
theorem dX12_init_22 : decode cX12_init 22 = .ok (.putfield 17, 3) := by decide +kernel
theorem dX12_init_25 : decode cX12_init 25 = .ok (.aload_n 0, 1) := by decide +kernel
theorem dX12_init_26 : decode cX12_init 26 = .ok (.sipush 320, 3) := by decide +kernel
theorem dX12_init_29 : decode cX12_init 29 = .ok (.newarray .int, 2) := by decide +kernel
theorem dX12_init_31 : decode cX12_init 31 = .ok (.putfield 21, 3) := by decide +kernel
theorem dX12_init_34 : decode cX12_init 34 = .ok (.aload_n 0, 1) := by decide +kernel
theorem dX12_init_35 : decode cX12_init 35 = .ok (.bipush 40, 2) := by decide +kernel
theorem dX12_init_37 : decode cX12_init 37 = .ok (.newarray .int, 2) := by decide +kernel
theorem dX12_init_39 : decode cX12_init 39 = .ok (.putfield 24, 3) := by decide +kernel
theorem dX12_init_42 : decode cX12_init 42 = .ok (.aload_n 0, 1) := by decide +kernel
theorem dX12_init_43 : decode cX12_init 43 = .ok (.ldc 27, 2) := by decide +kernel
theorem dX12_init_45 : decode cX12_init 45 = .ok (.newarray .int, 2) := by decide +kernel
theorem dX12_init_47 : decode cX12_init 47 = .ok (.putfield 28, 3) := by decide +kernel
theorem dX12_init_50 : decode cX12_init 50 = .ok (.aload_n 0, 1) := by decide +kernel
theorem dX12_init_51 : decode cX12_init 51 = .ok (.bipush 10, 2) := by decide +kernel
theorem dX12_init_53 : decode cX12_init 53 = .ok (.newarray .int, 2) := by decide +kernel
theorem dX12_init_55 : decode cX12_init 55 = .ok (.putfield 31, 3) := by decide +kernel
theorem dX12_init_58 : decode cX12_init 58 = .ok (.aload_n 0, 1) := by decide +kernel
theorem dX12_init_59 : decode cX12_init 59 = .ok (.bipush 10, 2) := by decide +kernel
theorem dX12_init_61 : decode cX12_init 61 = .ok (.newarray .int, 2) := by decide +kernel
theorem dX12_init_63 : decode cX12_init 63 = .ok (.putfield 34, 3) := by decide +kernel
theorem dX12_init_66 : decode cX12_init 66 = .ok (.aload_n 0, 1) := by decide +kernel
theorem dX12_init_67 : decode cX12_init 67 = .ok (.bipush 10, 2) := by decide +kernel
theorem dX12_init_69 : decode cX12_init 69 = .ok (.newarray .int, 2) := by decide +kernel
theorem dX12_init_71 : decode cX12_init 71 = .ok (.putfield 37, 3) := by decide +kernel
theorem dX12_init_74 : decode cX12_init 74 = .ok (.aload_n 0, 1) := by decide +kernel
theorem dX12_init_75 : decode cX12_init 75 = .ok (.bipush 10, 2) := by decide +kernel
theorem dX12_init_77 : decode cX12_init 77 = .ok (.newarray .int, 2) := by decide +kernel
theorem dX12_init_79 : decode cX12_init 79 = .ok (.putfield 40, 3) := by decide +kernel
theorem dX12_init_82 : decode cX12_init 82 = .ok (.aload_n 0, 1) := by decide +kernel
theorem dX12_init_83 : decode cX12_init 83 = .ok (.bipush 10, 2) := by decide +kernel
theorem dX12_init_85 : decode cX12_init 85 = .ok (.newarray .boolean, 2) := by decide +kernel
theorem dX12_init_87 : decode cX12_init 87 = .ok (.putfield 43, 3) := by decide +kernel
theorem dX12_init_90 : decode cX12_init 90 = .ok (.aload_n 0, 1) := by decide +kernel
theorem dX12_init_91 : decode cX12_init 91 = .ok (.sipush 540, 3) := by decide +kernel
theorem dX12_init_94 : decode cX12_init 94 = .ok (.newarray .int, 2) := by decide +kernel
theorem dX12_init_96 : decode cX12_init 96 = .ok (.putfield 46, 3) := by decide +kernel
theorem dX12_init_99 : decode cX12_init 99 = .ok (.aload_n 0, 1) := by decide +kernel
theorem dX12_init_100 : decode cX12_init 100 = .ok (.bipush 8, 2) := by decide +kernel
theorem dX12_init_102 : decode cX12_init 102 = .ok (.newarray .int, 2) := by decide +kernel
theorem dX12_init_104 : decode cX12_init 104 = .ok (.putfield 49, 3) := by decide +kernel
theorem dX12_init_107 : decode cX12_init 107 = .ok (.aload_n 0, 1) := by decide +kernel
theorem dX12_init_108 : decode cX12_init 108 = .ok (.bipush 8, 2) := by decide +kernel
theorem dX12_init_110 : decode cX12_init 110 = .ok (.newarray .int, 2) := by decide +kernel
theorem dX12_init_112 : decode cX12_init 112 = .ok (.putfield 52, 3) := by decide +kernel
theorem dX12_init_115 : decode cX12_init 115 = .ok (.aload_n 0, 1) := by decide +kernel
theorem dX12_init_116 : decode cX12_init 116 = .ok (.sipush 480, 3) := by decide +kernel
theorem dX12_init_119 : decode cX12_init 119 = .ok (.newarray .int, 2) := by decide +kernel
theorem dX12_init_121 : decode cX12_init 121 = .ok (.putfield 55, 3) := by decide +kernel
theorem dX12_init_124 : decode cX12_init 124 = .ok (.aload_n 0, 1) := by decide +kernel
theorem dX12_init_125 : decode cX12_init 125 = .ok (.bipush 64, 2) := by decide +kernel
theorem dX12_init_127 : decode cX12_init 127 = .ok (.newarray .boolean, 2) := by decide +kernel
theorem dX12_init_129 : decode cX12_init 129 = .ok (.putfield 58, 3) := by decide +kernel
theorem dX12_init_132 : decode cX12_init 132 = .ok (.aload_n 0, 1) := by decide +kernel
theorem dX12_init_133 : decode cX12_init 133 = .ok (.sipush 360, 3) := by decide +kernel
theorem dX12_init_136 : decode cX12_init 136 = .ok (.newarray .int, 2) := by decide +kernel
theorem dX12_init_138 : decode cX12_init 138 = .ok (.putfield 61, 3) := by decide +kernel
theorem dX12_init_141 : decode cX12_init 141 = .ok (.aload_n 0, 1) := by decide +kernel
theorem dX12_init_142 : decode cX12_init 142 = .ok (.bipush 10, 2) := by decide +kernel
theorem dX12_init_144 : decode cX12_init 144 = .ok (.putfield 64, 3) := by decide +kernel
theorem dX12_init_147 : decode cX12_init 147 = .ok (.aload_n 0, 1) := by decide +kernel
theorem dX12_init_148 : decode cX12_init 148 = .ok (.bipush 50, 2) := by decide +kernel
theorem dX12_init_150 : decode cX12_init 150 = .ok (.putfield 67, 3) := by decide +kernel
theorem dX12_init_153 : decode cX12_init 153 = .ok (.aload_n 0, 1) := by decide +kernel
theorem dX12_init_154 : decode cX12_init 154 = .ok (.bipush 8, 2) := by decide +kernel
theorem dX12_init_156 : decode cX12_init 156 = .ok (.newarray .int, 2) := by decide +kernel
theorem dX12_init_158 : decode cX12_init 158 = .ok (.putfield 70, 3) := by decide +kernel
theorem dX12_init_161 : decode cX12_init 161 = .ok (.aload_n 0, 1) := by decide +kernel
theorem dX12_init_162 : decode cX12_init 162 = .ok (.bipush 6, 2) := by decide +kernel
theorem dX12_init_164 : decode cX12_init 164 = .ok (.newarray .int, 2) := by decide +kernel
theorem dX12_init_166 : decode cX12_init 166 = .ok (.putfield 73, 3) := by decide +kernel
theorem dX12_init_169 : decode cX12_init 169 = .ok (.aload_n 0, 1) := by decide +kernel
theorem dX12_init_170 : decode cX12_init 170 = .ok (.bipush 8, 2) := by decide +kernel
theorem dX12_init_172 : decode cX12_init 172 = .ok (.newarray .int, 2) := by decide +kernel
theorem dX12_init_174 : decode cX12_init 174 = .ok (.putfield 76, 3) := by decide +kernel
theorem dX12_init_177 : decode cX12_init 177 = .ok (.aload_n 0, 1) := by decide +kernel
theorem dX12_init_178 : decode cX12_init 178 = .ok (.bipush 40, 2) := by decide +kernel
theorem dX12_init_180 : decode cX12_init 180 = .ok (.newarray .int, 2) := by decide +kernel
theorem dX12_init_182 : decode cX12_init 182 = .ok (.putfield 79, 3) := by decide +kernel
theorem dX12_init_185 : decode cX12_init 185 = .ok (.aload_n 0, 1) := by decide +kernel
theorem dX12_init_186 : decode cX12_init 186 = .ok (.bipush 40, 2) := by decide +kernel
theorem dX12_init_188 : decode cX12_init 188 = .ok (.newarray .int, 2) := by decide +kernel
theorem dX12_init_190 : decode cX12_init 190 = .ok (.putfield 82, 3) := by decide +kernel
theorem dX12_init_193 : decode cX12_init 193 = .ok (.aload_n 0, 1) := by decide +kernel
theorem dX12_init_194 : decode cX12_init 194 = .ok (.bipush 40, 2) := by decide +kernel
theorem dX12_init_196 : decode cX12_init 196 = .ok (.newarray .int, 2) := by decide +kernel
theorem dX12_init_198 : decode cX12_init 198 = .ok (.putfield 85, 3) := by decide +kernel
theorem dX12_init_201 : decode cX12_init 201 = .ok (.aload_n 0, 1) := by decide +kernel
theorem dX12_init_202 : decode cX12_init 202 = .ok (.bipush 40, 2) := by decide +kernel
theorem dX12_init_204 : decode cX12_init 204 = .ok (.newarray .boolean, 2) := by decide +kernel
theorem dX12_init_206 : decode cX12_init 206 = .ok (.putfield 88, 3) := by decide +kernel
theorem dX12_init_209 : decode cX12_init 209 = .ok (.aload_n 0, 1) := by decide +kernel
theorem dX12_init_210 : decode cX12_init 210 = .ok (.bipush 40, 2) := by decide +kernel
theorem dX12_init_212 : decode cX12_init 212 = .ok (.newarray .int, 2) := by decide +kernel
theorem dX12_init_214 : decode cX12_init 214 = .ok (.putfield 91, 3) := by decide +kernel
theorem dX12_init_217 : decode cX12_init 217 = .ok (.aload_n 0, 1) := by decide +kernel
theorem dX12_init_218 : decode cX12_init 218 = .ok (.bipush 10, 2) := by decide +kernel
theorem dX12_init_220 : decode cX12_init 220 = .ok (.newarray .int, 2) := by decide +kernel
theorem dX12_init_222 : decode cX12_init 222 = .ok (.putfield 94, 3) := by decide +kernel
theorem dX12_init_225 : decode cX12_init 225 = .ok (.aload_n 0, 1) := by decide +kernel
theorem dX12_init_226 : decode cX12_init 226 = .ok (.bipush 40, 2) := by decide +kernel
theorem dX12_init_228 : decode cX12_init 228 = .ok (.newarray .int, 2) := by decide +kernel
theorem dX12_init_230 : decode cX12_init 230 = .ok (.putfield 97, 3) := by decide +kernel
theorem dX12_init_233 : decode cX12_init 233 = .ok (.return_, 1) := by decide +kernel
theorem dX12_in_0 : decode cX12_in 0 = .ok (.lload_n 0, 1) := by decide +kernel
theorem dX12_in_1 : decode cX12_in 1 = .ok (.lload_n 2, 1) := by decide +kernel
theorem dX12_in_2 : decode cX12_in 2 = .ok (.lcmp, 1) := by decide +kernel
theorem dX12_in_3 : decode cX12_in 3 = .ok (.ifCond .lt 14, 3) := by decide +kernel
theorem dX12_in_6 : decode cX12_in 6 = .ok (.lload_n 0, 1) := by decide +kernel
theorem dX12_in_7 : decode cX12_in 7 = .ok (.lload 4, 2) := by decide +kernel
theorem dX12_in_9 : decode cX12_in 9 = .ok (.lcmp, 1) := by decide +kernel
theorem dX12_in_10 : decode cX12_in 10 = .ok (.ifCond .gt 7, 3) := by decide +kernel
theorem dX12_in_13 : decode cX12_in 13 = .ok (.iconst 1, 1) := by decide +kernel
theorem dX12_in_14 : decode cX12_in 14 = .ok (.goto 4, 3) := by decide +kernel
theorem dX12_in_17 : decode cX12_in 17 = .ok (.iconst 0, 1) := by decide +kernel
theorem dX12_in_18 : decode cX12_in 18 = .ok (.ireturn, 1) := by decide +kernel
theorem dX12_noStreet_0 : decode cX12_noStreet 0 = .ok (.iload_n 1, 1) := by decide +kernel
theorem dX12_noStreet_1 : decode cX12_noStreet 1 = .ok (.i2l, 1) := by decide +kernel
theorem dX12_noStreet_2 : decode cX12_noStreet 2 = .ok (.lconst 0, 1) := by decide +kernel
theorem dX12_noStreet_3 : decode cX12_noStreet 3 = .ok (.aload_n 0, 1) := by decide +kernel
theorem dX12_noStreet_4 : decode cX12_noStreet 4 = .ok (.getfield 7, 3) := by decide +kernel
theorem dX12_noStreet_7 : decode cX12_noStreet 7 = .ok (.iconst 1, 1) := by decide +kernel
theorem dX12_noStreet_8 : decode cX12_noStreet 8 = .ok (.isub, 1) := by decide +kernel
theorem dX12_noStreet_9 : decode cX12_noStreet 9 = .ok (.i2l, 1) := by decide +kernel
theorem dX12_noStreet_10 : decode cX12_noStreet 10 = .ok (.invokestatic 103, 3) := by decide +kernel
theorem dX12_noStreet_13 : decode cX12_noStreet 13 = .ok (.ifCond .ne 7, 3) := by decide +kernel
theorem dX12_noStreet_16 : decode cX12_noStreet 16 = .ok (.iconst 1, 1) := by decide +kernel
theorem dX12_noStreet_17 : decode cX12_noStreet 17 = .ok (.goto 4, 3) := by decide +kernel
theorem dX12_noStreet_20 : decode cX12_noStreet 20 = .ok (.iconst 0, 1) := by decide +kernel
theorem dX12_noStreet_21 : decode cX12_noStreet 21 = .ok (.ireturn, 1) := by decide +kernel
theorem dX12_noMan_0 : decode cX12_noMan 0 = .ok (.iload_n 1, 1) := by decide +kernel
theorem dX12_noMan_1 : decode cX12_noMan 1 = .ok (.i2l, 1) := by decide +kernel
theorem dX12_noMan_2 : decode cX12_noMan 2 = .ok (.lconst 0, 1) := by decide +kernel
theorem dX12_noMan_3 : decode cX12_noMan 3 = .ok (.aload_n 0, 1) := by decide +kernel
theorem dX12_noMan_4 : decode cX12_noMan 4 = .ok (.getfield 107, 3) := by decide +kernel
theorem dX12_noMan_7 : decode cX12_noMan 7 = .ok (.iconst 1, 1) := by decide +kernel
theorem dX12_noMan_8 : decode cX12_noMan 8 = .ok (.isub, 1) := by decide +kernel
theorem dX12_noMan_9 : decode cX12_noMan 9 = .ok (.i2l, 1) := by decide +kernel
theorem dX12_noMan_10 : decode cX12_noMan 10 = .ok (.invokestatic 103, 3) := by decide +kernel
theorem dX12_noMan_13 : decode cX12_noMan 13 = .ok (.ifCond .ne 7, 3) := by decide +kernel
theorem dX12_noMan_16 : decode cX12_noMan 16 = .ok (.iconst 1, 1) := by decide +kernel
theorem dX12_noMan_17 : decode cX12_noMan 17 = .ok (.goto 4, 3) := by decide +kernel
theorem dX12_noMan_20 : decode cX12_noMan 20 = .ok (.iconst 0, 1) := by decide +kernel
theorem dX12_noMan_21 : decode cX12_noMan 21 = .ok (.ireturn, 1) := by decide +kernel
theorem dX12_noShip_0 : decode cX12_noShip 0 = .ok (.iload_n 1, 1) := by decide +kernel
theorem dX12_noShip_1 : decode cX12_noShip 1 = .ok (.i2l, 1) := by decide +kernel
theorem dX12_noShip_2 : decode cX12_noShip 2 = .ok (.lconst 0, 1) := by decide +kernel
theorem dX12_noShip_3 : decode cX12_noShip 3 = .ok (.aload_n 0, 1) := by decide +kernel
theorem dX12_noShip_4 : decode cX12_noShip 4 = .ok (.getfield 110, 3) := by decide +kernel
theorem dX12_noShip_7 : decode cX12_noShip 7 = .ok (.iconst 1, 1) := by decide +kernel
theorem dX12_noShip_8 : decode cX12_noShip 8 = .ok (.isub, 1) := by decide +kernel
theorem dX12_noShip_9 : decode cX12_noShip 9 = .ok (.i2l, 1) := by decide +kernel
theorem dX12_noShip_10 : decode cX12_noShip 10 = .ok (.invokestatic 103, 3) := by decide +kernel
theorem dX12_noShip_13 : decode cX12_noShip 13 = .ok (.ifCond .ne 7, 3) := by decide +kernel
theorem dX12_noShip_16 : decode cX12_noShip 16 = .ok (.iconst 1, 1) := by decide +kernel
theorem dX12_noShip_17 : decode cX12_noShip 17 = .ok (.goto 4, 3) := by decide +kernel
theorem dX12_noShip_20 : decode cX12_noShip 20 = .ok (.iconst 0, 1) := by decide +kernel
theorem dX12_noShip_21 : decode cX12_noShip 21 = .ok (.ireturn, 1) := by decide +kernel
theorem dX12_noPaper_0 : decode cX12_noPaper 0 = .ok (.iload_n 1, 1) := by decide +kernel
theorem dX12_noPaper_1 : decode cX12_noPaper 1 = .ok (.i2l, 1) := by decide +kernel
theorem dX12_noPaper_2 : decode cX12_noPaper 2 = .ok (.lconst 0, 1) := by decide +kernel
theorem dX12_noPaper_3 : decode cX12_noPaper 3 = .ok (.aload_n 0, 1) := by decide +kernel
theorem dX12_noPaper_4 : decode cX12_noPaper 4 = .ok (.getfield 113, 3) := by decide +kernel
theorem dX12_noPaper_7 : decode cX12_noPaper 7 = .ok (.iconst 1, 1) := by decide +kernel
theorem dX12_noPaper_8 : decode cX12_noPaper 8 = .ok (.isub, 1) := by decide +kernel
theorem dX12_noPaper_9 : decode cX12_noPaper 9 = .ok (.i2l, 1) := by decide +kernel
theorem dX12_noPaper_10 : decode cX12_noPaper 10 = .ok (.invokestatic 103, 3) := by decide +kernel
theorem dX12_noPaper_13 : decode cX12_noPaper 13 = .ok (.ifCond .ne 7, 3) := by decide +kernel
theorem dX12_noPaper_16 : decode cX12_noPaper 16 = .ok (.iconst 1, 1) := by decide +kernel
theorem dX12_noPaper_17 : decode cX12_noPaper 17 = .ok (.goto 4, 3) := by decide +kernel
theorem dX12_noPaper_20 : decode cX12_noPaper 20 = .ok (.iconst 0, 1) := by decide +kernel
theorem dX12_noPaper_21 : decode cX12_noPaper 21 = .ok (.ireturn, 1) := by decide +kernel
theorem dX12_noTide_0 : decode cX12_noTide 0 = .ok (.iload_n 0, 1) := by decide +kernel
theorem dX12_noTide_1 : decode cX12_noTide 1 = .ok (.i2l, 1) := by decide +kernel
theorem dX12_noTide_2 : decode cX12_noTide 2 = .ok (.lconst 0, 1) := by decide +kernel
theorem dX12_noTide_3 : decode cX12_noTide 3 = .ok (.ldc2_w 116, 3) := by decide +kernel
theorem dX12_noTide_6 : decode cX12_noTide 6 = .ok (.invokestatic 103, 3) := by decide +kernel
theorem dX12_noTide_9 : decode cX12_noTide 9 = .ok (.ifCond .ne 7, 3) := by decide +kernel
theorem dX12_noTide_12 : decode cX12_noTide 12 = .ok (.iconst 1, 1) := by decide +kernel
theorem dX12_noTide_13 : decode cX12_noTide 13 = .ok (.goto 4, 3) := by decide +kernel
theorem dX12_noTide_16 : decode cX12_noTide 16 = .ok (.iconst 0, 1) := by decide +kernel
theorem dX12_noTide_17 : decode cX12_noTide 17 = .ok (.ireturn, 1) := by decide +kernel
theorem dX12_streets_0 : decode cX12_streets 0 = .ok (.aload_n 0, 1) := by decide +kernel
theorem dX12_streets_1 : decode cX12_streets 1 = .ok (.iconst 0, 1) := by decide +kernel
theorem dX12_streets_2 : decode cX12_streets 2 = .ok (.putfield 100, 3) := by decide +kernel
theorem dX12_streets_5 : decode cX12_streets 5 = .ok (.iload_n 1, 1) := by decide +kernel
theorem dX12_streets_6 : decode cX12_streets 6 = .ok (.i2l, 1) := by decide +kernel
theorem dX12_streets_7 : decode cX12_streets 7 = .ok (.lconst 1, 1) := by decide +kernel
theorem dX12_streets_8 : decode cX12_streets 8 = .ok (.ldc2_w 118, 3) := by decide +kernel
theorem dX12_streets_11 : decode cX12_streets 11 = .ok (.invokestatic 103, 3) := by decide +kernel
theorem dX12_streets_14 : decode cX12_streets 14 = .ok (.ifCond .ne 6, 3) := by decide +kernel
theorem dX12_streets_17 : decode cX12_streets 17 = .ok (.bipush (-2), 2) := by decide +kernel
theorem dX12_streets_19 : decode cX12_streets 19 = .ok (.ireturn, 1) := by decide +kernel
theorem dX12_streets_20 : decode cX12_streets 20 = .ok (.aload_n 0, 1) := by decide +kernel
theorem dX12_streets_21 : decode cX12_streets 21 = .ok (.getfield 107, 3) := by decide +kernel
theorem dX12_streets_24 : decode cX12_streets 24 = .ok (.ifCond .le 6, 3) := by decide +kernel
theorem dX12_streets_27 : decode cX12_streets 27 = .ok (.bipush (-3), 2) := by decide +kernel
theorem dX12_streets_29 : decode cX12_streets 29 = .ok (.ireturn, 1) := by decide +kernel
theorem dX12_streets_30 : decode cX12_streets 30 = .ok (.aload_n 0, 1) := by decide +kernel
theorem dX12_streets_31 : decode cX12_streets 31 = .ok (.getfield 7, 3) := by decide +kernel
theorem dX12_streets_34 : decode cX12_streets 34 = .ok (.istore_n 2, 1) := by decide +kernel
theorem dX12_streets_35 : decode cX12_streets 35 = .ok (.aload_n 0, 1) := by decide +kernel
theorem dX12_streets_36 : decode cX12_streets 36 = .ok (.iload_n 1, 1) := by decide +kernel
theorem dX12_streets_37 : decode cX12_streets 37 = .ok (.putfield 7, 3) := by decide +kernel
theorem dX12_streets_40 : decode cX12_streets 40 = .ok (.iconst 0, 1) := by decide +kernel
theorem dX12_streets_41 : decode cX12_streets 41 = .ok (.istore_n 3, 1) := by decide +kernel
theorem dX12_streets_42 : decode cX12_streets 42 = .ok (.iload_n 3, 1) := by decide +kernel
theorem dX12_streets_43 : decode cX12_streets 43 = .ok (.bipush 8, 2) := by decide +kernel
theorem dX12_streets_45 : decode cX12_streets 45 = .ok (.if_icmp .ge 68, 3) := by decide +kernel
theorem dX12_streets_48 : decode cX12_streets 48 = .ok (.iconst 0, 1) := by decide +kernel
theorem dX12_streets_49 : decode cX12_streets 49 = .ok (.istore 4, 2) := by decide +kernel
theorem dX12_streets_51 : decode cX12_streets 51 = .ok (.iload 4, 2) := by decide +kernel
theorem dX12_streets_53 : decode cX12_streets 53 = .ok (.bipush 8, 2) := by decide +kernel
theorem dX12_streets_55 : decode cX12_streets 55 = .ok (.if_icmp .ge 52, 3) := by decide +kernel
theorem dX12_streets_58 : decode cX12_streets 58 = .ok (.aload_n 0, 1) := by decide +kernel
theorem dX12_streets_59 : decode cX12_streets 59 = .ok (.getfield 13, 3) := by decide +kernel
theorem dX12_streets_62 : decode cX12_streets 62 = .ok (.bipush 8, 2) := by decide +kernel
theorem dX12_streets_64 : decode cX12_streets 64 = .ok (.iload_n 3, 1) := by decide +kernel
theorem dX12_streets_65 : decode cX12_streets 65 = .ok (.imul, 1) := by decide +kernel
theorem dX12_streets_66 : decode cX12_streets 66 = .ok (.iload 4, 2) := by decide +kernel
theorem dX12_streets_68 : decode cX12_streets 68 = .ok (.iadd, 1) := by decide +kernel
theorem dX12_streets_69 : decode cX12_streets 69 = .ok (.aload_n 0, 1) := by decide +kernel
theorem dX12_streets_70 : decode cX12_streets 70 = .ok (.getfield 13, 3) := by decide +kernel
theorem dX12_streets_73 : decode cX12_streets 73 = .ok (.bipush 8, 2) := by decide +kernel
theorem dX12_streets_75 : decode cX12_streets 75 = .ok (.iload_n 3, 1) := by decide +kernel
theorem dX12_streets_76 : decode cX12_streets 76 = .ok (.imul, 1) := by decide +kernel
theorem dX12_streets_77 : decode cX12_streets 77 = .ok (.iload 4, 2) := by decide +kernel
theorem dX12_streets_79 : decode cX12_streets 79 = .ok (.iadd, 1) := by decide +kernel
theorem dX12_streets_80 : decode cX12_streets 80 = .ok (.baload, 1) := by decide +kernel
theorem dX12_streets_81 : decode cX12_streets 81 = .ok (.ifCond .eq 18, 3) := by decide +kernel
theorem dX12_streets_84 : decode cX12_streets 84 = .ok (.iload_n 3, 1) := by decide +kernel
theorem dX12_streets_85 : decode cX12_streets 85 = .ok (.iload_n 1, 1) := by decide +kernel
theorem dX12_streets_86 : decode cX12_streets 86 = .ok (.if_icmp .ge 13, 3) := by decide +kernel
theorem dX12_streets_89 : decode cX12_streets 89 = .ok (.iload 4, 2) := by decide +kernel
theorem dX12_streets_91 : decode cX12_streets 91 = .ok (.iload_n 1, 1) := by decide +kernel
theorem dX12_streets_92 : decode cX12_streets 92 = .ok (.if_icmp .ge 7, 3) := by decide +kernel
theorem dX12_streets_95 : decode cX12_streets 95 = .ok (.iconst 1, 1) := by decide +kernel
theorem dX12_streets_96 : decode cX12_streets 96 = .ok (.goto 4, 3) := by decide +kernel
theorem dX12_streets_99 : decode cX12_streets 99 = .ok (.iconst 0, 1) := by decide +kernel
theorem dX12_streets_100 : decode cX12_streets 100 = .ok (.bastore, 1) := by decide +kernel
theorem dX12_streets_101 : decode cX12_streets 101 = .ok (.iinc 4 1, 3) := by decide +kernel
theorem dX12_streets_104 : decode cX12_streets 104 = .ok (.goto (-53), 3) := by decide +kernel
theorem dX12_streets_107 : decode cX12_streets 107 = .ok (.iinc 3 1, 3) := by decide +kernel
theorem dX12_streets_110 : decode cX12_streets 110 = .ok (.goto (-68), 3) := by decide +kernel
theorem dX12_streets_113 : decode cX12_streets 113 = .ok (.iload_n 2, 1) := by decide +kernel
theorem dX12_streets_114 : decode cX12_streets 114 = .ok (.ireturn, 1) := by decide +kernel
theorem dX12_way_0 : decode cX12_way 0 = .ok (.aload_n 0, 1) := by decide +kernel
theorem dX12_way_1 : decode cX12_way 1 = .ok (.iconst 0, 1) := by decide +kernel
theorem dX12_way_2 : decode cX12_way 2 = .ok (.putfield 100, 3) := by decide +kernel
theorem dX12_way_5 : decode cX12_way 5 = .ok (.aload_n 0, 1) := by decide +kernel
theorem dX12_way_6 : decode cX12_way 6 = .ok (.iload_n 1, 1) := by decide +kernel
theorem dX12_way_7 : decode cX12_way 7 = .ok (.invokevirtual 120, 3) := by decide +kernel
theorem dX12_way_10 : decode cX12_way 10 = .ok (.ifCond .ne 11, 3) := by decide +kernel
theorem dX12_way_13 : decode cX12_way 13 = .ok (.aload_n 0, 1) := by decide +kernel
theorem dX12_way_14 : decode cX12_way 14 = .ok (.iload_n 2, 1) := by decide +kernel
theorem dX12_way_15 : decode cX12_way 15 = .ok (.invokevirtual 120, 3) := by decide +kernel
theorem dX12_way_18 : decode cX12_way 18 = .ok (.ifCond .eq 5, 3) := by decide +kernel
theorem dX12_way_21 : decode cX12_way 21 = .ok (.iconst (-1), 1) := by decide +kernel
theorem dX12_way_22 : decode cX12_way 22 = .ok (.ireturn, 1) := by decide +kernel
theorem dX12_way_23 : decode cX12_way 23 = .ok (.iload_n 1, 1) := by decide +kernel
theorem dX12_way_24 : decode cX12_way 24 = .ok (.iload_n 2, 1) := by decide +kernel
theorem dX12_way_25 : decode cX12_way 25 = .ok (.if_icmp .ne 6, 3) := by decide +kernel
theorem dX12_way_28 : decode cX12_way 28 = .ok (.bipush (-2), 2) := by decide +kernel
theorem dX12_way_30 : decode cX12_way 30 = .ok (.ireturn, 1) := by decide +kernel
theorem dX12_way_31 : decode cX12_way 31 = .ok (.aload_n 0, 1) := by decide +kernel
theorem dX12_way_32 : decode cX12_way 32 = .ok (.getfield 13, 3) := by decide +kernel
theorem dX12_way_35 : decode cX12_way 35 = .ok (.bipush 8, 2) := by decide +kernel
theorem dX12_way_37 : decode cX12_way 37 = .ok (.iload_n 1, 1) := by decide +kernel
theorem dX12_way_38 : decode cX12_way 38 = .ok (.imul, 1) := by decide +kernel
theorem dX12_way_39 : decode cX12_way 39 = .ok (.iload_n 2, 1) := by decide +kernel
theorem dX12_way_40 : decode cX12_way 40 = .ok (.iadd, 1) := by decide +kernel
theorem dX12_way_41 : decode cX12_way 41 = .ok (.baload, 1) := by decide +kernel
theorem dX12_way_42 : decode cX12_way 42 = .ok (.ifCond .eq 7, 3) := by decide +kernel
theorem dX12_way_45 : decode cX12_way 45 = .ok (.iconst 1, 1) := by decide +kernel
theorem dX12_way_46 : decode cX12_way 46 = .ok (.goto 4, 3) := by decide +kernel
theorem dX12_way_49 : decode cX12_way 49 = .ok (.iconst 0, 1) := by decide +kernel
theorem dX12_way_50 : decode cX12_way 50 = .ok (.istore 4, 2) := by decide +kernel
theorem dX12_way_52 : decode cX12_way 52 = .ok (.aload_n 0, 1) := by decide +kernel
theorem dX12_way_53 : decode cX12_way 53 = .ok (.getfield 13, 3) := by decide +kernel
theorem dX12_way_56 : decode cX12_way 56 = .ok (.bipush 8, 2) := by decide +kernel
theorem dX12_way_58 : decode cX12_way 58 = .ok (.iload_n 1, 1) := by decide +kernel
theorem dX12_way_59 : decode cX12_way 59 = .ok (.imul, 1) := by decide +kernel
theorem dX12_way_60 : decode cX12_way 60 = .ok (.iload_n 2, 1) := by decide +kernel
theorem dX12_way_61 : decode cX12_way 61 = .ok (.iadd, 1) := by decide +kernel
theorem dX12_way_62 : decode cX12_way 62 = .ok (.iload_n 3, 1) := by decide +kernel
theorem dX12_way_63 : decode cX12_way 63 = .ok (.bastore, 1) := by decide +kernel
theorem dX12_way_64 : decode cX12_way 64 = .ok (.aload_n 0, 1) := by decide +kernel
theorem dX12_way_65 : decode cX12_way 65 = .ok (.getfield 13, 3) := by decide +kernel
theorem dX12_way_68 : decode cX12_way 68 = .ok (.bipush 8, 2) := by decide +kernel
theorem dX12_way_70 : decode cX12_way 70 = .ok (.iload_n 2, 1) := by decide +kernel
theorem dX12_way_71 : decode cX12_way 71 = .ok (.imul, 1) := by decide +kernel
theorem dX12_way_72 : decode cX12_way 72 = .ok (.iload_n 1, 1) := by decide +kernel
theorem dX12_way_73 : decode cX12_way 73 = .ok (.iadd, 1) := by decide +kernel
theorem dX12_way_74 : decode cX12_way 74 = .ok (.iload_n 3, 1) := by decide +kernel
theorem dX12_way_75 : decode cX12_way 75 = .ok (.bastore, 1) := by decide +kernel
theorem dX12_way_76 : decode cX12_way 76 = .ok (.iload 4, 2) := by decide +kernel
theorem dX12_way_78 : decode cX12_way 78 = .ok (.ireturn, 1) := by decide +kernel
theorem dX12_measure_0 : decode cX12_measure 0 = .ok (.iconst 0, 1) := by decide +kernel
theorem dX12_measure_1 : decode cX12_measure 1 = .ok (.istore_n 1, 1) := by decide +kernel
theorem dX12_measure_2 : decode cX12_measure 2 = .ok (.iload_n 1, 1) := by decide +kernel
theorem dX12_measure_3 : decode cX12_measure 3 = .ok (.bipush 64, 2) := by decide +kernel
theorem dX12_measure_5 : decode cX12_measure 5 = .ok (.if_icmp .ge 45, 3) := by decide +kernel
theorem dX12_measure_8 : decode cX12_measure 8 = .ok (.aload_n 0, 1) := by decide +kernel
theorem dX12_measure_9 : decode cX12_measure 9 = .ok (.getfield 17, 3) := by decide +kernel
theorem dX12_measure_12 : decode cX12_measure 12 = .ok (.iload_n 1, 1) := by decide +kernel
theorem dX12_measure_13 : decode cX12_measure 13 = .ok (.iload_n 1, 1) := by decide +kernel
theorem dX12_measure_14 : decode cX12_measure 14 = .ok (.bipush 8, 2) := by decide +kernel
theorem dX12_measure_16 : decode cX12_measure 16 = .ok (.idiv, 1) := by decide +kernel
theorem dX12_measure_17 : decode cX12_measure 17 = .ok (.iload_n 1, 1) := by decide +kernel
theorem dX12_measure_18 : decode cX12_measure 18 = .ok (.bipush 8, 2) := by decide +kernel
theorem dX12_measure_20 : decode cX12_measure 20 = .ok (.irem, 1) := by decide +kernel
theorem dX12_measure_21 : decode cX12_measure 21 = .ok (.if_icmp .ne 7, 3) := by decide +kernel
theorem dX12_measure_24 : decode cX12_measure 24 = .ok (.iconst 0, 1) := by decide +kernel
theorem dX12_measure_25 : decode cX12_measure 25 = .ok (.goto 18, 3) := by decide +kernel
theorem dX12_measure_28 : decode cX12_measure 28 = .ok (.aload_n 0, 1) := by decide +kernel
theorem dX12_measure_29 : decode cX12_measure 29 = .ok (.getfield 13, 3) := by decide +kernel
theorem dX12_measure_32 : decode cX12_measure 32 = .ok (.iload_n 1, 1) := by decide +kernel
theorem dX12_measure_33 : decode cX12_measure 33 = .ok (.baload, 1) := by decide +kernel
theorem dX12_measure_34 : decode cX12_measure 34 = .ok (.ifCond .eq 7, 3) := by decide +kernel
theorem dX12_measure_37 : decode cX12_measure 37 = .ok (.iconst 1, 1) := by decide +kernel
theorem dX12_measure_38 : decode cX12_measure 38 = .ok (.goto 5, 3) := by decide +kernel
theorem dX12_measure_41 : decode cX12_measure 41 = .ok (.bipush 100, 2) := by decide +kernel
theorem dX12_measure_43 : decode cX12_measure 43 = .ok (.iastore, 1) := by decide +kernel
theorem dX12_measure_44 : decode cX12_measure 44 = .ok (.iinc 1 1, 3) := by decide +kernel
theorem dX12_measure_47 : decode cX12_measure 47 = .ok (.goto (-45), 3) := by decide +kernel
theorem dX12_measure_50 : decode cX12_measure 50 = .ok (.iconst 0, 1) := by decide +kernel
theorem dX12_measure_51 : decode cX12_measure 51 = .ok (.istore_n 1, 1) := by decide +kernel
theorem dX12_measure_52 : decode cX12_measure 52 = .ok (.iload_n 1, 1) := by decide +kernel
theorem dX12_measure_53 : decode cX12_measure 53 = .ok (.bipush 8, 2) := by decide +kernel
theorem dX12_measure_55 : decode cX12_measure 55 = .ok (.if_icmp .ge 105, 3) := by decide +kernel
theorem dX12_measure_58 : decode cX12_measure 58 = .ok (.iconst 0, 1) := by decide +kernel
theorem dX12_measure_59 : decode cX12_measure 59 = .ok (.istore_n 2, 1) := by decide +kernel
theorem dX12_measure_60 : decode cX12_measure 60 = .ok (.iload_n 2, 1) := by decide +kernel
theorem dX12_measure_61 : decode cX12_measure 61 = .ok (.bipush 8, 2) := by decide +kernel
theorem dX12_measure_63 : decode cX12_measure 63 = .ok (.if_icmp .ge 91, 3) := by decide +kernel
theorem dX12_measure_66 : decode cX12_measure 66 = .ok (.iconst 0, 1) := by decide +kernel
theorem dX12_measure_67 : decode cX12_measure 67 = .ok (.istore_n 3, 1) := by decide +kernel
theorem dX12_measure_68 : decode cX12_measure 68 = .ok (.iload_n 3, 1) := by decide +kernel
theorem dX12_measure_69 : decode cX12_measure 69 = .ok (.bipush 8, 2) := by decide +kernel
theorem dX12_measure_71 : decode cX12_measure 71 = .ok (.if_icmp .ge 77, 3) := by decide +kernel
theorem dX12_measure_74 : decode cX12_measure 74 = .ok (.aload_n 0, 1) := by decide +kernel
theorem dX12_measure_75 : decode cX12_measure 75 = .ok (.getfield 17, 3) := by decide +kernel
theorem dX12_measure_78 : decode cX12_measure 78 = .ok (.bipush 8, 2) := by decide +kernel
theorem dX12_measure_80 : decode cX12_measure 80 = .ok (.iload_n 2, 1) := by decide +kernel
theorem dX12_measure_81 : decode cX12_measure 81 = .ok (.imul, 1) := by decide +kernel
theorem dX12_measure_82 : decode cX12_measure 82 = .ok (.iload_n 1, 1) := by decide +kernel
theorem dX12_measure_83 : decode cX12_measure 83 = .ok (.iadd, 1) := by decide +kernel
theorem dX12_measure_84 : decode cX12_measure 84 = .ok (.iaload, 1) := by decide +kernel
theorem dX12_measure_85 : decode cX12_measure 85 = .ok (.aload_n 0, 1) := by decide +kernel
theorem dX12_measure_86 : decode cX12_measure 86 = .ok (.getfield 17, 3) := by decide +kernel
theorem dX12_measure_89 : decode cX12_measure 89 = .ok (.bipush 8, 2) := by decide +kernel
theorem dX12_measure_91 : decode cX12_measure 91 = .ok (.iload_n 1, 1) := by decide +kernel
theorem dX12_measure_92 : decode cX12_measure 92 = .ok (.imul, 1) := by decide +kernel
theorem dX12_measure_93 : decode cX12_measure 93 = .ok (.iload_n 3, 1) := by decide +kernel
theorem dX12_measure_94 : decode cX12_measure 94 = .ok (.iadd, 1) := by decide +kernel
theorem dX12_measure_95 : decode cX12_measure 95 = .ok (.iaload, 1) := by decide +kernel
theorem dX12_measure_96 : decode cX12_measure 96 = .ok (.iadd, 1) := by decide +kernel
theorem dX12_measure_97 : decode cX12_measure 97 = .ok (.istore 4, 2) := by decide +kernel
theorem dX12_measure_99 : decode cX12_measure 99 = .ok (.aload_n 0, 1) := by decide +kernel
theorem dX12_measure_100 : decode cX12_measure 100 = .ok (.getfield 17, 3) := by decide +kernel
theorem dX12_measure_103 : decode cX12_measure 103 = .ok (.bipush 8, 2) := by decide +kernel
theorem dX12_measure_105 : decode cX12_measure 105 = .ok (.iload_n 2, 1) := by decide +kernel
theorem dX12_measure_106 : decode cX12_measure 106 = .ok (.imul, 1) := by decide +kernel
theorem dX12_measure_107 : decode cX12_measure 107 = .ok (.iload_n 3, 1) := by decide +kernel
theorem dX12_measure_108 : decode cX12_measure 108 = .ok (.iadd, 1) := by decide +kernel
theorem dX12_measure_109 : decode cX12_measure 109 = .ok (.iload 4, 2) := by decide +kernel
theorem dX12_measure_111 : decode cX12_measure 111 = .ok (.aload_n 0, 1) := by decide +kernel
theorem dX12_measure_112 : decode cX12_measure 112 = .ok (.getfield 17, 3) := by decide +kernel
theorem dX12_measure_115 : decode cX12_measure 115 = .ok (.bipush 8, 2) := by decide +kernel
theorem dX12_measure_117 : decode cX12_measure 117 = .ok (.iload_n 2, 1) := by decide +kernel
theorem dX12_measure_118 : decode cX12_measure 118 = .ok (.imul, 1) := by decide +kernel
theorem dX12_measure_119 : decode cX12_measure 119 = .ok (.iload_n 3, 1) := by decide +kernel
theorem dX12_measure_120 : decode cX12_measure 120 = .ok (.iadd, 1) := by decide +kernel
theorem dX12_measure_121 : decode cX12_measure 121 = .ok (.iaload, 1) := by decide +kernel
theorem dX12_measure_122 : decode cX12_measure 122 = .ok (.if_icmp .ge 8, 3) := by decide +kernel
theorem dX12_measure_125 : decode cX12_measure 125 = .ok (.iload 4, 2) := by decide +kernel
theorem dX12_measure_127 : decode cX12_measure 127 = .ok (.goto 14, 3) := by decide +kernel
theorem dX12_measure_130 : decode cX12_measure 130 = .ok (.aload_n 0, 1) := by decide +kernel
theorem dX12_measure_131 : decode cX12_measure 131 = .ok (.getfield 17, 3) := by decide +kernel
theorem dX12_measure_134 : decode cX12_measure 134 = .ok (.bipush 8, 2) := by decide +kernel
theorem dX12_measure_136 : decode cX12_measure 136 = .ok (.iload_n 2, 1) := by decide +kernel
theorem dX12_measure_137 : decode cX12_measure 137 = .ok (.imul, 1) := by decide +kernel
theorem dX12_measure_138 : decode cX12_measure 138 = .ok (.iload_n 3, 1) := by decide +kernel
theorem dX12_measure_139 : decode cX12_measure 139 = .ok (.iadd, 1) := by decide +kernel
theorem dX12_measure_140 : decode cX12_measure 140 = .ok (.iaload, 1) := by decide +kernel
theorem dX12_measure_141 : decode cX12_measure 141 = .ok (.iastore, 1) := by decide +kernel
theorem dX12_measure_142 : decode cX12_measure 142 = .ok (.iinc 3 1, 3) := by decide +kernel
theorem dX12_measure_145 : decode cX12_measure 145 = .ok (.goto (-77), 3) := by decide +kernel
theorem dX12_measure_148 : decode cX12_measure 148 = .ok (.iinc 2 1, 3) := by decide +kernel
theorem dX12_measure_151 : decode cX12_measure 151 = .ok (.goto (-91), 3) := by decide +kernel
theorem dX12_measure_154 : decode cX12_measure 154 = .ok (.iinc 1 1, 3) := by decide +kernel
theorem dX12_measure_157 : decode cX12_measure 157 = .ok (.goto (-105), 3) := by decide +kernel
theorem dX12_measure_160 : decode cX12_measure 160 = .ok (.return_, 1) := by decide +kernel
theorem dX12_far_0 : decode cX12_far 0 = .ok (.aload_n 0, 1) := by decide +kernel
theorem dX12_far_1 : decode cX12_far 1 = .ok (.iconst 0, 1) := by decide +kernel
theorem dX12_far_2 : decode cX12_far 2 = .ok (.putfield 100, 3) := by decide +kernel
theorem dX12_far_5 : decode cX12_far 5 = .ok (.aload_n 0, 1) := by decide +kernel
theorem dX12_far_6 : decode cX12_far 6 = .ok (.iload_n 1, 1) := by decide +kernel
theorem dX12_far_7 : decode cX12_far 7 = .ok (.invokevirtual 120, 3) := by decide +kernel
theorem dX12_far_10 : decode cX12_far 10 = .ok (.ifCond .ne 11, 3) := by decide +kernel
theorem dX12_far_13 : decode cX12_far 13 = .ok (.aload_n 0, 1) := by decide +kernel
theorem dX12_far_14 : decode cX12_far 14 = .ok (.iload_n 2, 1) := by decide +kernel
theorem dX12_far_15 : decode cX12_far 15 = .ok (.invokevirtual 120, 3) := by decide +kernel
theorem dX12_far_18 : decode cX12_far 18 = .ok (.ifCond .eq 5, 3) := by decide +kernel
theorem dX12_far_21 : decode cX12_far 21 = .ok (.iconst (-1), 1) := by decide +kernel
theorem dX12_far_22 : decode cX12_far 22 = .ok (.ireturn, 1) := by decide +kernel
theorem dX12_far_23 : decode cX12_far 23 = .ok (.aload_n 0, 1) := by decide +kernel
theorem dX12_far_24 : decode cX12_far 24 = .ok (.invokevirtual 124, 3) := by decide +kernel
theorem dX12_far_27 : decode cX12_far 27 = .ok (.aload_n 0, 1) := by decide +kernel
theorem dX12_far_28 : decode cX12_far 28 = .ok (.getfield 17, 3) := by decide +kernel
theorem dX12_far_31 : decode cX12_far 31 = .ok (.bipush 8, 2) := by decide +kernel
theorem dX12_far_33 : decode cX12_far 33 = .ok (.iload_n 1, 1) := by decide +kernel
theorem dX12_far_34 : decode cX12_far 34 = .ok (.imul, 1) := by decide +kernel
theorem dX12_far_35 : decode cX12_far 35 = .ok (.iload_n 2, 1) := by decide +kernel
theorem dX12_far_36 : decode cX12_far 36 = .ok (.iadd, 1) := by decide +kernel
theorem dX12_far_37 : decode cX12_far 37 = .ok (.iaload, 1) := by decide +kernel
theorem dX12_far_38 : decode cX12_far 38 = .ok (.bipush 100, 2) := by decide +kernel
theorem dX12_far_40 : decode cX12_far 40 = .ok (.if_icmp .ge 17, 3) := by decide +kernel
theorem dX12_far_43 : decode cX12_far 43 = .ok (.aload_n 0, 1) := by decide +kernel
theorem dX12_far_44 : decode cX12_far 44 = .ok (.getfield 17, 3) := by decide +kernel
theorem dX12_far_47 : decode cX12_far 47 = .ok (.bipush 8, 2) := by decide +kernel
theorem dX12_far_49 : decode cX12_far 49 = .ok (.iload_n 1, 1) := by decide +kernel
theorem dX12_far_50 : decode cX12_far 50 = .ok (.imul, 1) := by decide +kernel
theorem dX12_far_51 : decode cX12_far 51 = .ok (.iload_n 2, 1) := by decide +kernel
theorem dX12_far_52 : decode cX12_far 52 = .ok (.iadd, 1) := by decide +kernel
theorem dX12_far_53 : decode cX12_far 53 = .ok (.iaload, 1) := by decide +kernel
theorem dX12_far_54 : decode cX12_far 54 = .ok (.goto 5, 3) := by decide +kernel
theorem dX12_far_57 : decode cX12_far 57 = .ok (.bipush (-9), 2) := by decide +kernel
theorem dX12_far_59 : decode cX12_far 59 = .ok (.ireturn, 1) := by decide +kernel
theorem dX12_man_0 : decode cX12_man 0 = .ok (.aload_n 0, 1) := by decide +kernel
theorem dX12_man_1 : decode cX12_man 1 = .ok (.iconst 0, 1) := by decide +kernel
theorem dX12_man_2 : decode cX12_man 2 = .ok (.putfield 100, 3) := by decide +kernel
theorem dX12_man_5 : decode cX12_man 5 = .ok (.aload_n 0, 1) := by decide +kernel
theorem dX12_man_6 : decode cX12_man 6 = .ok (.iload 7, 2) := by decide +kernel
theorem dX12_man_8 : decode cX12_man 8 = .ok (.invokevirtual 120, 3) := by decide +kernel
theorem dX12_man_11 : decode cX12_man 11 = .ok (.ifCond .eq 5, 3) := by decide +kernel
theorem dX12_man_14 : decode cX12_man 14 = .ok (.iconst (-1), 1) := by decide +kernel
theorem dX12_man_15 : decode cX12_man 15 = .ok (.ireturn, 1) := by decide +kernel
theorem dX12_man_16 : decode cX12_man 16 = .ok (.iload_n 1, 1) := by decide +kernel
theorem dX12_man_17 : decode cX12_man 17 = .ok (.i2l, 1) := by decide +kernel
theorem dX12_man_18 : decode cX12_man 18 = .ok (.ldc2_w 127, 3) := by decide +kernel
theorem dX12_man_21 : decode cX12_man 21 = .ok (.ldc2_w 129, 3) := by decide +kernel
theorem dX12_man_24 : decode cX12_man 24 = .ok (.invokestatic 103, 3) := by decide +kernel
theorem dX12_man_27 : decode cX12_man 27 = .ok (.ifCond .eq 68, 3) := by decide +kernel
theorem dX12_man_30 : decode cX12_man 30 = .ok (.iload_n 2, 1) := by decide +kernel
theorem dX12_man_31 : decode cX12_man 31 = .ok (.i2l, 1) := by decide +kernel
theorem dX12_man_32 : decode cX12_man 32 = .ok (.lconst 0, 1) := by decide +kernel
theorem dX12_man_33 : decode cX12_man 33 = .ok (.ldc2_w 131, 3) := by decide +kernel
theorem dX12_man_36 : decode cX12_man 36 = .ok (.invokestatic 103, 3) := by decide +kernel
theorem dX12_man_39 : decode cX12_man 39 = .ok (.ifCond .eq 56, 3) := by decide +kernel
theorem dX12_man_42 : decode cX12_man 42 = .ok (.iload_n 3, 1) := by decide +kernel
theorem dX12_man_43 : decode cX12_man 43 = .ok (.i2l, 1) := by decide +kernel
theorem dX12_man_44 : decode cX12_man 44 = .ok (.lconst 0, 1) := by decide +kernel
theorem dX12_man_45 : decode cX12_man 45 = .ok (.ldc2_w 131, 3) := by decide +kernel
theorem dX12_man_48 : decode cX12_man 48 = .ok (.invokestatic 103, 3) := by decide +kernel
theorem dX12_man_51 : decode cX12_man 51 = .ok (.ifCond .eq 44, 3) := by decide +kernel
theorem dX12_man_54 : decode cX12_man 54 = .ok (.iload 4, 2) := by decide +kernel
theorem dX12_man_56 : decode cX12_man 56 = .ok (.i2l, 1) := by decide +kernel
theorem dX12_man_57 : decode cX12_man 57 = .ok (.ldc2_w 133, 3) := by decide +kernel
theorem dX12_man_60 : decode cX12_man 60 = .ok (.ldc2_w 135, 3) := by decide +kernel
theorem dX12_man_63 : decode cX12_man 63 = .ok (.invokestatic 103, 3) := by decide +kernel
theorem dX12_man_66 : decode cX12_man 66 = .ok (.ifCond .eq 29, 3) := by decide +kernel
theorem dX12_man_69 : decode cX12_man 69 = .ok (.iload 5, 2) := by decide +kernel
theorem dX12_man_71 : decode cX12_man 71 = .ok (.i2l, 1) := by decide +kernel
theorem dX12_man_72 : decode cX12_man 72 = .ok (.lconst 0, 1) := by decide +kernel
theorem dX12_man_73 : decode cX12_man 73 = .ok (.ldc2_w 137, 3) := by decide +kernel
theorem dX12_man_76 : decode cX12_man 76 = .ok (.invokestatic 103, 3) := by decide +kernel
theorem dX12_man_79 : decode cX12_man 79 = .ok (.ifCond .eq 16, 3) := by decide +kernel
theorem dX12_man_82 : decode cX12_man 82 = .ok (.iload 6, 2) := by decide +kernel
theorem dX12_man_84 : decode cX12_man 84 = .ok (.i2l, 1) := by decide +kernel
theorem dX12_man_85 : decode cX12_man 85 = .ok (.lconst 0, 1) := by decide +kernel
theorem dX12_man_86 : decode cX12_man 86 = .ok (.ldc2_w 139, 3) := by decide +kernel
theorem dX12_man_89 : decode cX12_man 89 = .ok (.invokestatic 103, 3) := by decide +kernel
theorem dX12_man_92 : decode cX12_man 92 = .ok (.ifCond .ne 6, 3) := by decide +kernel
theorem dX12_man_95 : decode cX12_man 95 = .ok (.bipush (-2), 2) := by decide +kernel
theorem dX12_man_97 : decode cX12_man 97 = .ok (.ireturn, 1) := by decide +kernel
theorem dX12_man_98 : decode cX12_man 98 = .ok (.aload_n 0, 1) := by decide +kernel
theorem dX12_man_99 : decode cX12_man 99 = .ok (.getfield 107, 3) := by decide +kernel
theorem dX12_man_102 : decode cX12_man 102 = .ok (.bipush 40, 2) := by decide +kernel
theorem dX12_man_104 : decode cX12_man 104 = .ok (.if_icmp .ne 6, 3) := by decide +kernel
theorem dX12_man_107 : decode cX12_man 107 = .ok (.bipush (-4), 2) := by decide +kernel
theorem dX12_man_109 : decode cX12_man 109 = .ok (.ireturn, 1) := by decide +kernel
theorem dX12_man_110 : decode cX12_man 110 = .ok (.bipush 8, 2) := by decide +kernel
theorem dX12_man_112 : decode cX12_man 112 = .ok (.aload_n 0, 1) := by decide +kernel
theorem dX12_man_113 : decode cX12_man 113 = .ok (.getfield 107, 3) := by decide +kernel
theorem dX12_man_116 : decode cX12_man 116 = .ok (.imul, 1) := by decide +kernel
theorem dX12_man_117 : decode cX12_man 117 = .ok (.istore 8, 2) := by decide +kernel
theorem dX12_man_119 : decode cX12_man 119 = .ok (.aload_n 0, 1) := by decide +kernel
theorem dX12_man_120 : decode cX12_man 120 = .ok (.getfield 21, 3) := by decide +kernel
theorem dX12_man_123 : decode cX12_man 123 = .ok (.iload 8, 2) := by decide +kernel
theorem dX12_man_125 : decode cX12_man 125 = .ok (.iload_n 1, 1) := by decide +kernel
theorem dX12_man_126 : decode cX12_man 126 = .ok (.iastore, 1) := by decide +kernel
theorem dX12_man_127 : decode cX12_man 127 = .ok (.aload_n 0, 1) := by decide +kernel
theorem dX12_man_128 : decode cX12_man 128 = .ok (.getfield 21, 3) := by decide +kernel
theorem dX12_man_131 : decode cX12_man 131 = .ok (.iload 8, 2) := by decide +kernel
theorem dX12_man_133 : decode cX12_man 133 = .ok (.iconst 1, 1) := by decide +kernel
theorem dX12_man_134 : decode cX12_man 134 = .ok (.iadd, 1) := by decide +kernel
theorem dX12_man_135 : decode cX12_man 135 = .ok (.iload_n 2, 1) := by decide +kernel
theorem dX12_man_136 : decode cX12_man 136 = .ok (.iastore, 1) := by decide +kernel
theorem dX12_man_137 : decode cX12_man 137 = .ok (.aload_n 0, 1) := by decide +kernel
theorem dX12_man_138 : decode cX12_man 138 = .ok (.getfield 21, 3) := by decide +kernel
theorem dX12_man_141 : decode cX12_man 141 = .ok (.iload 8, 2) := by decide +kernel
theorem dX12_man_143 : decode cX12_man 143 = .ok (.iconst 2, 1) := by decide +kernel
theorem dX12_man_144 : decode cX12_man 144 = .ok (.iadd, 1) := by decide +kernel
theorem dX12_man_145 : decode cX12_man 145 = .ok (.iload_n 3, 1) := by decide +kernel
theorem dX12_man_146 : decode cX12_man 146 = .ok (.iastore, 1) := by decide +kernel
theorem dX12_man_147 : decode cX12_man 147 = .ok (.aload_n 0, 1) := by decide +kernel
theorem dX12_man_148 : decode cX12_man 148 = .ok (.getfield 21, 3) := by decide +kernel
theorem dX12_man_151 : decode cX12_man 151 = .ok (.iload 8, 2) := by decide +kernel
theorem dX12_man_153 : decode cX12_man 153 = .ok (.iconst 3, 1) := by decide +kernel
theorem dX12_man_154 : decode cX12_man 154 = .ok (.iadd, 1) := by decide +kernel
theorem dX12_man_155 : decode cX12_man 155 = .ok (.iload 4, 2) := by decide +kernel
theorem dX12_man_157 : decode cX12_man 157 = .ok (.iastore, 1) := by decide +kernel
theorem dX12_man_158 : decode cX12_man 158 = .ok (.aload_n 0, 1) := by decide +kernel
theorem dX12_man_159 : decode cX12_man 159 = .ok (.getfield 21, 3) := by decide +kernel
theorem dX12_man_162 : decode cX12_man 162 = .ok (.iload 8, 2) := by decide +kernel
theorem dX12_man_164 : decode cX12_man 164 = .ok (.iconst 4, 1) := by decide +kernel
theorem dX12_man_165 : decode cX12_man 165 = .ok (.iadd, 1) := by decide +kernel
theorem dX12_man_166 : decode cX12_man 166 = .ok (.iload 5, 2) := by decide +kernel
theorem dX12_man_168 : decode cX12_man 168 = .ok (.iastore, 1) := by decide +kernel
theorem dX12_man_169 : decode cX12_man 169 = .ok (.aload_n 0, 1) := by decide +kernel
theorem dX12_man_170 : decode cX12_man 170 = .ok (.getfield 21, 3) := by decide +kernel
theorem dX12_man_173 : decode cX12_man 173 = .ok (.iload 8, 2) := by decide +kernel
theorem dX12_man_175 : decode cX12_man 175 = .ok (.iconst 5, 1) := by decide +kernel
theorem dX12_man_176 : decode cX12_man 176 = .ok (.iadd, 1) := by decide +kernel
theorem dX12_man_177 : decode cX12_man 177 = .ok (.iload 6, 2) := by decide +kernel
theorem dX12_man_179 : decode cX12_man 179 = .ok (.iastore, 1) := by decide +kernel
theorem dX12_man_180 : decode cX12_man 180 = .ok (.aload_n 0, 1) := by decide +kernel
theorem dX12_man_181 : decode cX12_man 181 = .ok (.getfield 21, 3) := by decide +kernel
theorem dX12_man_184 : decode cX12_man 184 = .ok (.iload 8, 2) := by decide +kernel
theorem dX12_man_186 : decode cX12_man 186 = .ok (.bipush 6, 2) := by decide +kernel
theorem dX12_man_188 : decode cX12_man 188 = .ok (.iadd, 1) := by decide +kernel
theorem dX12_man_189 : decode cX12_man 189 = .ok (.iload 7, 2) := by decide +kernel
theorem dX12_man_191 : decode cX12_man 191 = .ok (.iastore, 1) := by decide +kernel
theorem dX12_man_192 : decode cX12_man 192 = .ok (.aload_n 0, 1) := by decide +kernel
theorem dX12_man_193 : decode cX12_man 193 = .ok (.getfield 21, 3) := by decide +kernel
theorem dX12_man_196 : decode cX12_man 196 = .ok (.iload 8, 2) := by decide +kernel
theorem dX12_man_198 : decode cX12_man 198 = .ok (.bipush 7, 2) := by decide +kernel
theorem dX12_man_200 : decode cX12_man 200 = .ok (.iadd, 1) := by decide +kernel
theorem dX12_man_201 : decode cX12_man 201 = .ok (.iconst 0, 1) := by decide +kernel
theorem dX12_man_202 : decode cX12_man 202 = .ok (.iastore, 1) := by decide +kernel
theorem dX12_man_203 : decode cX12_man 203 = .ok (.iconst 0, 1) := by decide +kernel
theorem dX12_man_204 : decode cX12_man 204 = .ok (.istore 9, 2) := by decide +kernel
theorem dX12_man_206 : decode cX12_man 206 = .ok (.iload 9, 2) := by decide +kernel
theorem dX12_man_208 : decode cX12_man 208 = .ok (.aload_n 0, 1) := by decide +kernel
theorem dX12_man_209 : decode cX12_man 209 = .ok (.getfield 141, 3) := by decide +kernel
theorem dX12_man_212 : decode cX12_man 212 = .ok (.if_icmp .gt 26, 3) := by decide +kernel
theorem dX12_man_215 : decode cX12_man 215 = .ok (.aload_n 0, 1) := by decide +kernel
theorem dX12_man_216 : decode cX12_man 216 = .ok (.getfield 28, 3) := by decide +kernel
theorem dX12_man_219 : decode cX12_man 219 = .ok (.bipush 40, 2) := by decide +kernel
theorem dX12_man_221 : decode cX12_man 221 = .ok (.iload 9, 2) := by decide +kernel
theorem dX12_man_223 : decode cX12_man 223 = .ok (.imul, 1) := by decide +kernel
theorem dX12_man_224 : decode cX12_man 224 = .ok (.aload_n 0, 1) := by decide +kernel
theorem dX12_man_225 : decode cX12_man 225 = .ok (.getfield 107, 3) := by decide +kernel
theorem dX12_man_228 : decode cX12_man 228 = .ok (.iadd, 1) := by decide +kernel
theorem dX12_man_229 : decode cX12_man 229 = .ok (.iload 7, 2) := by decide +kernel
theorem dX12_man_231 : decode cX12_man 231 = .ok (.iastore, 1) := by decide +kernel
theorem dX12_man_232 : decode cX12_man 232 = .ok (.iinc 9 1, 3) := by decide +kernel
theorem dX12_man_235 : decode cX12_man 235 = .ok (.goto (-29), 3) := by decide +kernel
theorem dX12_man_238 : decode cX12_man 238 = .ok (.aload_n 0, 1) := by decide +kernel
theorem dX12_man_239 : decode cX12_man 239 = .ok (.dup, 1) := by decide +kernel
theorem dX12_man_240 : decode cX12_man 240 = .ok (.getfield 107, 3) := by decide +kernel
theorem dX12_man_243 : decode cX12_man 243 = .ok (.iconst 1, 1) := by decide +kernel
theorem dX12_man_244 : decode cX12_man 244 = .ok (.iadd, 1) := by decide +kernel
theorem dX12_man_245 : decode cX12_man 245 = .ok (.putfield 107, 3) := by decide +kernel
theorem dX12_man_248 : decode cX12_man 248 = .ok (.aload_n 0, 1) := by decide +kernel
theorem dX12_man_249 : decode cX12_man 249 = .ok (.getfield 107, 3) := by decide +kernel
theorem dX12_man_252 : decode cX12_man 252 = .ok (.iconst 1, 1) := by decide +kernel
theorem dX12_man_253 : decode cX12_man 253 = .ok (.isub, 1) := by decide +kernel
theorem dX12_man_254 : decode cX12_man 254 = .ok (.ireturn, 1) := by decide +kernel
theorem dX12_about_0 : decode cX12_about 0 = .ok (.aload_n 0, 1) := by decide +kernel
theorem dX12_about_1 : decode cX12_about 1 = .ok (.iconst 0, 1) := by decide +kernel
theorem dX12_about_2 : decode cX12_about 2 = .ok (.putfield 100, 3) := by decide +kernel
theorem dX12_about_5 : decode cX12_about 5 = .ok (.aload_n 0, 1) := by decide +kernel
theorem dX12_about_6 : decode cX12_about 6 = .ok (.iload_n 1, 1) := by decide +kernel
theorem dX12_about_7 : decode cX12_about 7 = .ok (.invokevirtual 144, 3) := by decide +kernel
theorem dX12_about_10 : decode cX12_about 10 = .ok (.ifCond .eq 5, 3) := by decide +kernel
theorem dX12_about_13 : decode cX12_about 13 = .ok (.iconst (-1), 1) := by decide +kernel
theorem dX12_about_14 : decode cX12_about 14 = .ok (.ireturn, 1) := by decide +kernel
theorem dX12_about_15 : decode cX12_about 15 = .ok (.iload_n 2, 1) := by decide +kernel
theorem dX12_about_16 : decode cX12_about 16 = .ok (.i2l, 1) := by decide +kernel
theorem dX12_about_17 : decode cX12_about 17 = .ok (.lconst 0, 1) := by decide +kernel
theorem dX12_about_18 : decode cX12_about 18 = .ok (.ldc2_w 147, 3) := by decide +kernel
theorem dX12_about_21 : decode cX12_about 21 = .ok (.invokestatic 103, 3) := by decide +kernel
theorem dX12_about_24 : decode cX12_about 24 = .ok (.ifCond .eq 17, 3) := by decide +kernel
theorem dX12_about_27 : decode cX12_about 27 = .ok (.aload_n 0, 1) := by decide +kernel
theorem dX12_about_28 : decode cX12_about 28 = .ok (.getfield 21, 3) := by decide +kernel
theorem dX12_about_31 : decode cX12_about 31 = .ok (.bipush 8, 2) := by decide +kernel
theorem dX12_about_33 : decode cX12_about 33 = .ok (.iload_n 1, 1) := by decide +kernel
theorem dX12_about_34 : decode cX12_about 34 = .ok (.imul, 1) := by decide +kernel
theorem dX12_about_35 : decode cX12_about 35 = .ok (.iload_n 2, 1) := by decide +kernel
theorem dX12_about_36 : decode cX12_about 36 = .ok (.iadd, 1) := by decide +kernel
theorem dX12_about_37 : decode cX12_about 37 = .ok (.iaload, 1) := by decide +kernel
theorem dX12_about_38 : decode cX12_about 38 = .ok (.goto 5, 3) := by decide +kernel
theorem dX12_about_41 : decode cX12_about 41 = .ok (.bipush (-2), 2) := by decide +kernel
theorem dX12_about_43 : decode cX12_about 43 = .ok (.ireturn, 1) := by decide +kernel
theorem dX12_shy_0 : decode cX12_shy 0 = .ok (.aload_n 0, 1) := by decide +kernel
theorem dX12_shy_1 : decode cX12_shy 1 = .ok (.iconst 0, 1) := by decide +kernel
theorem dX12_shy_2 : decode cX12_shy 2 = .ok (.putfield 100, 3) := by decide +kernel
theorem dX12_shy_5 : decode cX12_shy 5 = .ok (.aload_n 0, 1) := by decide +kernel
theorem dX12_shy_6 : decode cX12_shy 6 = .ok (.iload_n 1, 1) := by decide +kernel
theorem dX12_shy_7 : decode cX12_shy 7 = .ok (.invokevirtual 144, 3) := by decide +kernel
theorem dX12_shy_10 : decode cX12_shy 10 = .ok (.ifCond .eq 5, 3) := by decide +kernel
theorem dX12_shy_13 : decode cX12_shy 13 = .ok (.iconst (-1), 1) := by decide +kernel
theorem dX12_shy_14 : decode cX12_shy 14 = .ok (.ireturn, 1) := by decide +kernel
theorem dX12_shy_15 : decode cX12_shy 15 = .ok (.aload_n 0, 1) := by decide +kernel
theorem dX12_shy_16 : decode cX12_shy 16 = .ok (.getfield 21, 3) := by decide +kernel
theorem dX12_shy_19 : decode cX12_shy 19 = .ok (.bipush 8, 2) := by decide +kernel
theorem dX12_shy_21 : decode cX12_shy 21 = .ok (.iload_n 1, 1) := by decide +kernel
theorem dX12_shy_22 : decode cX12_shy 22 = .ok (.imul, 1) := by decide +kernel
theorem dX12_shy_23 : decode cX12_shy 23 = .ok (.bipush 7, 2) := by decide +kernel
theorem dX12_shy_25 : decode cX12_shy 25 = .ok (.iadd, 1) := by decide +kernel
theorem dX12_shy_26 : decode cX12_shy 26 = .ok (.iaload, 1) := by decide +kernel
theorem dX12_shy_27 : decode cX12_shy 27 = .ok (.istore_n 3, 1) := by decide +kernel
theorem dX12_shy_28 : decode cX12_shy 28 = .ok (.aload_n 0, 1) := by decide +kernel
theorem dX12_shy_29 : decode cX12_shy 29 = .ok (.getfield 21, 3) := by decide +kernel
theorem dX12_shy_32 : decode cX12_shy 32 = .ok (.bipush 8, 2) := by decide +kernel
theorem dX12_shy_34 : decode cX12_shy 34 = .ok (.iload_n 1, 1) := by decide +kernel
theorem dX12_shy_35 : decode cX12_shy 35 = .ok (.imul, 1) := by decide +kernel
theorem dX12_shy_36 : decode cX12_shy 36 = .ok (.bipush 7, 2) := by decide +kernel
theorem dX12_shy_38 : decode cX12_shy 38 = .ok (.iadd, 1) := by decide +kernel
theorem dX12_shy_39 : decode cX12_shy 39 = .ok (.iload_n 2, 1) := by decide +kernel
theorem dX12_shy_40 : decode cX12_shy 40 = .ok (.ifCond .eq 7, 3) := by decide +kernel
theorem dX12_shy_43 : decode cX12_shy 43 = .ok (.iconst 1, 1) := by decide +kernel
theorem dX12_shy_44 : decode cX12_shy 44 = .ok (.goto 4, 3) := by decide +kernel
theorem dX12_shy_47 : decode cX12_shy 47 = .ok (.iconst 0, 1) := by decide +kernel
theorem dX12_shy_48 : decode cX12_shy 48 = .ok (.iastore, 1) := by decide +kernel
theorem dX12_shy_49 : decode cX12_shy 49 = .ok (.iload_n 3, 1) := by decide +kernel
theorem dX12_shy_50 : decode cX12_shy 50 = .ok (.ireturn, 1) := by decide +kernel
theorem dX12_placeOf_0 : decode cX12_placeOf 0 = .ok (.aload_n 0, 1) := by decide +kernel
theorem dX12_placeOf_1 : decode cX12_placeOf 1 = .ok (.getfield 28, 3) := by decide +kernel
theorem dX12_placeOf_4 : decode cX12_placeOf 4 = .ok (.bipush 40, 2) := by decide +kernel
theorem dX12_placeOf_6 : decode cX12_placeOf 6 = .ok (.aload_n 0, 1) := by decide +kernel
theorem dX12_placeOf_7 : decode cX12_placeOf 7 = .ok (.getfield 141, 3) := by decide +kernel
theorem dX12_placeOf_10 : decode cX12_placeOf 10 = .ok (.imul, 1) := by decide +kernel
theorem dX12_placeOf_11 : decode cX12_placeOf 11 = .ok (.iload_n 1, 1) := by decide +kernel
theorem dX12_placeOf_12 : decode cX12_placeOf 12 = .ok (.iadd, 1) := by decide +kernel
theorem dX12_placeOf_13 : decode cX12_placeOf 13 = .ok (.iaload, 1) := by decide +kernel
theorem dX12_placeOf_14 : decode cX12_placeOf 14 = .ok (.ireturn, 1) := by decide +kernel
theorem dX12_go_0 : decode cX12_go 0 = .ok (.aload_n 0, 1) := by decide +kernel
theorem dX12_go_1 : decode cX12_go 1 = .ok (.getfield 28, 3) := by decide +kernel
theorem dX12_go_4 : decode cX12_go 4 = .ok (.bipush 40, 2) := by decide +kernel
theorem dX12_go_6 : decode cX12_go 6 = .ok (.aload_n 0, 1) := by decide +kernel
theorem dX12_go_7 : decode cX12_go 7 = .ok (.getfield 141, 3) := by decide +kernel
theorem dX12_go_10 : decode cX12_go 10 = .ok (.imul, 1) := by decide +kernel
theorem dX12_go_11 : decode cX12_go 11 = .ok (.iload_n 1, 1) := by decide +kernel
theorem dX12_go_12 : decode cX12_go 12 = .ok (.iadd, 1) := by decide +kernel
theorem dX12_go_13 : decode cX12_go 13 = .ok (.iload_n 2, 1) := by decide +kernel
theorem dX12_go_14 : decode cX12_go 14 = .ok (.iastore, 1) := by decide +kernel
theorem dX12_go_15 : decode cX12_go 15 = .ok (.return_, 1) := by decide +kernel
theorem dX12_isStreet_0 : decode cX12_isStreet 0 = .ok (.iload_n 0, 1) := by decide +kernel
theorem dX12_isStreet_1 : decode cX12_isStreet 1 = .ok (.i2l, 1) := by decide +kernel
theorem dX12_isStreet_2 : decode cX12_isStreet 2 = .ok (.lconst 0, 1) := by decide +kernel
theorem dX12_isStreet_3 : decode cX12_isStreet 3 = .ok (.ldc2_w 147, 3) := by decide +kernel
theorem dX12_isStreet_6 : decode cX12_isStreet 6 = .ok (.invokestatic 103, 3) := by decide +kernel
theorem dX12_isStreet_9 : decode cX12_isStreet 9 = .ok (.ireturn, 1) := by decide +kernel
theorem dX12_isAboard_0 : decode cX12_isAboard 0 = .ok (.iload_n 0, 1) := by decide +kernel
theorem dX12_isAboard_1 : decode cX12_isAboard 1 = .ok (.i2l, 1) := by decide +kernel
theorem dX12_isAboard_2 : decode cX12_isAboard 2 = .ok (.ldc2_w 127, 3) := by decide +kernel
theorem dX12_isAboard_5 : decode cX12_isAboard 5 = .ok (.ldc2_w 149, 3) := by decide +kernel
theorem dX12_isAboard_8 : decode cX12_isAboard 8 = .ok (.invokestatic 103, 3) := by decide +kernel
theorem dX12_isAboard_11 : decode cX12_isAboard 11 = .ok (.ireturn, 1) := by decide +kernel
theorem dX12_isHere_0 : decode cX12_isHere 0 = .ok (.iload_n 1, 1) := by decide +kernel
theorem dX12_isHere_1 : decode cX12_isHere 1 = .ok (.invokestatic 151, 3) := by decide +kernel
theorem dX12_isHere_4 : decode cX12_isHere 4 = .ok (.ifCond .eq 19, 3) := by decide +kernel
theorem dX12_isHere_7 : decode cX12_isHere 7 = .ok (.aload_n 0, 1) := by decide +kernel
theorem dX12_isHere_8 : decode cX12_isHere 8 = .ok (.getfield 43, 3) := by decide +kernel
theorem dX12_isHere_11 : decode cX12_isHere 11 = .ok (.iload_n 1, 1) := by decide +kernel
theorem dX12_isHere_12 : decode cX12_isHere 12 = .ok (.bipush 10, 2) := by decide +kernel
theorem dX12_isHere_14 : decode cX12_isHere 14 = .ok (.isub, 1) := by decide +kernel
theorem dX12_isHere_15 : decode cX12_isHere 15 = .ok (.baload, 1) := by decide +kernel
theorem dX12_isHere_16 : decode cX12_isHere 16 = .ok (.ifCond .ne 7, 3) := by decide +kernel
theorem dX12_isHere_19 : decode cX12_isHere 19 = .ok (.iconst 1, 1) := by decide +kernel
theorem dX12_isHere_20 : decode cX12_isHere 20 = .ok (.goto 4, 3) := by decide +kernel
theorem dX12_isHere_23 : decode cX12_isHere 23 = .ok (.iconst 0, 1) := by decide +kernel
theorem dX12_isHere_24 : decode cX12_isHere 24 = .ok (.ireturn, 1) := by decide +kernel
theorem dX12_where_0 : decode cX12_where 0 = .ok (.aload_n 0, 1) := by decide +kernel
theorem dX12_where_1 : decode cX12_where 1 = .ok (.iconst 0, 1) := by decide +kernel
theorem dX12_where_2 : decode cX12_where 2 = .ok (.putfield 100, 3) := by decide +kernel
theorem dX12_where_5 : decode cX12_where 5 = .ok (.aload_n 0, 1) := by decide +kernel
theorem dX12_where_6 : decode cX12_where 6 = .ok (.iload_n 1, 1) := by decide +kernel
theorem dX12_where_7 : decode cX12_where 7 = .ok (.invokevirtual 144, 3) := by decide +kernel
theorem dX12_where_10 : decode cX12_where 10 = .ok (.ifCond .eq 5, 3) := by decide +kernel
theorem dX12_where_13 : decode cX12_where 13 = .ok (.iconst (-1), 1) := by decide +kernel
theorem dX12_where_14 : decode cX12_where 14 = .ok (.ireturn, 1) := by decide +kernel
theorem dX12_where_15 : decode cX12_where 15 = .ok (.iload_n 2, 1) := by decide +kernel
theorem dX12_where_16 : decode cX12_where 16 = .ok (.i2l, 1) := by decide +kernel
theorem dX12_where_17 : decode cX12_where 17 = .ok (.lconst 0, 1) := by decide +kernel
theorem dX12_where_18 : decode cX12_where 18 = .ok (.aload_n 0, 1) := by decide +kernel
theorem dX12_where_19 : decode cX12_where 19 = .ok (.getfield 141, 3) := by decide +kernel
theorem dX12_where_22 : decode cX12_where 22 = .ok (.i2l, 1) := by decide +kernel
theorem dX12_where_23 : decode cX12_where 23 = .ok (.invokestatic 103, 3) := by decide +kernel
theorem dX12_where_26 : decode cX12_where 26 = .ok (.ifCond .eq 17, 3) := by decide +kernel
theorem dX12_where_29 : decode cX12_where 29 = .ok (.aload_n 0, 1) := by decide +kernel
theorem dX12_where_30 : decode cX12_where 30 = .ok (.getfield 28, 3) := by decide +kernel
theorem dX12_where_33 : decode cX12_where 33 = .ok (.bipush 40, 2) := by decide +kernel
theorem dX12_where_35 : decode cX12_where 35 = .ok (.iload_n 2, 1) := by decide +kernel
theorem dX12_where_36 : decode cX12_where 36 = .ok (.imul, 1) := by decide +kernel
theorem dX12_where_37 : decode cX12_where 37 = .ok (.iload_n 1, 1) := by decide +kernel
theorem dX12_where_38 : decode cX12_where 38 = .ok (.iadd, 1) := by decide +kernel
theorem dX12_where_39 : decode cX12_where 39 = .ok (.iaload, 1) := by decide +kernel
theorem dX12_where_40 : decode cX12_where 40 = .ok (.goto 5, 3) := by decide +kernel
theorem dX12_where_43 : decode cX12_where 43 = .ok (.bipush (-2), 2) := by decide +kernel
theorem dX12_where_45 : decode cX12_where 45 = .ok (.ireturn, 1) := by decide +kernel
theorem dX12_many_0 : decode cX12_many 0 = .ok (.iconst 0, 1) := by decide +kernel
theorem dX12_many_1 : decode cX12_many 1 = .ok (.istore_n 2, 1) := by decide +kernel
theorem dX12_many_2 : decode cX12_many 2 = .ok (.iconst 0, 1) := by decide +kernel
theorem dX12_many_3 : decode cX12_many 3 = .ok (.istore_n 3, 1) := by decide +kernel
theorem dX12_many_4 : decode cX12_many 4 = .ok (.iload_n 3, 1) := by decide +kernel
theorem dX12_many_5 : decode cX12_many 5 = .ok (.aload_n 0, 1) := by decide +kernel
theorem dX12_many_6 : decode cX12_many 6 = .ok (.getfield 107, 3) := by decide +kernel
theorem dX12_many_9 : decode cX12_many 9 = .ok (.if_icmp .ge 26, 3) := by decide +kernel
theorem dX12_many_12 : decode cX12_many 12 = .ok (.iload_n 2, 1) := by decide +kernel
theorem dX12_many_13 : decode cX12_many 13 = .ok (.aload_n 0, 1) := by decide +kernel
theorem dX12_many_14 : decode cX12_many 14 = .ok (.iload_n 3, 1) := by decide +kernel
theorem dX12_many_15 : decode cX12_many 15 = .ok (.invokevirtual 154, 3) := by decide +kernel
theorem dX12_many_18 : decode cX12_many 18 = .ok (.iload_n 1, 1) := by decide +kernel
theorem dX12_many_19 : decode cX12_many 19 = .ok (.if_icmp .ne 7, 3) := by decide +kernel
theorem dX12_many_22 : decode cX12_many 22 = .ok (.iconst 1, 1) := by decide +kernel
theorem dX12_many_23 : decode cX12_many 23 = .ok (.goto 4, 3) := by decide +kernel
theorem dX12_many_26 : decode cX12_many 26 = .ok (.iconst 0, 1) := by decide +kernel
theorem dX12_many_27 : decode cX12_many 27 = .ok (.iadd, 1) := by decide +kernel
theorem dX12_many_28 : decode cX12_many 28 = .ok (.istore_n 2, 1) := by decide +kernel
theorem dX12_many_29 : decode cX12_many 29 = .ok (.iinc 3 1, 3) := by decide +kernel
theorem dX12_many_32 : decode cX12_many 32 = .ok (.goto (-28), 3) := by decide +kernel
theorem dX12_many_35 : decode cX12_many 35 = .ok (.iload_n 2, 1) := by decide +kernel
theorem dX12_many_36 : decode cX12_many 36 = .ok (.ireturn, 1) := by decide +kernel
theorem dX12_skilled_0 : decode cX12_skilled 0 = .ok (.iconst 0, 1) := by decide +kernel
theorem dX12_skilled_1 : decode cX12_skilled 1 = .ok (.istore_n 2, 1) := by decide +kernel
theorem dX12_skilled_2 : decode cX12_skilled 2 = .ok (.iconst 0, 1) := by decide +kernel
theorem dX12_skilled_3 : decode cX12_skilled 3 = .ok (.istore_n 3, 1) := by decide +kernel
theorem dX12_skilled_4 : decode cX12_skilled 4 = .ok (.iload_n 3, 1) := by decide +kernel
theorem dX12_skilled_5 : decode cX12_skilled 5 = .ok (.aload_n 0, 1) := by decide +kernel
theorem dX12_skilled_6 : decode cX12_skilled 6 = .ok (.getfield 107, 3) := by decide +kernel
theorem dX12_skilled_9 : decode cX12_skilled 9 = .ok (.if_icmp .ge 41, 3) := by decide +kernel
theorem dX12_skilled_12 : decode cX12_skilled 12 = .ok (.iload_n 2, 1) := by decide +kernel
theorem dX12_skilled_13 : decode cX12_skilled 13 = .ok (.aload_n 0, 1) := by decide +kernel
theorem dX12_skilled_14 : decode cX12_skilled 14 = .ok (.iload_n 3, 1) := by decide +kernel
theorem dX12_skilled_15 : decode cX12_skilled 15 = .ok (.invokevirtual 154, 3) := by decide +kernel
theorem dX12_skilled_18 : decode cX12_skilled 18 = .ok (.iload_n 1, 1) := by decide +kernel
theorem dX12_skilled_19 : decode cX12_skilled 19 = .ok (.if_icmp .ne 22, 3) := by decide +kernel
theorem dX12_skilled_22 : decode cX12_skilled 22 = .ok (.aload_n 0, 1) := by decide +kernel
theorem dX12_skilled_23 : decode cX12_skilled 23 = .ok (.getfield 21, 3) := by decide +kernel
theorem dX12_skilled_26 : decode cX12_skilled 26 = .ok (.bipush 8, 2) := by decide +kernel
theorem dX12_skilled_28 : decode cX12_skilled 28 = .ok (.iload_n 3, 1) := by decide +kernel
theorem dX12_skilled_29 : decode cX12_skilled 29 = .ok (.imul, 1) := by decide +kernel
theorem dX12_skilled_30 : decode cX12_skilled 30 = .ok (.iconst 5, 1) := by decide +kernel
theorem dX12_skilled_31 : decode cX12_skilled 31 = .ok (.iadd, 1) := by decide +kernel
theorem dX12_skilled_32 : decode cX12_skilled 32 = .ok (.iaload, 1) := by decide +kernel
theorem dX12_skilled_33 : decode cX12_skilled 33 = .ok (.iconst 2, 1) := by decide +kernel
theorem dX12_skilled_34 : decode cX12_skilled 34 = .ok (.if_icmp .le 7, 3) := by decide +kernel
theorem dX12_skilled_37 : decode cX12_skilled 37 = .ok (.iconst 1, 1) := by decide +kernel
theorem dX12_skilled_38 : decode cX12_skilled 38 = .ok (.goto 4, 3) := by decide +kernel
theorem dX12_skilled_41 : decode cX12_skilled 41 = .ok (.iconst 0, 1) := by decide +kernel
theorem dX12_skilled_42 : decode cX12_skilled 42 = .ok (.iadd, 1) := by decide +kernel
theorem dX12_skilled_43 : decode cX12_skilled 43 = .ok (.istore_n 2, 1) := by decide +kernel
theorem dX12_skilled_44 : decode cX12_skilled 44 = .ok (.iinc 3 1, 3) := by decide +kernel
theorem dX12_skilled_47 : decode cX12_skilled 47 = .ok (.goto (-43), 3) := by decide +kernel
theorem dX12_skilled_50 : decode cX12_skilled 50 = .ok (.iload_n 2, 1) := by decide +kernel
theorem dX12_skilled_51 : decode cX12_skilled 51 = .ok (.ireturn, 1) := by decide +kernel
theorem dX12_at_0 : decode cX12_at 0 = .ok (.aload_n 0, 1) := by decide +kernel
theorem dX12_at_1 : decode cX12_at 1 = .ok (.iconst 0, 1) := by decide +kernel
theorem dX12_at_2 : decode cX12_at 2 = .ok (.putfield 100, 3) := by decide +kernel
theorem dX12_at_5 : decode cX12_at 5 = .ok (.iload_n 1, 1) := by decide +kernel
theorem dX12_at_6 : decode cX12_at 6 = .ok (.i2l, 1) := by decide +kernel
theorem dX12_at_7 : decode cX12_at 7 = .ok (.lconst 0, 1) := by decide +kernel
theorem dX12_at_8 : decode cX12_at 8 = .ok (.aload_n 0, 1) := by decide +kernel
theorem dX12_at_9 : decode cX12_at 9 = .ok (.getfield 7, 3) := by decide +kernel
theorem dX12_at_12 : decode cX12_at 12 = .ok (.iconst 1, 1) := by decide +kernel
theorem dX12_at_13 : decode cX12_at 13 = .ok (.isub, 1) := by decide +kernel
theorem dX12_at_14 : decode cX12_at 14 = .ok (.i2l, 1) := by decide +kernel
theorem dX12_at_15 : decode cX12_at 15 = .ok (.invokestatic 103, 3) := by decide +kernel
theorem dX12_at_18 : decode cX12_at 18 = .ok (.ifCond .ne 36, 3) := by decide +kernel
theorem dX12_at_21 : decode cX12_at 21 = .ok (.iload_n 1, 1) := by decide +kernel
theorem dX12_at_22 : decode cX12_at 22 = .ok (.i2l, 1) := by decide +kernel
theorem dX12_at_23 : decode cX12_at 23 = .ok (.ldc2_w 127, 3) := by decide +kernel
theorem dX12_at_26 : decode cX12_at 26 = .ok (.bipush 9, 2) := by decide +kernel
theorem dX12_at_28 : decode cX12_at 28 = .ok (.aload_n 0, 1) := by decide +kernel
theorem dX12_at_29 : decode cX12_at 29 = .ok (.getfield 110, 3) := by decide +kernel
theorem dX12_at_32 : decode cX12_at 32 = .ok (.iadd, 1) := by decide +kernel
theorem dX12_at_33 : decode cX12_at 33 = .ok (.i2l, 1) := by decide +kernel
theorem dX12_at_34 : decode cX12_at 34 = .ok (.invokestatic 103, 3) := by decide +kernel
theorem dX12_at_37 : decode cX12_at 37 = .ok (.ifCond .ne 17, 3) := by decide +kernel
theorem dX12_at_40 : decode cX12_at 40 = .ok (.iload_n 1, 1) := by decide +kernel
theorem dX12_at_41 : decode cX12_at 41 = .ok (.i2l, 1) := by decide +kernel
theorem dX12_at_42 : decode cX12_at 42 = .ok (.ldc2_w 158, 3) := by decide +kernel
theorem dX12_at_45 : decode cX12_at 45 = .ok (.ldc2_w 160, 3) := by decide +kernel
theorem dX12_at_48 : decode cX12_at 48 = .ok (.invokestatic 103, 3) := by decide +kernel
theorem dX12_at_51 : decode cX12_at 51 = .ok (.ifCond .eq 11, 3) := by decide +kernel
theorem dX12_at_54 : decode cX12_at 54 = .ok (.aload_n 0, 1) := by decide +kernel
theorem dX12_at_55 : decode cX12_at 55 = .ok (.iload_n 1, 1) := by decide +kernel
theorem dX12_at_56 : decode cX12_at 56 = .ok (.invokevirtual 162, 3) := by decide +kernel
theorem dX12_at_59 : decode cX12_at 59 = .ok (.goto 5, 3) := by decide +kernel
theorem dX12_at_62 : decode cX12_at 62 = .ok (.bipush (-2), 2) := by decide +kernel
theorem dX12_at_64 : decode cX12_at 64 = .ok (.ireturn, 1) := by decide +kernel
theorem dX12_tide_0 : decode cX12_tide 0 = .ok (.aload_n 0, 1) := by decide +kernel
theorem dX12_tide_1 : decode cX12_tide 1 = .ok (.iconst 0, 1) := by decide +kernel
theorem dX12_tide_2 : decode cX12_tide 2 = .ok (.putfield 100, 3) := by decide +kernel
theorem dX12_tide_5 : decode cX12_tide 5 = .ok (.aload_n 0, 1) := by decide +kernel
theorem dX12_tide_6 : decode cX12_tide 6 = .ok (.getfield 141, 3) := by decide +kernel
theorem dX12_tide_9 : decode cX12_tide 9 = .ok (.ireturn, 1) := by decide +kernel
theorem dX12_heardAt_0 : decode cX12_heardAt 0 = .ok (.bipush (-9), 2) := by decide +kernel
theorem dX12_heardAt_2 : decode cX12_heardAt 2 = .ok (.istore_n 2, 1) := by decide +kernel
theorem dX12_heardAt_3 : decode cX12_heardAt 3 = .ok (.aload_n 0, 1) := by decide +kernel
theorem dX12_heardAt_4 : decode cX12_heardAt 4 = .ok (.getfield 165, 3) := by decide +kernel
theorem dX12_heardAt_7 : decode cX12_heardAt 7 = .ok (.istore_n 3, 1) := by decide +kernel
theorem dX12_heardAt_8 : decode cX12_heardAt 8 = .ok (.iload_n 3, 1) := by decide +kernel
theorem dX12_heardAt_9 : decode cX12_heardAt 9 = .ok (.aload_n 0, 1) := by decide +kernel
theorem dX12_heardAt_10 : decode cX12_heardAt 10 = .ok (.getfield 168, 3) := by decide +kernel
theorem dX12_heardAt_13 : decode cX12_heardAt 13 = .ok (.if_icmp .ge 90, 3) := by decide +kernel
theorem dX12_heardAt_16 : decode cX12_heardAt 16 = .ok (.aload_n 0, 1) := by decide +kernel
theorem dX12_heardAt_17 : decode cX12_heardAt 17 = .ok (.getfield 61, 3) := by decide +kernel
theorem dX12_heardAt_20 : decode cX12_heardAt 20 = .ok (.bipush 6, 2) := by decide +kernel
theorem dX12_heardAt_22 : decode cX12_heardAt 22 = .ok (.iload_n 3, 1) := by decide +kernel
theorem dX12_heardAt_23 : decode cX12_heardAt 23 = .ok (.imul, 1) := by decide +kernel
theorem dX12_heardAt_24 : decode cX12_heardAt 24 = .ok (.iconst 3, 1) := by decide +kernel
theorem dX12_heardAt_25 : decode cX12_heardAt 25 = .ok (.iadd, 1) := by decide +kernel
theorem dX12_heardAt_26 : decode cX12_heardAt 26 = .ok (.iaload, 1) := by decide +kernel
theorem dX12_heardAt_27 : decode cX12_heardAt 27 = .ok (.istore 4, 2) := by decide +kernel
theorem dX12_heardAt_29 : decode cX12_heardAt 29 = .ok (.iload 4, 2) := by decide +kernel
theorem dX12_heardAt_31 : decode cX12_heardAt 31 = .ok (.invokestatic 171, 3) := by decide +kernel
theorem dX12_heardAt_34 : decode cX12_heardAt 34 = .ok (.ifCond .eq 63, 3) := by decide +kernel
theorem dX12_heardAt_37 : decode cX12_heardAt 37 = .ok (.aload_n 0, 1) := by decide +kernel
theorem dX12_heardAt_38 : decode cX12_heardAt 38 = .ok (.getfield 17, 3) := by decide +kernel
theorem dX12_heardAt_41 : decode cX12_heardAt 41 = .ok (.bipush 8, 2) := by decide +kernel
theorem dX12_heardAt_43 : decode cX12_heardAt 43 = .ok (.iload 4, 2) := by decide +kernel
theorem dX12_heardAt_45 : decode cX12_heardAt 45 = .ok (.imul, 1) := by decide +kernel
theorem dX12_heardAt_46 : decode cX12_heardAt 46 = .ok (.iload_n 1, 1) := by decide +kernel
theorem dX12_heardAt_47 : decode cX12_heardAt 47 = .ok (.iadd, 1) := by decide +kernel
theorem dX12_heardAt_48 : decode cX12_heardAt 48 = .ok (.iaload, 1) := by decide +kernel
theorem dX12_heardAt_49 : decode cX12_heardAt 49 = .ok (.bipush 100, 2) := by decide +kernel
theorem dX12_heardAt_51 : decode cX12_heardAt 51 = .ok (.if_icmp .ge 46, 3) := by decide +kernel
theorem dX12_heardAt_54 : decode cX12_heardAt 54 = .ok (.aload_n 0, 1) := by decide +kernel
theorem dX12_heardAt_55 : decode cX12_heardAt 55 = .ok (.getfield 61, 3) := by decide +kernel
theorem dX12_heardAt_58 : decode cX12_heardAt 58 = .ok (.bipush 6, 2) := by decide +kernel
theorem dX12_heardAt_60 : decode cX12_heardAt 60 = .ok (.iload_n 3, 1) := by decide +kernel
theorem dX12_heardAt_61 : decode cX12_heardAt 61 = .ok (.imul, 1) := by decide +kernel
theorem dX12_heardAt_62 : decode cX12_heardAt 62 = .ok (.iaload, 1) := by decide +kernel
theorem dX12_heardAt_63 : decode cX12_heardAt 63 = .ok (.aload_n 0, 1) := by decide +kernel
theorem dX12_heardAt_64 : decode cX12_heardAt 64 = .ok (.getfield 17, 3) := by decide +kernel
theorem dX12_heardAt_67 : decode cX12_heardAt 67 = .ok (.bipush 8, 2) := by decide +kernel
theorem dX12_heardAt_69 : decode cX12_heardAt 69 = .ok (.iload 4, 2) := by decide +kernel
theorem dX12_heardAt_71 : decode cX12_heardAt 71 = .ok (.imul, 1) := by decide +kernel
theorem dX12_heardAt_72 : decode cX12_heardAt 72 = .ok (.iload_n 1, 1) := by decide +kernel
theorem dX12_heardAt_73 : decode cX12_heardAt 73 = .ok (.iadd, 1) := by decide +kernel
theorem dX12_heardAt_74 : decode cX12_heardAt 74 = .ok (.iaload, 1) := by decide +kernel
theorem dX12_heardAt_75 : decode cX12_heardAt 75 = .ok (.iadd, 1) := by decide +kernel
theorem dX12_heardAt_76 : decode cX12_heardAt 76 = .ok (.istore 5, 2) := by decide +kernel
theorem dX12_heardAt_78 : decode cX12_heardAt 78 = .ok (.iload_n 2, 1) := by decide +kernel
theorem dX12_heardAt_79 : decode cX12_heardAt 79 = .ok (.bipush (-9), 2) := by decide +kernel
theorem dX12_heardAt_81 : decode cX12_heardAt 81 = .ok (.if_icmp .eq 9, 3) := by decide +kernel
theorem dX12_heardAt_84 : decode cX12_heardAt 84 = .ok (.iload 5, 2) := by decide +kernel
theorem dX12_heardAt_86 : decode cX12_heardAt 86 = .ok (.iload_n 2, 1) := by decide +kernel
theorem dX12_heardAt_87 : decode cX12_heardAt 87 = .ok (.if_icmp .ge 8, 3) := by decide +kernel
theorem dX12_heardAt_90 : decode cX12_heardAt 90 = .ok (.iload 5, 2) := by decide +kernel
theorem dX12_heardAt_92 : decode cX12_heardAt 92 = .ok (.goto 4, 3) := by decide +kernel
theorem dX12_heardAt_95 : decode cX12_heardAt 95 = .ok (.iload_n 2, 1) := by decide +kernel
theorem dX12_heardAt_96 : decode cX12_heardAt 96 = .ok (.istore_n 2, 1) := by decide +kernel
theorem dX12_heardAt_97 : decode cX12_heardAt 97 = .ok (.iinc 3 1, 3) := by decide +kernel
theorem dX12_heardAt_100 : decode cX12_heardAt 100 = .ok (.goto (-92), 3) := by decide +kernel
theorem dX12_heardAt_103 : decode cX12_heardAt 103 = .ok (.iload_n 2, 1) := by decide +kernel
theorem dX12_heardAt_104 : decode cX12_heardAt 104 = .ok (.ireturn, 1) := by decide +kernel
theorem dX12_goOn_0 : decode cX12_goOn 0 = .ok (.aload_n 0, 1) := by decide +kernel
theorem dX12_goOn_1 : decode cX12_goOn 1 = .ok (.dup, 1) := by decide +kernel
theorem dX12_goOn_2 : decode cX12_goOn 2 = .ok (.getfield 141, 3) := by decide +kernel
theorem dX12_goOn_5 : decode cX12_goOn 5 = .ok (.iconst 1, 1) := by decide +kernel
theorem dX12_goOn_6 : decode cX12_goOn 6 = .ok (.iadd, 1) := by decide +kernel
theorem dX12_goOn_7 : decode cX12_goOn 7 = .ok (.putfield 141, 3) := by decide +kernel
theorem dX12_goOn_10 : decode cX12_goOn 10 = .ok (.iconst 0, 1) := by decide +kernel
theorem dX12_goOn_11 : decode cX12_goOn 11 = .ok (.istore_n 1, 1) := by decide +kernel
theorem dX12_goOn_12 : decode cX12_goOn 12 = .ok (.iload_n 1, 1) := by decide +kernel
theorem dX12_goOn_13 : decode cX12_goOn 13 = .ok (.aload_n 0, 1) := by decide +kernel
theorem dX12_goOn_14 : decode cX12_goOn 14 = .ok (.getfield 107, 3) := by decide +kernel
theorem dX12_goOn_17 : decode cX12_goOn 17 = .ok (.if_icmp .ge 39, 3) := by decide +kernel
theorem dX12_goOn_20 : decode cX12_goOn 20 = .ok (.aload_n 0, 1) := by decide +kernel
theorem dX12_goOn_21 : decode cX12_goOn 21 = .ok (.getfield 28, 3) := by decide +kernel
theorem dX12_goOn_24 : decode cX12_goOn 24 = .ok (.bipush 40, 2) := by decide +kernel
theorem dX12_goOn_26 : decode cX12_goOn 26 = .ok (.aload_n 0, 1) := by decide +kernel
theorem dX12_goOn_27 : decode cX12_goOn 27 = .ok (.getfield 141, 3) := by decide +kernel
theorem dX12_goOn_30 : decode cX12_goOn 30 = .ok (.imul, 1) := by decide +kernel
theorem dX12_goOn_31 : decode cX12_goOn 31 = .ok (.iload_n 1, 1) := by decide +kernel
theorem dX12_goOn_32 : decode cX12_goOn 32 = .ok (.iadd, 1) := by decide +kernel
theorem dX12_goOn_33 : decode cX12_goOn 33 = .ok (.aload_n 0, 1) := by decide +kernel
theorem dX12_goOn_34 : decode cX12_goOn 34 = .ok (.getfield 28, 3) := by decide +kernel
theorem dX12_goOn_37 : decode cX12_goOn 37 = .ok (.bipush 40, 2) := by decide +kernel
theorem dX12_goOn_39 : decode cX12_goOn 39 = .ok (.aload_n 0, 1) := by decide +kernel
theorem dX12_goOn_40 : decode cX12_goOn 40 = .ok (.getfield 141, 3) := by decide +kernel
theorem dX12_goOn_43 : decode cX12_goOn 43 = .ok (.iconst 1, 1) := by decide +kernel
theorem dX12_goOn_44 : decode cX12_goOn 44 = .ok (.isub, 1) := by decide +kernel
theorem dX12_goOn_45 : decode cX12_goOn 45 = .ok (.imul, 1) := by decide +kernel
theorem dX12_goOn_46 : decode cX12_goOn 46 = .ok (.iload_n 1, 1) := by decide +kernel
theorem dX12_goOn_47 : decode cX12_goOn 47 = .ok (.iadd, 1) := by decide +kernel
theorem dX12_goOn_48 : decode cX12_goOn 48 = .ok (.iaload, 1) := by decide +kernel
theorem dX12_goOn_49 : decode cX12_goOn 49 = .ok (.iastore, 1) := by decide +kernel
theorem dX12_goOn_50 : decode cX12_goOn 50 = .ok (.iinc 1 1, 3) := by decide +kernel
theorem dX12_goOn_53 : decode cX12_goOn 53 = .ok (.goto (-41), 3) := by decide +kernel
theorem dX12_goOn_56 : decode cX12_goOn 56 = .ok (.iconst 0, 1) := by decide +kernel
theorem dX12_goOn_57 : decode cX12_goOn 57 = .ok (.istore_n 1, 1) := by decide +kernel
theorem dX12_goOn_58 : decode cX12_goOn 58 = .ok (.iload_n 1, 1) := by decide +kernel
theorem dX12_goOn_59 : decode cX12_goOn 59 = .ok (.aload_n 0, 1) := by decide +kernel
theorem dX12_goOn_60 : decode cX12_goOn 60 = .ok (.getfield 107, 3) := by decide +kernel
theorem dX12_goOn_63 : decode cX12_goOn 63 = .ok (.if_icmp .ge 70, 3) := by decide +kernel
theorem dX12_goOn_66 : decode cX12_goOn 66 = .ok (.aload_n 0, 1) := by decide +kernel
theorem dX12_goOn_67 : decode cX12_goOn 67 = .ok (.iload_n 1, 1) := by decide +kernel
theorem dX12_goOn_68 : decode cX12_goOn 68 = .ok (.invokevirtual 154, 3) := by decide +kernel
theorem dX12_goOn_71 : decode cX12_goOn 71 = .ok (.istore_n 2, 1) := by decide +kernel
theorem dX12_goOn_72 : decode cX12_goOn 72 = .ok (.iload_n 2, 1) := by decide +kernel
theorem dX12_goOn_73 : decode cX12_goOn 73 = .ok (.invokestatic 171, 3) := by decide +kernel
theorem dX12_goOn_76 : decode cX12_goOn 76 = .ok (.ifCond .eq 11, 3) := by decide +kernel
theorem dX12_goOn_79 : decode cX12_goOn 79 = .ok (.aload_n 0, 1) := by decide +kernel
theorem dX12_goOn_80 : decode cX12_goOn 80 = .ok (.iload_n 2, 1) := by decide +kernel
theorem dX12_goOn_81 : decode cX12_goOn 81 = .ok (.invokevirtual 174, 3) := by decide +kernel
theorem dX12_goOn_84 : decode cX12_goOn 84 = .ok (.goto 5, 3) := by decide +kernel
theorem dX12_goOn_87 : decode cX12_goOn 87 = .ok (.bipush (-9), 2) := by decide +kernel
theorem dX12_goOn_89 : decode cX12_goOn 89 = .ok (.istore_n 3, 1) := by decide +kernel
theorem dX12_goOn_90 : decode cX12_goOn 90 = .ok (.aload_n 0, 1) := by decide +kernel
theorem dX12_goOn_91 : decode cX12_goOn 91 = .ok (.getfield 21, 3) := by decide +kernel
theorem dX12_goOn_94 : decode cX12_goOn 94 = .ok (.bipush 8, 2) := by decide +kernel
theorem dX12_goOn_96 : decode cX12_goOn 96 = .ok (.iload_n 1, 1) := by decide +kernel
theorem dX12_goOn_97 : decode cX12_goOn 97 = .ok (.imul, 1) := by decide +kernel
theorem dX12_goOn_98 : decode cX12_goOn 98 = .ok (.bipush 7, 2) := by decide +kernel
theorem dX12_goOn_100 : decode cX12_goOn 100 = .ok (.iadd, 1) := by decide +kernel
theorem dX12_goOn_101 : decode cX12_goOn 101 = .ok (.iaload, 1) := by decide +kernel
theorem dX12_goOn_102 : decode cX12_goOn 102 = .ok (.iconst 1, 1) := by decide +kernel
theorem dX12_goOn_103 : decode cX12_goOn 103 = .ok (.if_icmp .ne 24, 3) := by decide +kernel
theorem dX12_goOn_106 : decode cX12_goOn 106 = .ok (.iload_n 3, 1) := by decide +kernel
theorem dX12_goOn_107 : decode cX12_goOn 107 = .ok (.bipush (-9), 2) := by decide +kernel
theorem dX12_goOn_109 : decode cX12_goOn 109 = .ok (.if_icmp .eq 18, 3) := by decide +kernel
theorem dX12_goOn_112 : decode cX12_goOn 112 = .ok (.iload_n 3, 1) := by decide +kernel
theorem dX12_goOn_113 : decode cX12_goOn 113 = .ok (.aload_n 0, 1) := by decide +kernel
theorem dX12_goOn_114 : decode cX12_goOn 114 = .ok (.getfield 141, 3) := by decide +kernel
theorem dX12_goOn_117 : decode cX12_goOn 117 = .ok (.if_icmp .gt 10, 3) := by decide +kernel
theorem dX12_goOn_120 : decode cX12_goOn 120 = .ok (.aload_n 0, 1) := by decide +kernel
theorem dX12_goOn_121 : decode cX12_goOn 121 = .ok (.iload_n 1, 1) := by decide +kernel
theorem dX12_goOn_122 : decode cX12_goOn 122 = .ok (.bipush 22, 2) := by decide +kernel
theorem dX12_goOn_124 : decode cX12_goOn 124 = .ok (.invokevirtual 177, 3) := by decide +kernel
theorem dX12_goOn_127 : decode cX12_goOn 127 = .ok (.iinc 1 1, 3) := by decide +kernel
theorem dX12_goOn_130 : decode cX12_goOn 130 = .ok (.goto (-72), 3) := by decide +kernel
theorem dX12_goOn_133 : decode cX12_goOn 133 = .ok (.aload_n 0, 1) := by decide +kernel
theorem dX12_goOn_134 : decode cX12_goOn 134 = .ok (.bipush 20, 2) := by decide +kernel
theorem dX12_goOn_136 : decode cX12_goOn 136 = .ok (.invokevirtual 162, 3) := by decide +kernel
theorem dX12_goOn_139 : decode cX12_goOn 139 = .ok (.aload_n 0, 1) := by decide +kernel
theorem dX12_goOn_140 : decode cX12_goOn 140 = .ok (.getfield 64, 3) := by decide +kernel
theorem dX12_goOn_143 : decode cX12_goOn 143 = .ok (.isub, 1) := by decide +kernel
theorem dX12_goOn_144 : decode cX12_goOn 144 = .ok (.istore_n 1, 1) := by decide +kernel
theorem dX12_goOn_145 : decode cX12_goOn 145 = .ok (.iload_n 1, 1) := by decide +kernel
theorem dX12_goOn_146 : decode cX12_goOn 146 = .ok (.ifCond .le 15, 3) := by decide +kernel
theorem dX12_goOn_149 : decode cX12_goOn 149 = .ok (.iload_n 1, 1) := by decide +kernel
theorem dX12_goOn_150 : decode cX12_goOn 150 = .ok (.aload_n 0, 1) := by decide +kernel
theorem dX12_goOn_151 : decode cX12_goOn 151 = .ok (.getfield 67, 3) := by decide +kernel
theorem dX12_goOn_154 : decode cX12_goOn 154 = .ok (.imul, 1) := by decide +kernel
theorem dX12_goOn_155 : decode cX12_goOn 155 = .ok (.bipush 100, 2) := by decide +kernel
theorem dX12_goOn_157 : decode cX12_goOn 157 = .ok (.idiv, 1) := by decide +kernel
theorem dX12_goOn_158 : decode cX12_goOn 158 = .ok (.goto 4, 3) := by decide +kernel
theorem dX12_goOn_161 : decode cX12_goOn 161 = .ok (.iconst 0, 1) := by decide +kernel
theorem dX12_goOn_162 : decode cX12_goOn 162 = .ok (.istore_n 2, 1) := by decide +kernel
theorem dX12_goOn_163 : decode cX12_goOn 163 = .ok (.iconst 0, 1) := by decide +kernel
theorem dX12_goOn_164 : decode cX12_goOn 164 = .ok (.istore_n 3, 1) := by decide +kernel
theorem dX12_goOn_165 : decode cX12_goOn 165 = .ok (.iload_n 3, 1) := by decide +kernel
theorem dX12_goOn_166 : decode cX12_goOn 166 = .ok (.aload_n 0, 1) := by decide +kernel
theorem dX12_goOn_167 : decode cX12_goOn 167 = .ok (.getfield 107, 3) := by decide +kernel
theorem dX12_goOn_170 : decode cX12_goOn 170 = .ok (.if_icmp .ge 43, 3) := by decide +kernel
theorem dX12_goOn_173 : decode cX12_goOn 173 = .ok (.iload_n 2, 1) := by decide +kernel
theorem dX12_goOn_174 : decode cX12_goOn 174 = .ok (.ifCond .le 39, 3) := by decide +kernel
theorem dX12_goOn_177 : decode cX12_goOn 177 = .ok (.aload_n 0, 1) := by decide +kernel
theorem dX12_goOn_178 : decode cX12_goOn 178 = .ok (.iload_n 3, 1) := by decide +kernel
theorem dX12_goOn_179 : decode cX12_goOn 179 = .ok (.invokevirtual 154, 3) := by decide +kernel
theorem dX12_goOn_182 : decode cX12_goOn 182 = .ok (.bipush 20, 2) := by decide +kernel
theorem dX12_goOn_184 : decode cX12_goOn 184 = .ok (.if_icmp .ne 23, 3) := by decide +kernel
theorem dX12_goOn_187 : decode cX12_goOn 187 = .ok (.aload_n 0, 1) := by decide +kernel
theorem dX12_goOn_188 : decode cX12_goOn 188 = .ok (.iload_n 3, 1) := by decide +kernel
theorem dX12_goOn_189 : decode cX12_goOn 189 = .ok (.bipush 21, 2) := by decide +kernel
theorem dX12_goOn_191 : decode cX12_goOn 191 = .ok (.invokevirtual 177, 3) := by decide +kernel
theorem dX12_goOn_194 : decode cX12_goOn 194 = .ok (.aload_n 0, 1) := by decide +kernel
theorem dX12_goOn_195 : decode cX12_goOn 195 = .ok (.getfield 24, 3) := by decide +kernel
theorem dX12_goOn_198 : decode cX12_goOn 198 = .ok (.iload_n 3, 1) := by decide +kernel
theorem dX12_goOn_199 : decode cX12_goOn 199 = .ok (.aload_n 0, 1) := by decide +kernel
theorem dX12_goOn_200 : decode cX12_goOn 200 = .ok (.getfield 141, 3) := by decide +kernel
theorem dX12_goOn_203 : decode cX12_goOn 203 = .ok (.iastore, 1) := by decide +kernel
theorem dX12_goOn_204 : decode cX12_goOn 204 = .ok (.iinc 2 (-1), 3) := by decide +kernel
theorem dX12_goOn_207 : decode cX12_goOn 207 = .ok (.iinc 3 1, 3) := by decide +kernel
theorem dX12_goOn_210 : decode cX12_goOn 210 = .ok (.goto (-45), 3) := by decide +kernel
theorem dX12_goOn_213 : decode cX12_goOn 213 = .ok (.iconst 0, 1) := by decide +kernel
theorem dX12_goOn_214 : decode cX12_goOn 214 = .ok (.istore_n 3, 1) := by decide +kernel
theorem dX12_goOn_215 : decode cX12_goOn 215 = .ok (.iload_n 3, 1) := by decide +kernel
theorem dX12_goOn_216 : decode cX12_goOn 216 = .ok (.aload_n 0, 1) := by decide +kernel
theorem dX12_goOn_217 : decode cX12_goOn 217 = .ok (.getfield 107, 3) := by decide +kernel
theorem dX12_goOn_220 : decode cX12_goOn 220 = .ok (.if_icmp .ge 52, 3) := by decide +kernel
theorem dX12_goOn_223 : decode cX12_goOn 223 = .ok (.aload_n 0, 1) := by decide +kernel
theorem dX12_goOn_224 : decode cX12_goOn 224 = .ok (.iload_n 3, 1) := by decide +kernel
theorem dX12_goOn_225 : decode cX12_goOn 225 = .ok (.invokevirtual 154, 3) := by decide +kernel
theorem dX12_goOn_228 : decode cX12_goOn 228 = .ok (.bipush 21, 2) := by decide +kernel
theorem dX12_goOn_230 : decode cX12_goOn 230 = .ok (.if_icmp .ne 36, 3) := by decide +kernel
theorem dX12_goOn_233 : decode cX12_goOn 233 = .ok (.aload_n 0, 1) := by decide +kernel
theorem dX12_goOn_234 : decode cX12_goOn 234 = .ok (.getfield 24, 3) := by decide +kernel
theorem dX12_goOn_237 : decode cX12_goOn 237 = .ok (.iload_n 3, 1) := by decide +kernel
theorem dX12_goOn_238 : decode cX12_goOn 238 = .ok (.iaload, 1) := by decide +kernel
theorem dX12_goOn_239 : decode cX12_goOn 239 = .ok (.aload_n 0, 1) := by decide +kernel
theorem dX12_goOn_240 : decode cX12_goOn 240 = .ok (.getfield 141, 3) := by decide +kernel
theorem dX12_goOn_243 : decode cX12_goOn 243 = .ok (.bipush 10, 2) := by decide +kernel
theorem dX12_goOn_245 : decode cX12_goOn 245 = .ok (.isub, 1) := by decide +kernel
theorem dX12_goOn_246 : decode cX12_goOn 246 = .ok (.if_icmp .ne 20, 3) := by decide +kernel
theorem dX12_goOn_249 : decode cX12_goOn 249 = .ok (.aload_n 0, 1) := by decide +kernel
theorem dX12_goOn_250 : decode cX12_goOn 250 = .ok (.iload_n 3, 1) := by decide +kernel
theorem dX12_goOn_251 : decode cX12_goOn 251 = .ok (.aload_n 0, 1) := by decide +kernel
theorem dX12_goOn_252 : decode cX12_goOn 252 = .ok (.getfield 21, 3) := by decide +kernel
theorem dX12_goOn_255 : decode cX12_goOn 255 = .ok (.bipush 8, 2) := by decide +kernel
theorem dX12_goOn_257 : decode cX12_goOn 257 = .ok (.iload_n 3, 1) := by decide +kernel
theorem dX12_goOn_258 : decode cX12_goOn 258 = .ok (.imul, 1) := by decide +kernel
theorem dX12_goOn_259 : decode cX12_goOn 259 = .ok (.bipush 6, 2) := by decide +kernel
theorem dX12_goOn_261 : decode cX12_goOn 261 = .ok (.iadd, 1) := by decide +kernel
theorem dX12_goOn_262 : decode cX12_goOn 262 = .ok (.iaload, 1) := by decide +kernel
theorem dX12_goOn_263 : decode cX12_goOn 263 = .ok (.invokevirtual 177, 3) := by decide +kernel
theorem dX12_goOn_266 : decode cX12_goOn 266 = .ok (.iinc 3 1, 3) := by decide +kernel
theorem dX12_goOn_269 : decode cX12_goOn 269 = .ok (.goto (-54), 3) := by decide +kernel
theorem dX12_goOn_272 : decode cX12_goOn 272 = .ok (.return_, 1) := by decide +kernel
theorem dX12_pass_0 : decode cX12_pass 0 = .ok (.aload_n 0, 1) := by decide +kernel
theorem dX12_pass_1 : decode cX12_pass 1 = .ok (.iconst 0, 1) := by decide +kernel
theorem dX12_pass_2 : decode cX12_pass 2 = .ok (.putfield 100, 3) := by decide +kernel
theorem dX12_pass_5 : decode cX12_pass 5 = .ok (.iload_n 1, 1) := by decide +kernel
theorem dX12_pass_6 : decode cX12_pass 6 = .ok (.i2l, 1) := by decide +kernel
theorem dX12_pass_7 : decode cX12_pass 7 = .ok (.lconst 1, 1) := by decide +kernel
theorem dX12_pass_8 : decode cX12_pass 8 = .ok (.ldc2_w 129, 3) := by decide +kernel
theorem dX12_pass_11 : decode cX12_pass 11 = .ok (.invokestatic 103, 3) := by decide +kernel
theorem dX12_pass_14 : decode cX12_pass 14 = .ok (.ifCond .ne 6, 3) := by decide +kernel
theorem dX12_pass_17 : decode cX12_pass 17 = .ok (.bipush (-2), 2) := by decide +kernel
theorem dX12_pass_19 : decode cX12_pass 19 = .ok (.ireturn, 1) := by decide +kernel
theorem dX12_pass_20 : decode cX12_pass 20 = .ok (.aload_n 0, 1) := by decide +kernel
theorem dX12_pass_21 : decode cX12_pass 21 = .ok (.getfield 141, 3) := by decide +kernel
theorem dX12_pass_24 : decode cX12_pass 24 = .ok (.iload_n 1, 1) := by decide +kernel
theorem dX12_pass_25 : decode cX12_pass 25 = .ok (.iadd, 1) := by decide +kernel
theorem dX12_pass_26 : decode cX12_pass 26 = .ok (.sipush 899, 3) := by decide +kernel
theorem dX12_pass_29 : decode cX12_pass 29 = .ok (.if_icmp .le 6, 3) := by decide +kernel
theorem dX12_pass_32 : decode cX12_pass 32 = .ok (.bipush (-4), 2) := by decide +kernel
theorem dX12_pass_34 : decode cX12_pass 34 = .ok (.ireturn, 1) := by decide +kernel
theorem dX12_pass_35 : decode cX12_pass 35 = .ok (.aload_n 0, 1) := by decide +kernel
theorem dX12_pass_36 : decode cX12_pass 36 = .ok (.invokevirtual 124, 3) := by decide +kernel
theorem dX12_pass_39 : decode cX12_pass 39 = .ok (.iconst 0, 1) := by decide +kernel
theorem dX12_pass_40 : decode cX12_pass 40 = .ok (.istore_n 2, 1) := by decide +kernel
theorem dX12_pass_41 : decode cX12_pass 41 = .ok (.iload_n 2, 1) := by decide +kernel
theorem dX12_pass_42 : decode cX12_pass 42 = .ok (.iload_n 1, 1) := by decide +kernel
theorem dX12_pass_43 : decode cX12_pass 43 = .ok (.if_icmp .ge 13, 3) := by decide +kernel
theorem dX12_pass_46 : decode cX12_pass 46 = .ok (.aload_n 0, 1) := by decide +kernel
theorem dX12_pass_47 : decode cX12_pass 47 = .ok (.invokevirtual 181, 3) := by decide +kernel
theorem dX12_pass_50 : decode cX12_pass 50 = .ok (.iinc 2 1, 3) := by decide +kernel
theorem dX12_pass_53 : decode cX12_pass 53 = .ok (.goto (-12), 3) := by decide +kernel
theorem dX12_pass_56 : decode cX12_pass 56 = .ok (.aload_n 0, 1) := by decide +kernel
theorem dX12_pass_57 : decode cX12_pass 57 = .ok (.getfield 141, 3) := by decide +kernel
theorem dX12_pass_60 : decode cX12_pass 60 = .ok (.ireturn, 1) := by decide +kernel
theorem dX12_walk_0 : decode cX12_walk 0 = .ok (.aload_n 0, 1) := by decide +kernel
theorem dX12_walk_1 : decode cX12_walk 1 = .ok (.iconst 0, 1) := by decide +kernel
theorem dX12_walk_2 : decode cX12_walk 2 = .ok (.putfield 100, 3) := by decide +kernel
theorem dX12_walk_5 : decode cX12_walk 5 = .ok (.aload_n 0, 1) := by decide +kernel
theorem dX12_walk_6 : decode cX12_walk 6 = .ok (.iload_n 1, 1) := by decide +kernel
theorem dX12_walk_7 : decode cX12_walk 7 = .ok (.invokevirtual 144, 3) := by decide +kernel
theorem dX12_walk_10 : decode cX12_walk 10 = .ok (.ifCond .ne 11, 3) := by decide +kernel
theorem dX12_walk_13 : decode cX12_walk 13 = .ok (.aload_n 0, 1) := by decide +kernel
theorem dX12_walk_14 : decode cX12_walk 14 = .ok (.iload_n 2, 1) := by decide +kernel
theorem dX12_walk_15 : decode cX12_walk 15 = .ok (.invokevirtual 120, 3) := by decide +kernel
theorem dX12_walk_18 : decode cX12_walk 18 = .ok (.ifCond .eq 5, 3) := by decide +kernel
theorem dX12_walk_21 : decode cX12_walk 21 = .ok (.iconst (-1), 1) := by decide +kernel
theorem dX12_walk_22 : decode cX12_walk 22 = .ok (.ireturn, 1) := by decide +kernel
theorem dX12_walk_23 : decode cX12_walk 23 = .ok (.aload_n 0, 1) := by decide +kernel
theorem dX12_walk_24 : decode cX12_walk 24 = .ok (.iload_n 1, 1) := by decide +kernel
theorem dX12_walk_25 : decode cX12_walk 25 = .ok (.invokevirtual 154, 3) := by decide +kernel
theorem dX12_walk_28 : decode cX12_walk 28 = .ok (.istore_n 3, 1) := by decide +kernel
theorem dX12_walk_29 : decode cX12_walk 29 = .ok (.iload_n 3, 1) := by decide +kernel
theorem dX12_walk_30 : decode cX12_walk 30 = .ok (.invokestatic 171, 3) := by decide +kernel
theorem dX12_walk_33 : decode cX12_walk 33 = .ok (.ifCond .ne 12, 3) := by decide +kernel
theorem dX12_walk_36 : decode cX12_walk 36 = .ok (.iload_n 3, 1) := by decide +kernel
theorem dX12_walk_37 : decode cX12_walk 37 = .ok (.bipush 22, 2) := by decide +kernel
theorem dX12_walk_39 : decode cX12_walk 39 = .ok (.if_icmp .eq 6, 3) := by decide +kernel
theorem dX12_walk_42 : decode cX12_walk 42 = .ok (.bipush (-3), 2) := by decide +kernel
theorem dX12_walk_44 : decode cX12_walk 44 = .ok (.ireturn, 1) := by decide +kernel
theorem dX12_walk_45 : decode cX12_walk 45 = .ok (.aload_n 0, 1) := by decide +kernel
theorem dX12_walk_46 : decode cX12_walk 46 = .ok (.iload_n 1, 1) := by decide +kernel
theorem dX12_walk_47 : decode cX12_walk 47 = .ok (.iload_n 2, 1) := by decide +kernel
theorem dX12_walk_48 : decode cX12_walk 48 = .ok (.invokevirtual 177, 3) := by decide +kernel
theorem dX12_walk_51 : decode cX12_walk 51 = .ok (.iload_n 3, 1) := by decide +kernel
theorem dX12_walk_52 : decode cX12_walk 52 = .ok (.ireturn, 1) := by decide +kernel
theorem dX12_run_0 : decode cX12_run 0 = .ok (.aload_n 0, 1) := by decide +kernel
theorem dX12_run_1 : decode cX12_run 1 = .ok (.iconst 0, 1) := by decide +kernel
theorem dX12_run_2 : decode cX12_run 2 = .ok (.putfield 100, 3) := by decide +kernel
theorem dX12_run_5 : decode cX12_run 5 = .ok (.aload_n 0, 1) := by decide +kernel
theorem dX12_run_6 : decode cX12_run 6 = .ok (.iload_n 1, 1) := by decide +kernel
theorem dX12_run_7 : decode cX12_run 7 = .ok (.invokevirtual 144, 3) := by decide +kernel
theorem dX12_run_10 : decode cX12_run 10 = .ok (.ifCond .eq 5, 3) := by decide +kernel
theorem dX12_run_13 : decode cX12_run 13 = .ok (.iconst (-1), 1) := by decide +kernel
theorem dX12_run_14 : decode cX12_run 14 = .ok (.ireturn, 1) := by decide +kernel
theorem dX12_run_15 : decode cX12_run 15 = .ok (.aload_n 0, 1) := by decide +kernel
theorem dX12_run_16 : decode cX12_run 16 = .ok (.iload_n 1, 1) := by decide +kernel
theorem dX12_run_17 : decode cX12_run 17 = .ok (.invokevirtual 154, 3) := by decide +kernel
theorem dX12_run_20 : decode cX12_run 20 = .ok (.istore_n 2, 1) := by decide +kernel
theorem dX12_run_21 : decode cX12_run 21 = .ok (.iload_n 2, 1) := by decide +kernel
theorem dX12_run_22 : decode cX12_run 22 = .ok (.bipush 23, 2) := by decide +kernel
theorem dX12_run_24 : decode cX12_run 24 = .ok (.if_icmp .ne 6, 3) := by decide +kernel
theorem dX12_run_27 : decode cX12_run 27 = .ok (.bipush (-3), 2) := by decide +kernel
theorem dX12_run_29 : decode cX12_run 29 = .ok (.ireturn, 1) := by decide +kernel
theorem dX12_run_30 : decode cX12_run 30 = .ok (.aload_n 0, 1) := by decide +kernel
theorem dX12_run_31 : decode cX12_run 31 = .ok (.iload_n 1, 1) := by decide +kernel
theorem dX12_run_32 : decode cX12_run 32 = .ok (.bipush 23, 2) := by decide +kernel
theorem dX12_run_34 : decode cX12_run 34 = .ok (.invokevirtual 177, 3) := by decide +kernel
theorem dX12_run_37 : decode cX12_run 37 = .ok (.iload_n 2, 1) := by decide +kernel
theorem dX12_run_38 : decode cX12_run 38 = .ok (.ireturn, 1) := by decide +kernel
theorem dX12_badSpan_0 : decode cX12_badSpan 0 = .ok (.iload_n 0, 1) := by decide +kernel
theorem dX12_badSpan_1 : decode cX12_badSpan 1 = .ok (.i2l, 1) := by decide +kernel
theorem dX12_badSpan_2 : decode cX12_badSpan 2 = .ok (.lconst 0, 1) := by decide +kernel
theorem dX12_badSpan_3 : decode cX12_badSpan 3 = .ok (.iload_n 1, 1) := by decide +kernel
theorem dX12_badSpan_4 : decode cX12_badSpan 4 = .ok (.i2l, 1) := by decide +kernel
theorem dX12_badSpan_5 : decode cX12_badSpan 5 = .ok (.invokestatic 103, 3) := by decide +kernel
theorem dX12_badSpan_8 : decode cX12_badSpan 8 = .ok (.ifCond .eq 8, 3) := by decide +kernel
theorem dX12_badSpan_11 : decode cX12_badSpan 11 = .ok (.iload_n 1, 1) := by decide +kernel
theorem dX12_badSpan_12 : decode cX12_badSpan 12 = .ok (.iload_n 2, 1) := by decide +kernel
theorem dX12_badSpan_13 : decode cX12_badSpan 13 = .ok (.if_icmp .le 7, 3) := by decide +kernel
theorem dX12_badSpan_16 : decode cX12_badSpan 16 = .ok (.iconst 1, 1) := by decide +kernel
theorem dX12_badSpan_17 : decode cX12_badSpan 17 = .ok (.goto 4, 3) := by decide +kernel
theorem dX12_badSpan_20 : decode cX12_badSpan 20 = .ok (.iconst 0, 1) := by decide +kernel
theorem dX12_badSpan_21 : decode cX12_badSpan 21 = .ok (.ireturn, 1) := by decide +kernel
theorem dX12_badLook_0 : decode cX12_badLook 0 = .ok (.iload_n 0, 1) := by decide +kernel
theorem dX12_badLook_1 : decode cX12_badLook 1 = .ok (.bipush (-9), 2) := by decide +kernel
theorem dX12_badLook_3 : decode cX12_badLook 3 = .ok (.if_icmp .eq 19, 3) := by decide +kernel
theorem dX12_badLook_6 : decode cX12_badLook 6 = .ok (.iload_n 0, 1) := by decide +kernel
theorem dX12_badLook_7 : decode cX12_badLook 7 = .ok (.i2l, 1) := by decide +kernel
theorem dX12_badLook_8 : decode cX12_badLook 8 = .ok (.lconst 0, 1) := by decide +kernel
theorem dX12_badLook_9 : decode cX12_badLook 9 = .ok (.ldc2_w 131, 3) := by decide +kernel
theorem dX12_badLook_12 : decode cX12_badLook 12 = .ok (.invokestatic 103, 3) := by decide +kernel
theorem dX12_badLook_15 : decode cX12_badLook 15 = .ok (.ifCond .ne 7, 3) := by decide +kernel
theorem dX12_badLook_18 : decode cX12_badLook 18 = .ok (.iconst 1, 1) := by decide +kernel
theorem dX12_badLook_19 : decode cX12_badLook 19 = .ok (.goto 4, 3) := by decide +kernel
theorem dX12_badLook_22 : decode cX12_badLook 22 = .ok (.iconst 0, 1) := by decide +kernel
theorem dX12_badLook_23 : decode cX12_badLook 23 = .ok (.ireturn, 1) := by decide +kernel
theorem dX12_paper_0 : decode cX12_paper 0 = .ok (.aload_n 0, 1) := by decide +kernel
theorem dX12_paper_1 : decode cX12_paper 1 = .ok (.iconst 0, 1) := by decide +kernel
theorem dX12_paper_2 : decode cX12_paper 2 = .ok (.putfield 100, 3) := by decide +kernel
theorem dX12_paper_5 : decode cX12_paper 5 = .ok (.aload_n 0, 1) := by decide +kernel
theorem dX12_paper_6 : decode cX12_paper 6 = .ok (.iload_n 1, 1) := by decide +kernel
theorem dX12_paper_7 : decode cX12_paper 7 = .ok (.invokevirtual 144, 3) := by decide +kernel
theorem dX12_paper_10 : decode cX12_paper 10 = .ok (.ifCond .eq 5, 3) := by decide +kernel
theorem dX12_paper_13 : decode cX12_paper 13 = .ok (.iconst (-1), 1) := by decide +kernel
theorem dX12_paper_14 : decode cX12_paper 14 = .ok (.ireturn, 1) := by decide +kernel
theorem dX12_paper_15 : decode cX12_paper 15 = .ok (.iload_n 2, 1) := by decide +kernel
theorem dX12_paper_16 : decode cX12_paper 16 = .ok (.invokestatic 184, 3) := by decide +kernel
theorem dX12_paper_19 : decode cX12_paper 19 = .ok (.ifCond .ne 47, 3) := by decide +kernel
theorem dX12_paper_22 : decode cX12_paper 22 = .ok (.iload_n 3, 1) := by decide +kernel
theorem dX12_paper_23 : decode cX12_paper 23 = .ok (.invokestatic 184, 3) := by decide +kernel
theorem dX12_paper_26 : decode cX12_paper 26 = .ok (.ifCond .ne 40, 3) := by decide +kernel
theorem dX12_paper_29 : decode cX12_paper 29 = .ok (.iload 4, 2) := by decide +kernel
theorem dX12_paper_31 : decode cX12_paper 31 = .ok (.iload 5, 2) := by decide +kernel
theorem dX12_paper_33 : decode cX12_paper 33 = .ok (.bipush 99, 2) := by decide +kernel
theorem dX12_paper_35 : decode cX12_paper 35 = .ok (.invokestatic 187, 3) := by decide +kernel
theorem dX12_paper_38 : decode cX12_paper 38 = .ok (.ifCond .ne 28, 3) := by decide +kernel
theorem dX12_paper_41 : decode cX12_paper 41 = .ok (.iload 6, 2) := by decide +kernel
theorem dX12_paper_43 : decode cX12_paper 43 = .ok (.iload 7, 2) := by decide +kernel
theorem dX12_paper_45 : decode cX12_paper 45 = .ok (.bipush 99, 2) := by decide +kernel
theorem dX12_paper_47 : decode cX12_paper 47 = .ok (.invokestatic 187, 3) := by decide +kernel
theorem dX12_paper_50 : decode cX12_paper 50 = .ok (.ifCond .ne 16, 3) := by decide +kernel
theorem dX12_paper_53 : decode cX12_paper 53 = .ok (.iload 8, 2) := by decide +kernel
theorem dX12_paper_55 : decode cX12_paper 55 = .ok (.iload 9, 2) := by decide +kernel
theorem dX12_paper_57 : decode cX12_paper 57 = .ok (.sipush 899, 3) := by decide +kernel
theorem dX12_paper_60 : decode cX12_paper 60 = .ok (.invokestatic 187, 3) := by decide +kernel
theorem dX12_paper_63 : decode cX12_paper 63 = .ok (.ifCond .eq 6, 3) := by decide +kernel
theorem dX12_paper_66 : decode cX12_paper 66 = .ok (.bipush (-2), 2) := by decide +kernel
theorem dX12_paper_68 : decode cX12_paper 68 = .ok (.ireturn, 1) := by decide +kernel
theorem dX12_paper_69 : decode cX12_paper 69 = .ok (.aload_n 0, 1) := by decide +kernel
theorem dX12_paper_70 : decode cX12_paper 70 = .ok (.getfield 113, 3) := by decide +kernel
theorem dX12_paper_73 : decode cX12_paper 73 = .ok (.bipush 60, 2) := by decide +kernel
theorem dX12_paper_75 : decode cX12_paper 75 = .ok (.if_icmp .ne 6, 3) := by decide +kernel
theorem dX12_paper_78 : decode cX12_paper 78 = .ok (.bipush (-4), 2) := by decide +kernel
theorem dX12_paper_80 : decode cX12_paper 80 = .ok (.ireturn, 1) := by decide +kernel
theorem dX12_paper_81 : decode cX12_paper 81 = .ok (.bipush 9, 2) := by decide +kernel
theorem dX12_paper_83 : decode cX12_paper 83 = .ok (.aload_n 0, 1) := by decide +kernel
theorem dX12_paper_84 : decode cX12_paper 84 = .ok (.getfield 113, 3) := by decide +kernel
theorem dX12_paper_87 : decode cX12_paper 87 = .ok (.imul, 1) := by decide +kernel
theorem dX12_paper_88 : decode cX12_paper 88 = .ok (.istore 10, 2) := by decide +kernel
theorem dX12_paper_90 : decode cX12_paper 90 = .ok (.aload_n 0, 1) := by decide +kernel
theorem dX12_paper_91 : decode cX12_paper 91 = .ok (.getfield 46, 3) := by decide +kernel
theorem dX12_paper_94 : decode cX12_paper 94 = .ok (.iload 10, 2) := by decide +kernel
theorem dX12_paper_96 : decode cX12_paper 96 = .ok (.iload_n 1, 1) := by decide +kernel
theorem dX12_paper_97 : decode cX12_paper 97 = .ok (.iastore, 1) := by decide +kernel
theorem dX12_paper_98 : decode cX12_paper 98 = .ok (.aload_n 0, 1) := by decide +kernel
theorem dX12_paper_99 : decode cX12_paper 99 = .ok (.getfield 46, 3) := by decide +kernel
theorem dX12_paper_102 : decode cX12_paper 102 = .ok (.iload 10, 2) := by decide +kernel
theorem dX12_paper_104 : decode cX12_paper 104 = .ok (.iconst 1, 1) := by decide +kernel
theorem dX12_paper_105 : decode cX12_paper 105 = .ok (.iadd, 1) := by decide +kernel
theorem dX12_paper_106 : decode cX12_paper 106 = .ok (.iload_n 2, 1) := by decide +kernel
theorem dX12_paper_107 : decode cX12_paper 107 = .ok (.iastore, 1) := by decide +kernel
theorem dX12_paper_108 : decode cX12_paper 108 = .ok (.aload_n 0, 1) := by decide +kernel
theorem dX12_paper_109 : decode cX12_paper 109 = .ok (.getfield 46, 3) := by decide +kernel
theorem dX12_paper_112 : decode cX12_paper 112 = .ok (.iload 10, 2) := by decide +kernel
theorem dX12_paper_114 : decode cX12_paper 114 = .ok (.iconst 2, 1) := by decide +kernel
theorem dX12_paper_115 : decode cX12_paper 115 = .ok (.iadd, 1) := by decide +kernel
theorem dX12_paper_116 : decode cX12_paper 116 = .ok (.iload_n 3, 1) := by decide +kernel
theorem dX12_paper_117 : decode cX12_paper 117 = .ok (.iastore, 1) := by decide +kernel
theorem dX12_paper_118 : decode cX12_paper 118 = .ok (.aload_n 0, 1) := by decide +kernel
theorem dX12_paper_119 : decode cX12_paper 119 = .ok (.getfield 46, 3) := by decide +kernel
theorem dX12_paper_122 : decode cX12_paper 122 = .ok (.iload 10, 2) := by decide +kernel
theorem dX12_paper_124 : decode cX12_paper 124 = .ok (.iconst 3, 1) := by decide +kernel
theorem dX12_paper_125 : decode cX12_paper 125 = .ok (.iadd, 1) := by decide +kernel
theorem dX12_paper_126 : decode cX12_paper 126 = .ok (.iload 4, 2) := by decide +kernel
theorem dX12_paper_128 : decode cX12_paper 128 = .ok (.iastore, 1) := by decide +kernel
theorem dX12_paper_129 : decode cX12_paper 129 = .ok (.aload_n 0, 1) := by decide +kernel
theorem dX12_paper_130 : decode cX12_paper 130 = .ok (.getfield 46, 3) := by decide +kernel
theorem dX12_paper_133 : decode cX12_paper 133 = .ok (.iload 10, 2) := by decide +kernel
theorem dX12_paper_135 : decode cX12_paper 135 = .ok (.iconst 4, 1) := by decide +kernel
theorem dX12_paper_136 : decode cX12_paper 136 = .ok (.iadd, 1) := by decide +kernel
theorem dX12_paper_137 : decode cX12_paper 137 = .ok (.iload 5, 2) := by decide +kernel
theorem dX12_paper_139 : decode cX12_paper 139 = .ok (.iastore, 1) := by decide +kernel
theorem dX12_paper_140 : decode cX12_paper 140 = .ok (.aload_n 0, 1) := by decide +kernel
theorem dX12_paper_141 : decode cX12_paper 141 = .ok (.getfield 46, 3) := by decide +kernel
theorem dX12_paper_144 : decode cX12_paper 144 = .ok (.iload 10, 2) := by decide +kernel
theorem dX12_paper_146 : decode cX12_paper 146 = .ok (.iconst 5, 1) := by decide +kernel
theorem dX12_paper_147 : decode cX12_paper 147 = .ok (.iadd, 1) := by decide +kernel
theorem dX12_paper_148 : decode cX12_paper 148 = .ok (.iload 6, 2) := by decide +kernel
theorem dX12_paper_150 : decode cX12_paper 150 = .ok (.iastore, 1) := by decide +kernel
theorem dX12_paper_151 : decode cX12_paper 151 = .ok (.aload_n 0, 1) := by decide +kernel
theorem dX12_paper_152 : decode cX12_paper 152 = .ok (.getfield 46, 3) := by decide +kernel
theorem dX12_paper_155 : decode cX12_paper 155 = .ok (.iload 10, 2) := by decide +kernel
theorem dX12_paper_157 : decode cX12_paper 157 = .ok (.bipush 6, 2) := by decide +kernel
theorem dX12_paper_159 : decode cX12_paper 159 = .ok (.iadd, 1) := by decide +kernel
theorem dX12_paper_160 : decode cX12_paper 160 = .ok (.iload 7, 2) := by decide +kernel
theorem dX12_paper_162 : decode cX12_paper 162 = .ok (.iastore, 1) := by decide +kernel
theorem dX12_paper_163 : decode cX12_paper 163 = .ok (.aload_n 0, 1) := by decide +kernel
theorem dX12_paper_164 : decode cX12_paper 164 = .ok (.getfield 46, 3) := by decide +kernel
theorem dX12_paper_167 : decode cX12_paper 167 = .ok (.iload 10, 2) := by decide +kernel
theorem dX12_paper_169 : decode cX12_paper 169 = .ok (.bipush 7, 2) := by decide +kernel
theorem dX12_paper_171 : decode cX12_paper 171 = .ok (.iadd, 1) := by decide +kernel
theorem dX12_paper_172 : decode cX12_paper 172 = .ok (.iload 8, 2) := by decide +kernel
theorem dX12_paper_174 : decode cX12_paper 174 = .ok (.iastore, 1) := by decide +kernel
theorem dX12_paper_175 : decode cX12_paper 175 = .ok (.aload_n 0, 1) := by decide +kernel
theorem dX12_paper_176 : decode cX12_paper 176 = .ok (.getfield 46, 3) := by decide +kernel
theorem dX12_paper_179 : decode cX12_paper 179 = .ok (.iload 10, 2) := by decide +kernel
theorem dX12_paper_181 : decode cX12_paper 181 = .ok (.bipush 8, 2) := by decide +kernel
theorem dX12_paper_183 : decode cX12_paper 183 = .ok (.iadd, 1) := by decide +kernel
theorem dX12_paper_184 : decode cX12_paper 184 = .ok (.iload 9, 2) := by decide +kernel
theorem dX12_paper_186 : decode cX12_paper 186 = .ok (.iastore, 1) := by decide +kernel
theorem dX12_paper_187 : decode cX12_paper 187 = .ok (.aload_n 0, 1) := by decide +kernel
theorem dX12_paper_188 : decode cX12_paper 188 = .ok (.dup, 1) := by decide +kernel
theorem dX12_paper_189 : decode cX12_paper 189 = .ok (.getfield 113, 3) := by decide +kernel
theorem dX12_paper_192 : decode cX12_paper 192 = .ok (.iconst 1, 1) := by decide +kernel
theorem dX12_paper_193 : decode cX12_paper 193 = .ok (.iadd, 1) := by decide +kernel
theorem dX12_paper_194 : decode cX12_paper 194 = .ok (.putfield 113, 3) := by decide +kernel
theorem dX12_paper_197 : decode cX12_paper 197 = .ok (.aload_n 0, 1) := by decide +kernel
theorem dX12_paper_198 : decode cX12_paper 198 = .ok (.getfield 113, 3) := by decide +kernel
theorem dX12_paper_201 : decode cX12_paper 201 = .ok (.iconst 1, 1) := by decide +kernel
theorem dX12_paper_202 : decode cX12_paper 202 = .ok (.isub, 1) := by decide +kernel
theorem dX12_paper_203 : decode cX12_paper 203 = .ok (.ireturn, 1) := by decide +kernel
theorem dX12_covers_0 : decode cX12_covers 0 = .ok (.bipush 9, 2) := by decide +kernel
theorem dX12_covers_2 : decode cX12_covers 2 = .ok (.iload_n 1, 1) := by decide +kernel
theorem dX12_covers_3 : decode cX12_covers 3 = .ok (.imul, 1) := by decide +kernel
theorem dX12_covers_4 : decode cX12_covers 4 = .ok (.istore 4, 2) := by decide +kernel
theorem dX12_covers_6 : decode cX12_covers 6 = .ok (.bipush 8, 2) := by decide +kernel
theorem dX12_covers_8 : decode cX12_covers 8 = .ok (.iload_n 2, 1) := by decide +kernel
theorem dX12_covers_9 : decode cX12_covers 9 = .ok (.imul, 1) := by decide +kernel
theorem dX12_covers_10 : decode cX12_covers 10 = .ok (.istore 5, 2) := by decide +kernel
theorem dX12_covers_12 : decode cX12_covers 12 = .ok (.aload_n 0, 1) := by decide +kernel
theorem dX12_covers_13 : decode cX12_covers 13 = .ok (.getfield 46, 3) := by decide +kernel
theorem dX12_covers_16 : decode cX12_covers 16 = .ok (.iload 4, 2) := by decide +kernel
theorem dX12_covers_18 : decode cX12_covers 18 = .ok (.iconst 1, 1) := by decide +kernel
theorem dX12_covers_19 : decode cX12_covers 19 = .ok (.iadd, 1) := by decide +kernel
theorem dX12_covers_20 : decode cX12_covers 20 = .ok (.iaload, 1) := by decide +kernel
theorem dX12_covers_21 : decode cX12_covers 21 = .ok (.bipush (-9), 2) := by decide +kernel
theorem dX12_covers_23 : decode cX12_covers 23 = .ok (.if_icmp .eq 24, 3) := by decide +kernel
theorem dX12_covers_26 : decode cX12_covers 26 = .ok (.aload_n 0, 1) := by decide +kernel
theorem dX12_covers_27 : decode cX12_covers 27 = .ok (.getfield 46, 3) := by decide +kernel
theorem dX12_covers_30 : decode cX12_covers 30 = .ok (.iload 4, 2) := by decide +kernel
theorem dX12_covers_32 : decode cX12_covers 32 = .ok (.iconst 1, 1) := by decide +kernel
theorem dX12_covers_33 : decode cX12_covers 33 = .ok (.iadd, 1) := by decide +kernel
theorem dX12_covers_34 : decode cX12_covers 34 = .ok (.iaload, 1) := by decide +kernel
theorem dX12_covers_35 : decode cX12_covers 35 = .ok (.aload_n 0, 1) := by decide +kernel
theorem dX12_covers_36 : decode cX12_covers 36 = .ok (.getfield 21, 3) := by decide +kernel
theorem dX12_covers_39 : decode cX12_covers 39 = .ok (.iload 5, 2) := by decide +kernel
theorem dX12_covers_41 : decode cX12_covers 41 = .ok (.iconst 1, 1) := by decide +kernel
theorem dX12_covers_42 : decode cX12_covers 42 = .ok (.iadd, 1) := by decide +kernel
theorem dX12_covers_43 : decode cX12_covers 43 = .ok (.iaload, 1) := by decide +kernel
theorem dX12_covers_44 : decode cX12_covers 44 = .ok (.if_icmp .ne 42, 3) := by decide +kernel
theorem dX12_covers_47 : decode cX12_covers 47 = .ok (.aload_n 0, 1) := by decide +kernel
theorem dX12_covers_48 : decode cX12_covers 48 = .ok (.getfield 46, 3) := by decide +kernel
theorem dX12_covers_51 : decode cX12_covers 51 = .ok (.iload 4, 2) := by decide +kernel
theorem dX12_covers_53 : decode cX12_covers 53 = .ok (.iconst 2, 1) := by decide +kernel
theorem dX12_covers_54 : decode cX12_covers 54 = .ok (.iadd, 1) := by decide +kernel
theorem dX12_covers_55 : decode cX12_covers 55 = .ok (.iaload, 1) := by decide +kernel
theorem dX12_covers_56 : decode cX12_covers 56 = .ok (.bipush (-9), 2) := by decide +kernel
theorem dX12_covers_58 : decode cX12_covers 58 = .ok (.if_icmp .eq 24, 3) := by decide +kernel
theorem dX12_covers_61 : decode cX12_covers 61 = .ok (.aload_n 0, 1) := by decide +kernel
theorem dX12_covers_62 : decode cX12_covers 62 = .ok (.getfield 46, 3) := by decide +kernel
theorem dX12_covers_65 : decode cX12_covers 65 = .ok (.iload 4, 2) := by decide +kernel
theorem dX12_covers_67 : decode cX12_covers 67 = .ok (.iconst 2, 1) := by decide +kernel
theorem dX12_covers_68 : decode cX12_covers 68 = .ok (.iadd, 1) := by decide +kernel
theorem dX12_covers_69 : decode cX12_covers 69 = .ok (.iaload, 1) := by decide +kernel
theorem dX12_covers_70 : decode cX12_covers 70 = .ok (.aload_n 0, 1) := by decide +kernel
theorem dX12_covers_71 : decode cX12_covers 71 = .ok (.getfield 21, 3) := by decide +kernel
theorem dX12_covers_74 : decode cX12_covers 74 = .ok (.iload 5, 2) := by decide +kernel
theorem dX12_covers_76 : decode cX12_covers 76 = .ok (.iconst 2, 1) := by decide +kernel
theorem dX12_covers_77 : decode cX12_covers 77 = .ok (.iadd, 1) := by decide +kernel
theorem dX12_covers_78 : decode cX12_covers 78 = .ok (.iaload, 1) := by decide +kernel
theorem dX12_covers_79 : decode cX12_covers 79 = .ok (.if_icmp .ne 7, 3) := by decide +kernel
theorem dX12_covers_82 : decode cX12_covers 82 = .ok (.iconst 1, 1) := by decide +kernel
theorem dX12_covers_83 : decode cX12_covers 83 = .ok (.goto 4, 3) := by decide +kernel
theorem dX12_covers_86 : decode cX12_covers 86 = .ok (.iconst 0, 1) := by decide +kernel
theorem dX12_covers_87 : decode cX12_covers 87 = .ok (.istore 6, 2) := by decide +kernel
theorem dX12_covers_89 : decode cX12_covers 89 = .ok (.iload 6, 2) := by decide +kernel
theorem dX12_covers_91 : decode cX12_covers 91 = .ok (.ifCond .eq 108, 3) := by decide +kernel
theorem dX12_covers_94 : decode cX12_covers 94 = .ok (.iload_n 3, 1) := by decide +kernel
theorem dX12_covers_95 : decode cX12_covers 95 = .ok (.i2l, 1) := by decide +kernel
theorem dX12_covers_96 : decode cX12_covers 96 = .ok (.aload_n 0, 1) := by decide +kernel
theorem dX12_covers_97 : decode cX12_covers 97 = .ok (.getfield 46, 3) := by decide +kernel
theorem dX12_covers_100 : decode cX12_covers 100 = .ok (.iload 4, 2) := by decide +kernel
theorem dX12_covers_102 : decode cX12_covers 102 = .ok (.bipush 7, 2) := by decide +kernel
theorem dX12_covers_104 : decode cX12_covers 104 = .ok (.iadd, 1) := by decide +kernel
theorem dX12_covers_105 : decode cX12_covers 105 = .ok (.iaload, 1) := by decide +kernel
theorem dX12_covers_106 : decode cX12_covers 106 = .ok (.i2l, 1) := by decide +kernel
theorem dX12_covers_107 : decode cX12_covers 107 = .ok (.aload_n 0, 1) := by decide +kernel
theorem dX12_covers_108 : decode cX12_covers 108 = .ok (.getfield 46, 3) := by decide +kernel
theorem dX12_covers_111 : decode cX12_covers 111 = .ok (.iload 4, 2) := by decide +kernel
theorem dX12_covers_113 : decode cX12_covers 113 = .ok (.bipush 8, 2) := by decide +kernel
theorem dX12_covers_115 : decode cX12_covers 115 = .ok (.iadd, 1) := by decide +kernel
theorem dX12_covers_116 : decode cX12_covers 116 = .ok (.iaload, 1) := by decide +kernel
theorem dX12_covers_117 : decode cX12_covers 117 = .ok (.i2l, 1) := by decide +kernel
theorem dX12_covers_118 : decode cX12_covers 118 = .ok (.invokestatic 103, 3) := by decide +kernel
theorem dX12_covers_121 : decode cX12_covers 121 = .ok (.ifCond .eq 78, 3) := by decide +kernel
theorem dX12_covers_124 : decode cX12_covers 124 = .ok (.aload_n 0, 1) := by decide +kernel
theorem dX12_covers_125 : decode cX12_covers 125 = .ok (.getfield 21, 3) := by decide +kernel
theorem dX12_covers_128 : decode cX12_covers 128 = .ok (.iload 5, 2) := by decide +kernel
theorem dX12_covers_130 : decode cX12_covers 130 = .ok (.iaload, 1) := by decide +kernel
theorem dX12_covers_131 : decode cX12_covers 131 = .ok (.i2l, 1) := by decide +kernel
theorem dX12_covers_132 : decode cX12_covers 132 = .ok (.aload_n 0, 1) := by decide +kernel
theorem dX12_covers_133 : decode cX12_covers 133 = .ok (.getfield 46, 3) := by decide +kernel
theorem dX12_covers_136 : decode cX12_covers 136 = .ok (.iload 4, 2) := by decide +kernel
theorem dX12_covers_138 : decode cX12_covers 138 = .ok (.iconst 3, 1) := by decide +kernel
theorem dX12_covers_139 : decode cX12_covers 139 = .ok (.iadd, 1) := by decide +kernel
theorem dX12_covers_140 : decode cX12_covers 140 = .ok (.iaload, 1) := by decide +kernel
theorem dX12_covers_141 : decode cX12_covers 141 = .ok (.i2l, 1) := by decide +kernel
theorem dX12_covers_142 : decode cX12_covers 142 = .ok (.aload_n 0, 1) := by decide +kernel
theorem dX12_covers_143 : decode cX12_covers 143 = .ok (.getfield 46, 3) := by decide +kernel
theorem dX12_covers_146 : decode cX12_covers 146 = .ok (.iload 4, 2) := by decide +kernel
theorem dX12_covers_148 : decode cX12_covers 148 = .ok (.iconst 4, 1) := by decide +kernel
theorem dX12_covers_149 : decode cX12_covers 149 = .ok (.iadd, 1) := by decide +kernel
theorem dX12_covers_150 : decode cX12_covers 150 = .ok (.iaload, 1) := by decide +kernel
theorem dX12_covers_151 : decode cX12_covers 151 = .ok (.i2l, 1) := by decide +kernel
theorem dX12_covers_152 : decode cX12_covers 152 = .ok (.invokestatic 103, 3) := by decide +kernel
theorem dX12_covers_155 : decode cX12_covers 155 = .ok (.ifCond .eq 44, 3) := by decide +kernel
theorem dX12_covers_158 : decode cX12_covers 158 = .ok (.aload_n 0, 1) := by decide +kernel
theorem dX12_covers_159 : decode cX12_covers 159 = .ok (.getfield 21, 3) := by decide +kernel
theorem dX12_covers_162 : decode cX12_covers 162 = .ok (.iload 5, 2) := by decide +kernel
theorem dX12_covers_164 : decode cX12_covers 164 = .ok (.iconst 3, 1) := by decide +kernel
theorem dX12_covers_165 : decode cX12_covers 165 = .ok (.iadd, 1) := by decide +kernel
theorem dX12_covers_166 : decode cX12_covers 166 = .ok (.iaload, 1) := by decide +kernel
theorem dX12_covers_167 : decode cX12_covers 167 = .ok (.i2l, 1) := by decide +kernel
theorem dX12_covers_168 : decode cX12_covers 168 = .ok (.aload_n 0, 1) := by decide +kernel
theorem dX12_covers_169 : decode cX12_covers 169 = .ok (.getfield 46, 3) := by decide +kernel
theorem dX12_covers_172 : decode cX12_covers 172 = .ok (.iload 4, 2) := by decide +kernel
theorem dX12_covers_174 : decode cX12_covers 174 = .ok (.iconst 5, 1) := by decide +kernel
theorem dX12_covers_175 : decode cX12_covers 175 = .ok (.iadd, 1) := by decide +kernel
theorem dX12_covers_176 : decode cX12_covers 176 = .ok (.iaload, 1) := by decide +kernel
theorem dX12_covers_177 : decode cX12_covers 177 = .ok (.i2l, 1) := by decide +kernel
theorem dX12_covers_178 : decode cX12_covers 178 = .ok (.aload_n 0, 1) := by decide +kernel
theorem dX12_covers_179 : decode cX12_covers 179 = .ok (.getfield 46, 3) := by decide +kernel
theorem dX12_covers_182 : decode cX12_covers 182 = .ok (.iload 4, 2) := by decide +kernel
theorem dX12_covers_184 : decode cX12_covers 184 = .ok (.bipush 6, 2) := by decide +kernel
theorem dX12_covers_186 : decode cX12_covers 186 = .ok (.iadd, 1) := by decide +kernel
theorem dX12_covers_187 : decode cX12_covers 187 = .ok (.iaload, 1) := by decide +kernel
theorem dX12_covers_188 : decode cX12_covers 188 = .ok (.i2l, 1) := by decide +kernel
theorem dX12_covers_189 : decode cX12_covers 189 = .ok (.invokestatic 103, 3) := by decide +kernel
theorem dX12_covers_192 : decode cX12_covers 192 = .ok (.ifCond .eq 7, 3) := by decide +kernel
theorem dX12_covers_195 : decode cX12_covers 195 = .ok (.iconst 1, 1) := by decide +kernel
theorem dX12_covers_196 : decode cX12_covers 196 = .ok (.goto 4, 3) := by decide +kernel
theorem dX12_covers_199 : decode cX12_covers 199 = .ok (.iconst 0, 1) := by decide +kernel
theorem dX12_covers_200 : decode cX12_covers 200 = .ok (.istore 7, 2) := by decide +kernel
theorem dX12_covers_202 : decode cX12_covers 202 = .ok (.aload_n 0, 1) := by decide +kernel
theorem dX12_covers_203 : decode cX12_covers 203 = .ok (.getfield 46, 3) := by decide +kernel
theorem dX12_covers_206 : decode cX12_covers 206 = .ok (.iload 4, 2) := by decide +kernel
theorem dX12_covers_208 : decode cX12_covers 208 = .ok (.iconst 1, 1) := by decide +kernel
theorem dX12_covers_209 : decode cX12_covers 209 = .ok (.iadd, 1) := by decide +kernel
theorem dX12_covers_210 : decode cX12_covers 210 = .ok (.iaload, 1) := by decide +kernel
theorem dX12_covers_211 : decode cX12_covers 211 = .ok (.bipush (-9), 2) := by decide +kernel
theorem dX12_covers_213 : decode cX12_covers 213 = .ok (.if_icmp .eq 68, 3) := by decide +kernel
theorem dX12_covers_216 : decode cX12_covers 216 = .ok (.aload_n 0, 1) := by decide +kernel
theorem dX12_covers_217 : decode cX12_covers 217 = .ok (.getfield 46, 3) := by decide +kernel
theorem dX12_covers_220 : decode cX12_covers 220 = .ok (.iload 4, 2) := by decide +kernel
theorem dX12_covers_222 : decode cX12_covers 222 = .ok (.iconst 2, 1) := by decide +kernel
theorem dX12_covers_223 : decode cX12_covers 223 = .ok (.iadd, 1) := by decide +kernel
theorem dX12_covers_224 : decode cX12_covers 224 = .ok (.iaload, 1) := by decide +kernel
theorem dX12_covers_225 : decode cX12_covers 225 = .ok (.bipush (-9), 2) := by decide +kernel
theorem dX12_covers_227 : decode cX12_covers 227 = .ok (.if_icmp .eq 54, 3) := by decide +kernel
theorem dX12_covers_230 : decode cX12_covers 230 = .ok (.aload_n 0, 1) := by decide +kernel
theorem dX12_covers_231 : decode cX12_covers 231 = .ok (.getfield 46, 3) := by decide +kernel
theorem dX12_covers_234 : decode cX12_covers 234 = .ok (.iload 4, 2) := by decide +kernel
theorem dX12_covers_236 : decode cX12_covers 236 = .ok (.iconst 4, 1) := by decide +kernel
theorem dX12_covers_237 : decode cX12_covers 237 = .ok (.iadd, 1) := by decide +kernel
theorem dX12_covers_238 : decode cX12_covers 238 = .ok (.iaload, 1) := by decide +kernel
theorem dX12_covers_239 : decode cX12_covers 239 = .ok (.aload_n 0, 1) := by decide +kernel
theorem dX12_covers_240 : decode cX12_covers 240 = .ok (.getfield 46, 3) := by decide +kernel
theorem dX12_covers_243 : decode cX12_covers 243 = .ok (.iload 4, 2) := by decide +kernel
theorem dX12_covers_245 : decode cX12_covers 245 = .ok (.iconst 3, 1) := by decide +kernel
theorem dX12_covers_246 : decode cX12_covers 246 = .ok (.iadd, 1) := by decide +kernel
theorem dX12_covers_247 : decode cX12_covers 247 = .ok (.iaload, 1) := by decide +kernel
theorem dX12_covers_248 : decode cX12_covers 248 = .ok (.isub, 1) := by decide +kernel
theorem dX12_covers_249 : decode cX12_covers 249 = .ok (.iconst 5, 1) := by decide +kernel
theorem dX12_covers_250 : decode cX12_covers 250 = .ok (.if_icmp .gt 31, 3) := by decide +kernel
theorem dX12_covers_253 : decode cX12_covers 253 = .ok (.aload_n 0, 1) := by decide +kernel
theorem dX12_covers_254 : decode cX12_covers 254 = .ok (.getfield 46, 3) := by decide +kernel
theorem dX12_covers_257 : decode cX12_covers 257 = .ok (.iload 4, 2) := by decide +kernel
theorem dX12_covers_259 : decode cX12_covers 259 = .ok (.bipush 6, 2) := by decide +kernel
theorem dX12_covers_261 : decode cX12_covers 261 = .ok (.iadd, 1) := by decide +kernel
theorem dX12_covers_262 : decode cX12_covers 262 = .ok (.iaload, 1) := by decide +kernel
theorem dX12_covers_263 : decode cX12_covers 263 = .ok (.aload_n 0, 1) := by decide +kernel
theorem dX12_covers_264 : decode cX12_covers 264 = .ok (.getfield 46, 3) := by decide +kernel
theorem dX12_covers_267 : decode cX12_covers 267 = .ok (.iload 4, 2) := by decide +kernel
theorem dX12_covers_269 : decode cX12_covers 269 = .ok (.iconst 5, 1) := by decide +kernel
theorem dX12_covers_270 : decode cX12_covers 270 = .ok (.iadd, 1) := by decide +kernel
theorem dX12_covers_271 : decode cX12_covers 271 = .ok (.iaload, 1) := by decide +kernel
theorem dX12_covers_272 : decode cX12_covers 272 = .ok (.isub, 1) := by decide +kernel
theorem dX12_covers_273 : decode cX12_covers 273 = .ok (.iconst 2, 1) := by decide +kernel
theorem dX12_covers_274 : decode cX12_covers 274 = .ok (.if_icmp .gt 7, 3) := by decide +kernel
theorem dX12_covers_277 : decode cX12_covers 277 = .ok (.iconst 1, 1) := by decide +kernel
theorem dX12_covers_278 : decode cX12_covers 278 = .ok (.goto 4, 3) := by decide +kernel
theorem dX12_covers_281 : decode cX12_covers 281 = .ok (.iconst 0, 1) := by decide +kernel
theorem dX12_covers_282 : decode cX12_covers 282 = .ok (.istore 8, 2) := by decide +kernel
theorem dX12_covers_284 : decode cX12_covers 284 = .ok (.iload 7, 2) := by decide +kernel
theorem dX12_covers_286 : decode cX12_covers 286 = .ok (.ifCond .ne 7, 3) := by decide +kernel
theorem dX12_covers_289 : decode cX12_covers 289 = .ok (.iconst 0, 1) := by decide +kernel
theorem dX12_covers_290 : decode cX12_covers 290 = .ok (.goto 13, 3) := by decide +kernel
theorem dX12_covers_293 : decode cX12_covers 293 = .ok (.iload 8, 2) := by decide +kernel
theorem dX12_covers_295 : decode cX12_covers 295 = .ok (.ifCond .eq 7, 3) := by decide +kernel
theorem dX12_covers_298 : decode cX12_covers 298 = .ok (.iconst 2, 1) := by decide +kernel
theorem dX12_covers_299 : decode cX12_covers 299 = .ok (.goto 4, 3) := by decide +kernel
theorem dX12_covers_302 : decode cX12_covers 302 = .ok (.iconst 1, 1) := by decide +kernel
theorem dX12_covers_303 : decode cX12_covers 303 = .ok (.ireturn, 1) := by decide +kernel
theorem dX12_cover_0 : decode cX12_cover 0 = .ok (.aload_n 0, 1) := by decide +kernel
theorem dX12_cover_1 : decode cX12_cover 1 = .ok (.iconst 0, 1) := by decide +kernel
theorem dX12_cover_2 : decode cX12_cover 2 = .ok (.putfield 100, 3) := by decide +kernel
theorem dX12_cover_5 : decode cX12_cover 5 = .ok (.aload_n 0, 1) := by decide +kernel
theorem dX12_cover_6 : decode cX12_cover 6 = .ok (.iload_n 1, 1) := by decide +kernel
theorem dX12_cover_7 : decode cX12_cover 7 = .ok (.invokevirtual 191, 3) := by decide +kernel
theorem dX12_cover_10 : decode cX12_cover 10 = .ok (.ifCond .ne 11, 3) := by decide +kernel
theorem dX12_cover_13 : decode cX12_cover 13 = .ok (.aload_n 0, 1) := by decide +kernel
theorem dX12_cover_14 : decode cX12_cover 14 = .ok (.iload_n 2, 1) := by decide +kernel
theorem dX12_cover_15 : decode cX12_cover 15 = .ok (.invokevirtual 144, 3) := by decide +kernel
theorem dX12_cover_18 : decode cX12_cover 18 = .ok (.ifCond .eq 5, 3) := by decide +kernel
theorem dX12_cover_21 : decode cX12_cover 21 = .ok (.iconst (-1), 1) := by decide +kernel
theorem dX12_cover_22 : decode cX12_cover 22 = .ok (.ireturn, 1) := by decide +kernel
theorem dX12_cover_23 : decode cX12_cover 23 = .ok (.iload_n 3, 1) := by decide +kernel
theorem dX12_cover_24 : decode cX12_cover 24 = .ok (.invokestatic 194, 3) := by decide +kernel
theorem dX12_cover_27 : decode cX12_cover 27 = .ok (.ifCond .eq 8, 3) := by decide +kernel
theorem dX12_cover_30 : decode cX12_cover 30 = .ok (.bipush (-2), 2) := by decide +kernel
theorem dX12_cover_32 : decode cX12_cover 32 = .ok (.goto 10, 3) := by decide +kernel
theorem dX12_cover_35 : decode cX12_cover 35 = .ok (.aload_n 0, 1) := by decide +kernel
theorem dX12_cover_36 : decode cX12_cover 36 = .ok (.iload_n 1, 1) := by decide +kernel
theorem dX12_cover_37 : decode cX12_cover 37 = .ok (.iload_n 2, 1) := by decide +kernel
theorem dX12_cover_38 : decode cX12_cover 38 = .ok (.iload_n 3, 1) := by decide +kernel
theorem dX12_cover_39 : decode cX12_cover 39 = .ok (.invokevirtual 197, 3) := by decide +kernel
theorem dX12_cover_42 : decode cX12_cover 42 = .ok (.ireturn, 1) := by decide +kernel
theorem dX12_same_0 : decode cX12_same 0 = .ok (.aload_n 0, 1) := by decide +kernel
theorem dX12_same_1 : decode cX12_same 1 = .ok (.iconst 0, 1) := by decide +kernel
theorem dX12_same_2 : decode cX12_same 2 = .ok (.putfield 100, 3) := by decide +kernel
theorem dX12_same_5 : decode cX12_same 5 = .ok (.aload_n 0, 1) := by decide +kernel
theorem dX12_same_6 : decode cX12_same 6 = .ok (.iload_n 1, 1) := by decide +kernel
theorem dX12_same_7 : decode cX12_same 7 = .ok (.invokevirtual 191, 3) := by decide +kernel
theorem dX12_same_10 : decode cX12_same 10 = .ok (.ifCond .eq 5, 3) := by decide +kernel
theorem dX12_same_13 : decode cX12_same 13 = .ok (.iconst (-1), 1) := by decide +kernel
theorem dX12_same_14 : decode cX12_same 14 = .ok (.ireturn, 1) := by decide +kernel
theorem dX12_same_15 : decode cX12_same 15 = .ok (.iload_n 2, 1) := by decide +kernel
theorem dX12_same_16 : decode cX12_same 16 = .ok (.invokestatic 194, 3) := by decide +kernel
theorem dX12_same_19 : decode cX12_same 19 = .ok (.ifCond .eq 6, 3) := by decide +kernel
theorem dX12_same_22 : decode cX12_same 22 = .ok (.bipush (-2), 2) := by decide +kernel
theorem dX12_same_24 : decode cX12_same 24 = .ok (.ireturn, 1) := by decide +kernel
theorem dX12_same_25 : decode cX12_same 25 = .ok (.iconst 0, 1) := by decide +kernel
theorem dX12_same_26 : decode cX12_same 26 = .ok (.istore_n 3, 1) := by decide +kernel
theorem dX12_same_27 : decode cX12_same 27 = .ok (.iconst 0, 1) := by decide +kernel
theorem dX12_same_28 : decode cX12_same 28 = .ok (.istore 4, 2) := by decide +kernel
theorem dX12_same_30 : decode cX12_same 30 = .ok (.iload 4, 2) := by decide +kernel
theorem dX12_same_32 : decode cX12_same 32 = .ok (.aload_n 0, 1) := by decide +kernel
theorem dX12_same_33 : decode cX12_same 33 = .ok (.getfield 107, 3) := by decide +kernel
theorem dX12_same_36 : decode cX12_same 36 = .ok (.if_icmp .ge 28, 3) := by decide +kernel
theorem dX12_same_39 : decode cX12_same 39 = .ok (.iload_n 3, 1) := by decide +kernel
theorem dX12_same_40 : decode cX12_same 40 = .ok (.aload_n 0, 1) := by decide +kernel
theorem dX12_same_41 : decode cX12_same 41 = .ok (.iload_n 1, 1) := by decide +kernel
theorem dX12_same_42 : decode cX12_same 42 = .ok (.iload 4, 2) := by decide +kernel
theorem dX12_same_44 : decode cX12_same 44 = .ok (.iload_n 2, 1) := by decide +kernel
theorem dX12_same_45 : decode cX12_same 45 = .ok (.invokevirtual 197, 3) := by decide +kernel
theorem dX12_same_48 : decode cX12_same 48 = .ok (.ifCond .le 7, 3) := by decide +kernel
theorem dX12_same_51 : decode cX12_same 51 = .ok (.iconst 1, 1) := by decide +kernel
theorem dX12_same_52 : decode cX12_same 52 = .ok (.goto 4, 3) := by decide +kernel
theorem dX12_same_55 : decode cX12_same 55 = .ok (.iconst 0, 1) := by decide +kernel
theorem dX12_same_56 : decode cX12_same 56 = .ok (.iadd, 1) := by decide +kernel
theorem dX12_same_57 : decode cX12_same 57 = .ok (.istore_n 3, 1) := by decide +kernel
theorem dX12_same_58 : decode cX12_same 58 = .ok (.iinc 4 1, 3) := by decide +kernel
theorem dX12_same_61 : decode cX12_same 61 = .ok (.goto (-31), 3) := by decide +kernel
theorem dX12_same_64 : decode cX12_same 64 = .ok (.iload_n 3, 1) := by decide +kernel
theorem dX12_same_65 : decode cX12_same 65 = .ok (.ireturn, 1) := by decide +kernel
theorem dX12_shown_0 : decode cX12_shown 0 = .ok (.aload_n 0, 1) := by decide +kernel
theorem dX12_shown_1 : decode cX12_shown 1 = .ok (.iconst 0, 1) := by decide +kernel
theorem dX12_shown_2 : decode cX12_shown 2 = .ok (.putfield 100, 3) := by decide +kernel
theorem dX12_shown_5 : decode cX12_shown 5 = .ok (.aload_n 0, 1) := by decide +kernel
theorem dX12_shown_6 : decode cX12_shown 6 = .ok (.iload_n 1, 1) := by decide +kernel
theorem dX12_shown_7 : decode cX12_shown 7 = .ok (.invokevirtual 191, 3) := by decide +kernel
theorem dX12_shown_10 : decode cX12_shown 10 = .ok (.ifCond .eq 5, 3) := by decide +kernel
theorem dX12_shown_13 : decode cX12_shown 13 = .ok (.iconst (-1), 1) := by decide +kernel
theorem dX12_shown_14 : decode cX12_shown 14 = .ok (.ireturn, 1) := by decide +kernel
theorem dX12_shown_15 : decode cX12_shown 15 = .ok (.iload_n 2, 1) := by decide +kernel
theorem dX12_shown_16 : decode cX12_shown 16 = .ok (.invokestatic 194, 3) := by decide +kernel
theorem dX12_shown_19 : decode cX12_shown 19 = .ok (.ifCond .eq 6, 3) := by decide +kernel
theorem dX12_shown_22 : decode cX12_shown 22 = .ok (.bipush (-2), 2) := by decide +kernel
theorem dX12_shown_24 : decode cX12_shown 24 = .ok (.ireturn, 1) := by decide +kernel
theorem dX12_shown_25 : decode cX12_shown 25 = .ok (.iconst 0, 1) := by decide +kernel
theorem dX12_shown_26 : decode cX12_shown 26 = .ok (.istore_n 3, 1) := by decide +kernel
theorem dX12_shown_27 : decode cX12_shown 27 = .ok (.iconst 0, 1) := by decide +kernel
theorem dX12_shown_28 : decode cX12_shown 28 = .ok (.istore 4, 2) := by decide +kernel
theorem dX12_shown_30 : decode cX12_shown 30 = .ok (.iload 4, 2) := by decide +kernel
theorem dX12_shown_32 : decode cX12_shown 32 = .ok (.aload_n 0, 1) := by decide +kernel
theorem dX12_shown_33 : decode cX12_shown 33 = .ok (.getfield 107, 3) := by decide +kernel
theorem dX12_shown_36 : decode cX12_shown 36 = .ok (.if_icmp .ge 112, 3) := by decide +kernel
theorem dX12_shown_39 : decode cX12_shown 39 = .ok (.iconst 0, 1) := by decide +kernel
theorem dX12_shown_40 : decode cX12_shown 40 = .ok (.istore 5, 2) := by decide +kernel
theorem dX12_shown_42 : decode cX12_shown 42 = .ok (.iconst 0, 1) := by decide +kernel
theorem dX12_shown_43 : decode cX12_shown 43 = .ok (.istore 6, 2) := by decide +kernel
theorem dX12_shown_45 : decode cX12_shown 45 = .ok (.iload 6, 2) := by decide +kernel
theorem dX12_shown_47 : decode cX12_shown 47 = .ok (.aload_n 0, 1) := by decide +kernel
theorem dX12_shown_48 : decode cX12_shown 48 = .ok (.getfield 168, 3) := by decide +kernel
theorem dX12_shown_51 : decode cX12_shown 51 = .ok (.if_icmp .ge 78, 3) := by decide +kernel
theorem dX12_shown_54 : decode cX12_shown 54 = .ok (.iload 5, 2) := by decide +kernel
theorem dX12_shown_56 : decode cX12_shown 56 = .ok (.ifCond .ne 60, 3) := by decide +kernel
theorem dX12_shown_59 : decode cX12_shown 59 = .ok (.aload_n 0, 1) := by decide +kernel
theorem dX12_shown_60 : decode cX12_shown 60 = .ok (.getfield 61, 3) := by decide +kernel
theorem dX12_shown_63 : decode cX12_shown 63 = .ok (.bipush 6, 2) := by decide +kernel
theorem dX12_shown_65 : decode cX12_shown 65 = .ok (.iload 6, 2) := by decide +kernel
theorem dX12_shown_67 : decode cX12_shown 67 = .ok (.imul, 1) := by decide +kernel
theorem dX12_shown_68 : decode cX12_shown 68 = .ok (.iconst 1, 1) := by decide +kernel
theorem dX12_shown_69 : decode cX12_shown 69 = .ok (.iadd, 1) := by decide +kernel
theorem dX12_shown_70 : decode cX12_shown 70 = .ok (.iaload, 1) := by decide +kernel
theorem dX12_shown_71 : decode cX12_shown 71 = .ok (.iload 4, 2) := by decide +kernel
theorem dX12_shown_73 : decode cX12_shown 73 = .ok (.if_icmp .ne 47, 3) := by decide +kernel
theorem dX12_shown_76 : decode cX12_shown 76 = .ok (.aload_n 0, 1) := by decide +kernel
theorem dX12_shown_77 : decode cX12_shown 77 = .ok (.getfield 61, 3) := by decide +kernel
theorem dX12_shown_80 : decode cX12_shown 80 = .ok (.bipush 6, 2) := by decide +kernel
theorem dX12_shown_82 : decode cX12_shown 82 = .ok (.iload 6, 2) := by decide +kernel
theorem dX12_shown_84 : decode cX12_shown 84 = .ok (.imul, 1) := by decide +kernel
theorem dX12_shown_85 : decode cX12_shown 85 = .ok (.iconst 2, 1) := by decide +kernel
theorem dX12_shown_86 : decode cX12_shown 86 = .ok (.iadd, 1) := by decide +kernel
theorem dX12_shown_87 : decode cX12_shown 87 = .ok (.iaload, 1) := by decide +kernel
theorem dX12_shown_88 : decode cX12_shown 88 = .ok (.iload_n 1, 1) := by decide +kernel
theorem dX12_shown_89 : decode cX12_shown 89 = .ok (.if_icmp .ne 31, 3) := by decide +kernel
theorem dX12_shown_92 : decode cX12_shown 92 = .ok (.aload_n 0, 1) := by decide +kernel
theorem dX12_shown_93 : decode cX12_shown 93 = .ok (.getfield 61, 3) := by decide +kernel
theorem dX12_shown_96 : decode cX12_shown 96 = .ok (.bipush 6, 2) := by decide +kernel
theorem dX12_shown_98 : decode cX12_shown 98 = .ok (.iload 6, 2) := by decide +kernel
theorem dX12_shown_100 : decode cX12_shown 100 = .ok (.imul, 1) := by decide +kernel
theorem dX12_shown_101 : decode cX12_shown 101 = .ok (.iaload, 1) := by decide +kernel
theorem dX12_shown_102 : decode cX12_shown 102 = .ok (.i2l, 1) := by decide +kernel
theorem dX12_shown_103 : decode cX12_shown 103 = .ok (.iload_n 2, 1) := by decide +kernel
theorem dX12_shown_104 : decode cX12_shown 104 = .ok (.bipush 13, 2) := by decide +kernel
theorem dX12_shown_106 : decode cX12_shown 106 = .ok (.isub, 1) := by decide +kernel
theorem dX12_shown_107 : decode cX12_shown 107 = .ok (.i2l, 1) := by decide +kernel
theorem dX12_shown_108 : decode cX12_shown 108 = .ok (.iload_n 2, 1) := by decide +kernel
theorem dX12_shown_109 : decode cX12_shown 109 = .ok (.i2l, 1) := by decide +kernel
theorem dX12_shown_110 : decode cX12_shown 110 = .ok (.invokestatic 103, 3) := by decide +kernel
theorem dX12_shown_113 : decode cX12_shown 113 = .ok (.ifCond .eq 7, 3) := by decide +kernel
theorem dX12_shown_116 : decode cX12_shown 116 = .ok (.iconst 1, 1) := by decide +kernel
theorem dX12_shown_117 : decode cX12_shown 117 = .ok (.goto 4, 3) := by decide +kernel
theorem dX12_shown_120 : decode cX12_shown 120 = .ok (.iconst 0, 1) := by decide +kernel
theorem dX12_shown_121 : decode cX12_shown 121 = .ok (.istore 5, 2) := by decide +kernel
theorem dX12_shown_123 : decode cX12_shown 123 = .ok (.iinc 6 1, 3) := by decide +kernel
theorem dX12_shown_126 : decode cX12_shown 126 = .ok (.goto (-81), 3) := by decide +kernel
theorem dX12_shown_129 : decode cX12_shown 129 = .ok (.iload_n 3, 1) := by decide +kernel
theorem dX12_shown_130 : decode cX12_shown 130 = .ok (.iload 5, 2) := by decide +kernel
theorem dX12_shown_132 : decode cX12_shown 132 = .ok (.ifCond .eq 7, 3) := by decide +kernel
theorem dX12_shown_135 : decode cX12_shown 135 = .ok (.iconst 1, 1) := by decide +kernel
theorem dX12_shown_136 : decode cX12_shown 136 = .ok (.goto 4, 3) := by decide +kernel
theorem dX12_shown_139 : decode cX12_shown 139 = .ok (.iconst 0, 1) := by decide +kernel
theorem dX12_shown_140 : decode cX12_shown 140 = .ok (.iadd, 1) := by decide +kernel
theorem dX12_shown_141 : decode cX12_shown 141 = .ok (.istore_n 3, 1) := by decide +kernel
theorem dX12_shown_142 : decode cX12_shown 142 = .ok (.iinc 4 1, 3) := by decide +kernel
theorem dX12_shown_145 : decode cX12_shown 145 = .ok (.goto (-115), 3) := by decide +kernel
theorem dX12_shown_148 : decode cX12_shown 148 = .ok (.iload_n 3, 1) := by decide +kernel
theorem dX12_shown_149 : decode cX12_shown 149 = .ok (.ireturn, 1) := by decide +kernel
theorem dX12_act_0 : decode cX12_act 0 = .ok (.aload_n 0, 1) := by decide +kernel
theorem dX12_act_1 : decode cX12_act 1 = .ok (.iconst 0, 1) := by decide +kernel
theorem dX12_act_2 : decode cX12_act 2 = .ok (.putfield 100, 3) := by decide +kernel
theorem dX12_act_5 : decode cX12_act 5 = .ok (.iload_n 1, 1) := by decide +kernel
theorem dX12_act_6 : decode cX12_act 6 = .ok (.invokestatic 194, 3) := by decide +kernel
theorem dX12_act_9 : decode cX12_act 9 = .ok (.ifCond .eq 6, 3) := by decide +kernel
theorem dX12_act_12 : decode cX12_act 12 = .ok (.bipush (-2), 2) := by decide +kernel
theorem dX12_act_14 : decode cX12_act 14 = .ok (.ireturn, 1) := by decide +kernel
theorem dX12_act_15 : decode cX12_act 15 = .ok (.aload_n 0, 1) := by decide +kernel
theorem dX12_act_16 : decode cX12_act 16 = .ok (.getfield 201, 3) := by decide +kernel
theorem dX12_act_19 : decode cX12_act 19 = .ok (.bipush 8, 2) := by decide +kernel
theorem dX12_act_21 : decode cX12_act 21 = .ok (.if_icmp .ne 6, 3) := by decide +kernel
theorem dX12_act_24 : decode cX12_act 24 = .ok (.bipush (-4), 2) := by decide +kernel
theorem dX12_act_26 : decode cX12_act 26 = .ok (.ireturn, 1) := by decide +kernel
theorem dX12_act_27 : decode cX12_act 27 = .ok (.aload_n 0, 1) := by decide +kernel
theorem dX12_act_28 : decode cX12_act 28 = .ok (.getfield 49, 3) := by decide +kernel
theorem dX12_act_31 : decode cX12_act 31 = .ok (.aload_n 0, 1) := by decide +kernel
theorem dX12_act_32 : decode cX12_act 32 = .ok (.getfield 201, 3) := by decide +kernel
theorem dX12_act_35 : decode cX12_act 35 = .ok (.iload_n 1, 1) := by decide +kernel
theorem dX12_act_36 : decode cX12_act 36 = .ok (.iastore, 1) := by decide +kernel
theorem dX12_act_37 : decode cX12_act 37 = .ok (.aload_n 0, 1) := by decide +kernel
theorem dX12_act_38 : decode cX12_act 38 = .ok (.dup, 1) := by decide +kernel
theorem dX12_act_39 : decode cX12_act 39 = .ok (.getfield 201, 3) := by decide +kernel
theorem dX12_act_42 : decode cX12_act 42 = .ok (.iconst 1, 1) := by decide +kernel
theorem dX12_act_43 : decode cX12_act 43 = .ok (.iadd, 1) := by decide +kernel
theorem dX12_act_44 : decode cX12_act 44 = .ok (.putfield 201, 3) := by decide +kernel
theorem dX12_act_47 : decode cX12_act 47 = .ok (.aload_n 0, 1) := by decide +kernel
theorem dX12_act_48 : decode cX12_act 48 = .ok (.getfield 201, 3) := by decide +kernel
theorem dX12_act_51 : decode cX12_act 51 = .ok (.iconst 1, 1) := by decide +kernel
theorem dX12_act_52 : decode cX12_act 52 = .ok (.isub, 1) := by decide +kernel
theorem dX12_act_53 : decode cX12_act 53 = .ok (.ireturn, 1) := by decide +kernel
theorem dX12_sign_0 : decode cX12_sign 0 = .ok (.aload_n 0, 1) := by decide +kernel
theorem dX12_sign_1 : decode cX12_sign 1 = .ok (.iconst 0, 1) := by decide +kernel
theorem dX12_sign_2 : decode cX12_sign 2 = .ok (.putfield 100, 3) := by decide +kernel
theorem dX12_sign_5 : decode cX12_sign 5 = .ok (.iload_n 1, 1) := by decide +kernel
theorem dX12_sign_6 : decode cX12_sign 6 = .ok (.i2l, 1) := by decide +kernel
theorem dX12_sign_7 : decode cX12_sign 7 = .ok (.lconst 0, 1) := by decide +kernel
theorem dX12_sign_8 : decode cX12_sign 8 = .ok (.aload_n 0, 1) := by decide +kernel
theorem dX12_sign_9 : decode cX12_sign 9 = .ok (.getfield 201, 3) := by decide +kernel
theorem dX12_sign_12 : decode cX12_sign 12 = .ok (.iconst 1, 1) := by decide +kernel
theorem dX12_sign_13 : decode cX12_sign 13 = .ok (.isub, 1) := by decide +kernel
theorem dX12_sign_14 : decode cX12_sign 14 = .ok (.i2l, 1) := by decide +kernel
theorem dX12_sign_15 : decode cX12_sign 15 = .ok (.invokestatic 103, 3) := by decide +kernel
theorem dX12_sign_18 : decode cX12_sign 18 = .ok (.ifCond .ne 5, 3) := by decide +kernel
theorem dX12_sign_21 : decode cX12_sign 21 = .ok (.iconst (-1), 1) := by decide +kernel
theorem dX12_sign_22 : decode cX12_sign 22 = .ok (.ireturn, 1) := by decide +kernel
theorem dX12_sign_23 : decode cX12_sign 23 = .ok (.iload_n 2, 1) := by decide +kernel
theorem dX12_sign_24 : decode cX12_sign 24 = .ok (.i2l, 1) := by decide +kernel
theorem dX12_sign_25 : decode cX12_sign 25 = .ok (.ldc2_w 204, 3) := by decide +kernel
theorem dX12_sign_28 : decode cX12_sign 28 = .ok (.ldc2_w 206, 3) := by decide +kernel
theorem dX12_sign_31 : decode cX12_sign 31 = .ok (.invokestatic 103, 3) := by decide +kernel
theorem dX12_sign_34 : decode cX12_sign 34 = .ok (.ifCond .ne 6, 3) := by decide +kernel
theorem dX12_sign_37 : decode cX12_sign 37 = .ok (.bipush (-2), 2) := by decide +kernel
theorem dX12_sign_39 : decode cX12_sign 39 = .ok (.ireturn, 1) := by decide +kernel
theorem dX12_sign_40 : decode cX12_sign 40 = .ok (.aload_n 0, 1) := by decide +kernel
theorem dX12_sign_41 : decode cX12_sign 41 = .ok (.getfield 52, 3) := by decide +kernel
theorem dX12_sign_44 : decode cX12_sign 44 = .ok (.iload_n 1, 1) := by decide +kernel
theorem dX12_sign_45 : decode cX12_sign 45 = .ok (.iaload, 1) := by decide +kernel
theorem dX12_sign_46 : decode cX12_sign 46 = .ok (.bipush 60, 2) := by decide +kernel
theorem dX12_sign_48 : decode cX12_sign 48 = .ok (.if_icmp .ne 6, 3) := by decide +kernel
theorem dX12_sign_51 : decode cX12_sign 51 = .ok (.bipush (-4), 2) := by decide +kernel
theorem dX12_sign_53 : decode cX12_sign 53 = .ok (.ireturn, 1) := by decide +kernel
theorem dX12_sign_54 : decode cX12_sign 54 = .ok (.aload_n 0, 1) := by decide +kernel
theorem dX12_sign_55 : decode cX12_sign 55 = .ok (.getfield 55, 3) := by decide +kernel
theorem dX12_sign_58 : decode cX12_sign 58 = .ok (.bipush 60, 2) := by decide +kernel
theorem dX12_sign_60 : decode cX12_sign 60 = .ok (.iload_n 1, 1) := by decide +kernel
theorem dX12_sign_61 : decode cX12_sign 61 = .ok (.imul, 1) := by decide +kernel
theorem dX12_sign_62 : decode cX12_sign 62 = .ok (.aload_n 0, 1) := by decide +kernel
theorem dX12_sign_63 : decode cX12_sign 63 = .ok (.getfield 52, 3) := by decide +kernel
theorem dX12_sign_66 : decode cX12_sign 66 = .ok (.iload_n 1, 1) := by decide +kernel
theorem dX12_sign_67 : decode cX12_sign 67 = .ok (.iaload, 1) := by decide +kernel
theorem dX12_sign_68 : decode cX12_sign 68 = .ok (.iadd, 1) := by decide +kernel
theorem dX12_sign_69 : decode cX12_sign 69 = .ok (.iload_n 2, 1) := by decide +kernel
theorem dX12_sign_70 : decode cX12_sign 70 = .ok (.iastore, 1) := by decide +kernel
theorem dX12_sign_71 : decode cX12_sign 71 = .ok (.aload_n 0, 1) := by decide +kernel
theorem dX12_sign_72 : decode cX12_sign 72 = .ok (.getfield 52, 3) := by decide +kernel
theorem dX12_sign_75 : decode cX12_sign 75 = .ok (.iload_n 1, 1) := by decide +kernel
theorem dX12_sign_76 : decode cX12_sign 76 = .ok (.dup2, 1) := by decide +kernel
theorem dX12_sign_77 : decode cX12_sign 77 = .ok (.iaload, 1) := by decide +kernel
theorem dX12_sign_78 : decode cX12_sign 78 = .ok (.iconst 1, 1) := by decide +kernel
theorem dX12_sign_79 : decode cX12_sign 79 = .ok (.iadd, 1) := by decide +kernel
theorem dX12_sign_80 : decode cX12_sign 80 = .ok (.iastore, 1) := by decide +kernel
theorem dX12_sign_81 : decode cX12_sign 81 = .ok (.aload_n 0, 1) := by decide +kernel
theorem dX12_sign_82 : decode cX12_sign 82 = .ok (.getfield 52, 3) := by decide +kernel
theorem dX12_sign_85 : decode cX12_sign 85 = .ok (.iload_n 1, 1) := by decide +kernel
theorem dX12_sign_86 : decode cX12_sign 86 = .ok (.iaload, 1) := by decide +kernel
theorem dX12_sign_87 : decode cX12_sign 87 = .ok (.ireturn, 1) := by decide +kernel
theorem dX12_hasDigits_0 : decode cX12_hasDigits 0 = .ok (.iload_n 0, 1) := by decide +kernel
theorem dX12_hasDigits_1 : decode cX12_hasDigits 1 = .ok (.bipush 97, 2) := by decide +kernel
theorem dX12_hasDigits_3 : decode cX12_hasDigits 3 = .ok (.if_icmp .eq 27, 3) := by decide +kernel
theorem dX12_hasDigits_6 : decode cX12_hasDigits 6 = .ok (.iload_n 0, 1) := by decide +kernel
theorem dX12_hasDigits_7 : decode cX12_hasDigits 7 = .ok (.bipush 65, 2) := by decide +kernel
theorem dX12_hasDigits_9 : decode cX12_hasDigits 9 = .ok (.if_icmp .eq 21, 3) := by decide +kernel
theorem dX12_hasDigits_12 : decode cX12_hasDigits 12 = .ok (.iload_n 0, 1) := by decide +kernel
theorem dX12_hasDigits_13 : decode cX12_hasDigits 13 = .ok (.bipush 121, 2) := by decide +kernel
theorem dX12_hasDigits_15 : decode cX12_hasDigits 15 = .ok (.if_icmp .eq 15, 3) := by decide +kernel
theorem dX12_hasDigits_18 : decode cX12_hasDigits 18 = .ok (.iload_n 0, 1) := by decide +kernel
theorem dX12_hasDigits_19 : decode cX12_hasDigits 19 = .ok (.bipush 89, 2) := by decide +kernel
theorem dX12_hasDigits_21 : decode cX12_hasDigits 21 = .ok (.if_icmp .eq 9, 3) := by decide +kernel
theorem dX12_hasDigits_24 : decode cX12_hasDigits 24 = .ok (.iload_n 0, 1) := by decide +kernel
theorem dX12_hasDigits_25 : decode cX12_hasDigits 25 = .ok (.bipush 116, 2) := by decide +kernel
theorem dX12_hasDigits_27 : decode cX12_hasDigits 27 = .ok (.if_icmp .ne 7, 3) := by decide +kernel
theorem dX12_hasDigits_30 : decode cX12_hasDigits 30 = .ok (.iconst 1, 1) := by decide +kernel
theorem dX12_hasDigits_31 : decode cX12_hasDigits 31 = .ok (.goto 4, 3) := by decide +kernel
theorem dX12_hasDigits_34 : decode cX12_hasDigits 34 = .ok (.iconst 0, 1) := by decide +kernel
theorem dX12_hasDigits_35 : decode cX12_hasDigits 35 = .ok (.ireturn, 1) := by decide +kernel
theorem dX12_faultOf_0 : decode cX12_faultOf 0 = .ok (.iconst 1, 1) := by decide +kernel
theorem dX12_faultOf_1 : decode cX12_faultOf 1 = .ok (.istore_n 2, 1) := by decide +kernel
theorem dX12_faultOf_2 : decode cX12_faultOf 2 = .ok (.iconst 0, 1) := by decide +kernel
theorem dX12_faultOf_3 : decode cX12_faultOf 3 = .ok (.istore_n 3, 1) := by decide +kernel
theorem dX12_faultOf_4 : decode cX12_faultOf 4 = .ok (.iconst 0, 1) := by decide +kernel
theorem dX12_faultOf_5 : decode cX12_faultOf 5 = .ok (.istore 4, 2) := by decide +kernel
theorem dX12_faultOf_7 : decode cX12_faultOf 7 = .ok (.iload 4, 2) := by decide +kernel
theorem dX12_faultOf_9 : decode cX12_faultOf 9 = .ok (.aload_n 0, 1) := by decide +kernel
theorem dX12_faultOf_10 : decode cX12_faultOf 10 = .ok (.getfield 52, 3) := by decide +kernel
theorem dX12_faultOf_13 : decode cX12_faultOf 13 = .ok (.iload_n 1, 1) := by decide +kernel
theorem dX12_faultOf_14 : decode cX12_faultOf 14 = .ok (.iaload, 1) := by decide +kernel
theorem dX12_faultOf_15 : decode cX12_faultOf 15 = .ok (.if_icmp .ge 131, 3) := by decide +kernel
theorem dX12_faultOf_18 : decode cX12_faultOf 18 = .ok (.aload_n 0, 1) := by decide +kernel
theorem dX12_faultOf_19 : decode cX12_faultOf 19 = .ok (.getfield 55, 3) := by decide +kernel
theorem dX12_faultOf_22 : decode cX12_faultOf 22 = .ok (.bipush 60, 2) := by decide +kernel
theorem dX12_faultOf_24 : decode cX12_faultOf 24 = .ok (.iload_n 1, 1) := by decide +kernel
theorem dX12_faultOf_25 : decode cX12_faultOf 25 = .ok (.imul, 1) := by decide +kernel
theorem dX12_faultOf_26 : decode cX12_faultOf 26 = .ok (.iload 4, 2) := by decide +kernel
theorem dX12_faultOf_28 : decode cX12_faultOf 28 = .ok (.iadd, 1) := by decide +kernel
theorem dX12_faultOf_29 : decode cX12_faultOf 29 = .ok (.iaload, 1) := by decide +kernel
theorem dX12_faultOf_30 : decode cX12_faultOf 30 = .ok (.istore 5, 2) := by decide +kernel
theorem dX12_faultOf_32 : decode cX12_faultOf 32 = .ok (.iload_n 3, 1) := by decide +kernel
theorem dX12_faultOf_33 : decode cX12_faultOf 33 = .ok (.ifCond .le 27, 3) := by decide +kernel
theorem dX12_faultOf_36 : decode cX12_faultOf 36 = .ok (.iload 5, 2) := by decide +kernel
theorem dX12_faultOf_38 : decode cX12_faultOf 38 = .ok (.i2l, 1) := by decide +kernel
theorem dX12_faultOf_39 : decode cX12_faultOf 39 = .ok (.ldc2_w 208, 3) := by decide +kernel
theorem dX12_faultOf_42 : decode cX12_faultOf 42 = .ok (.ldc2_w 210, 3) := by decide +kernel
theorem dX12_faultOf_45 : decode cX12_faultOf 45 = .ok (.invokestatic 103, 3) := by decide +kernel
theorem dX12_faultOf_48 : decode cX12_faultOf 48 = .ok (.ifCond .ne 6, 3) := by decide +kernel
theorem dX12_faultOf_51 : decode cX12_faultOf 51 = .ok (.iload 4, 2) := by decide +kernel
theorem dX12_faultOf_53 : decode cX12_faultOf 53 = .ok (.ireturn, 1) := by decide +kernel
theorem dX12_faultOf_54 : decode cX12_faultOf 54 = .ok (.iinc 3 (-1), 3) := by decide +kernel
theorem dX12_faultOf_57 : decode cX12_faultOf 57 = .ok (.goto 83, 3) := by decide +kernel
theorem dX12_faultOf_60 : decode cX12_faultOf 60 = .ok (.iload_n 2, 1) := by decide +kernel
theorem dX12_faultOf_61 : decode cX12_faultOf 61 = .ok (.ifCond .ne 6, 3) := by decide +kernel
theorem dX12_faultOf_64 : decode cX12_faultOf 64 = .ok (.iload 4, 2) := by decide +kernel
theorem dX12_faultOf_66 : decode cX12_faultOf 66 = .ok (.ireturn, 1) := by decide +kernel
theorem dX12_faultOf_67 : decode cX12_faultOf 67 = .ok (.iload 5, 2) := by decide +kernel
theorem dX12_faultOf_69 : decode cX12_faultOf 69 = .ok (.bipush 38, 2) := by decide +kernel
theorem dX12_faultOf_71 : decode cX12_faultOf 71 = .ok (.if_icmp .eq 10, 3) := by decide +kernel
theorem dX12_faultOf_74 : decode cX12_faultOf 74 = .ok (.iload 5, 2) := by decide +kernel
theorem dX12_faultOf_76 : decode cX12_faultOf 76 = .ok (.bipush 124, 2) := by decide +kernel
theorem dX12_faultOf_78 : decode cX12_faultOf 78 = .ok (.if_icmp .ne 9, 3) := by decide +kernel
theorem dX12_faultOf_81 : decode cX12_faultOf 81 = .ok (.iinc 2 1, 3) := by decide +kernel
theorem dX12_faultOf_84 : decode cX12_faultOf 84 = .ok (.goto 56, 3) := by decide +kernel
theorem dX12_faultOf_87 : decode cX12_faultOf 87 = .ok (.iload 5, 2) := by decide +kernel
theorem dX12_faultOf_89 : decode cX12_faultOf 89 = .ok (.invokestatic 212, 3) := by decide +kernel
theorem dX12_faultOf_92 : decode cX12_faultOf 92 = .ok (.ifCond .eq 11, 3) := by decide +kernel
theorem dX12_faultOf_95 : decode cX12_faultOf 95 = .ok (.iinc 2 (-1), 3) := by decide +kernel
theorem dX12_faultOf_98 : decode cX12_faultOf 98 = .ok (.iconst 2, 1) := by decide +kernel
theorem dX12_faultOf_99 : decode cX12_faultOf 99 = .ok (.istore_n 3, 1) := by decide +kernel
theorem dX12_faultOf_100 : decode cX12_faultOf 100 = .ok (.goto 40, 3) := by decide +kernel
theorem dX12_faultOf_103 : decode cX12_faultOf 103 = .ok (.iload 5, 2) := by decide +kernel
theorem dX12_faultOf_105 : decode cX12_faultOf 105 = .ok (.bipush 112, 2) := by decide +kernel
theorem dX12_faultOf_107 : decode cX12_faultOf 107 = .ok (.if_icmp .eq 17, 3) := by decide +kernel
theorem dX12_faultOf_110 : decode cX12_faultOf 110 = .ok (.iload 5, 2) := by decide +kernel
theorem dX12_faultOf_112 : decode cX12_faultOf 112 = .ok (.bipush 115, 2) := by decide +kernel
theorem dX12_faultOf_114 : decode cX12_faultOf 114 = .ok (.if_icmp .eq 10, 3) := by decide +kernel
theorem dX12_faultOf_117 : decode cX12_faultOf 117 = .ok (.iload 5, 2) := by decide +kernel
theorem dX12_faultOf_119 : decode cX12_faultOf 119 = .ok (.bipush 104, 2) := by decide +kernel
theorem dX12_faultOf_121 : decode cX12_faultOf 121 = .ok (.if_icmp .ne 9, 3) := by decide +kernel
theorem dX12_faultOf_124 : decode cX12_faultOf 124 = .ok (.iinc 2 (-1), 3) := by decide +kernel
theorem dX12_faultOf_127 : decode cX12_faultOf 127 = .ok (.goto 13, 3) := by decide +kernel
theorem dX12_faultOf_130 : decode cX12_faultOf 130 = .ok (.iload 5, 2) := by decide +kernel
theorem dX12_faultOf_132 : decode cX12_faultOf 132 = .ok (.bipush 33, 2) := by decide +kernel
theorem dX12_faultOf_134 : decode cX12_faultOf 134 = .ok (.if_icmp .eq 6, 3) := by decide +kernel
theorem dX12_faultOf_137 : decode cX12_faultOf 137 = .ok (.iload 4, 2) := by decide +kernel
theorem dX12_faultOf_139 : decode cX12_faultOf 139 = .ok (.ireturn, 1) := by decide +kernel
theorem dX12_faultOf_140 : decode cX12_faultOf 140 = .ok (.iinc 4 1, 3) := by decide +kernel
theorem dX12_faultOf_143 : decode cX12_faultOf 143 = .ok (.goto (-136), 3) := by decide +kernel
theorem dX12_faultOf_146 : decode cX12_faultOf 146 = .ok (.iload_n 2, 1) := by decide +kernel
theorem dX12_faultOf_147 : decode cX12_faultOf 147 = .ok (.ifCond .ne 12, 3) := by decide +kernel
theorem dX12_faultOf_150 : decode cX12_faultOf 150 = .ok (.iload_n 3, 1) := by decide +kernel
theorem dX12_faultOf_151 : decode cX12_faultOf 151 = .ok (.ifCond .ne 8, 3) := by decide +kernel
theorem dX12_faultOf_154 : decode cX12_faultOf 154 = .ok (.bipush (-9), 2) := by decide +kernel
theorem dX12_faultOf_156 : decode cX12_faultOf 156 = .ok (.goto 9, 3) := by decide +kernel
theorem dX12_faultOf_159 : decode cX12_faultOf 159 = .ok (.aload_n 0, 1) := by decide +kernel
theorem dX12_faultOf_160 : decode cX12_faultOf 160 = .ok (.getfield 52, 3) := by decide +kernel
theorem dX12_faultOf_163 : decode cX12_faultOf 163 = .ok (.iload_n 1, 1) := by decide +kernel
theorem dX12_faultOf_164 : decode cX12_faultOf 164 = .ok (.iaload, 1) := by decide +kernel
theorem dX12_faultOf_165 : decode cX12_faultOf 165 = .ok (.ireturn, 1) := by decide +kernel
theorem dX12_fault_0 : decode cX12_fault 0 = .ok (.aload_n 0, 1) := by decide +kernel
theorem dX12_fault_1 : decode cX12_fault 1 = .ok (.iconst 0, 1) := by decide +kernel
theorem dX12_fault_2 : decode cX12_fault 2 = .ok (.putfield 100, 3) := by decide +kernel
theorem dX12_fault_5 : decode cX12_fault 5 = .ok (.iload_n 1, 1) := by decide +kernel
theorem dX12_fault_6 : decode cX12_fault 6 = .ok (.i2l, 1) := by decide +kernel
theorem dX12_fault_7 : decode cX12_fault 7 = .ok (.lconst 0, 1) := by decide +kernel
theorem dX12_fault_8 : decode cX12_fault 8 = .ok (.aload_n 0, 1) := by decide +kernel
theorem dX12_fault_9 : decode cX12_fault 9 = .ok (.getfield 201, 3) := by decide +kernel
theorem dX12_fault_12 : decode cX12_fault 12 = .ok (.iconst 1, 1) := by decide +kernel
theorem dX12_fault_13 : decode cX12_fault 13 = .ok (.isub, 1) := by decide +kernel
theorem dX12_fault_14 : decode cX12_fault 14 = .ok (.i2l, 1) := by decide +kernel
theorem dX12_fault_15 : decode cX12_fault 15 = .ok (.invokestatic 103, 3) := by decide +kernel
theorem dX12_fault_18 : decode cX12_fault 18 = .ok (.ifCond .eq 11, 3) := by decide +kernel
theorem dX12_fault_21 : decode cX12_fault 21 = .ok (.aload_n 0, 1) := by decide +kernel
theorem dX12_fault_22 : decode cX12_fault 22 = .ok (.iload_n 1, 1) := by decide +kernel
theorem dX12_fault_23 : decode cX12_fault 23 = .ok (.invokevirtual 215, 3) := by decide +kernel
theorem dX12_fault_26 : decode cX12_fault 26 = .ok (.goto 4, 3) := by decide +kernel
theorem dX12_fault_29 : decode cX12_fault 29 = .ok (.iconst (-1), 1) := by decide +kernel
theorem dX12_fault_30 : decode cX12_fault 30 = .ok (.ireturn, 1) := by decide +kernel
theorem dX12_forceOf_0 : decode cX12_forceOf 0 = .ok (.bipush (-9), 2) := by decide +kernel
theorem dX12_forceOf_2 : decode cX12_forceOf 2 = .ok (.istore_n 2, 1) := by decide +kernel
theorem dX12_forceOf_3 : decode cX12_forceOf 3 = .ok (.iconst 0, 1) := by decide +kernel
theorem dX12_forceOf_4 : decode cX12_forceOf 4 = .ok (.istore_n 3, 1) := by decide +kernel
theorem dX12_forceOf_5 : decode cX12_forceOf 5 = .ok (.iload_n 3, 1) := by decide +kernel
theorem dX12_forceOf_6 : decode cX12_forceOf 6 = .ok (.aload_n 0, 1) := by decide +kernel
theorem dX12_forceOf_7 : decode cX12_forceOf 7 = .ok (.getfield 201, 3) := by decide +kernel
theorem dX12_forceOf_10 : decode cX12_forceOf 10 = .ok (.if_icmp .ge 68, 3) := by decide +kernel
theorem dX12_forceOf_13 : decode cX12_forceOf 13 = .ok (.aload_n 0, 1) := by decide +kernel
theorem dX12_forceOf_14 : decode cX12_forceOf 14 = .ok (.getfield 49, 3) := by decide +kernel
theorem dX12_forceOf_17 : decode cX12_forceOf 17 = .ok (.iload_n 3, 1) := by decide +kernel
theorem dX12_forceOf_18 : decode cX12_forceOf 18 = .ok (.iaload, 1) := by decide +kernel
theorem dX12_forceOf_19 : decode cX12_forceOf 19 = .ok (.iload_n 1, 1) := by decide +kernel
theorem dX12_forceOf_20 : decode cX12_forceOf 20 = .ok (.if_icmp .gt 17, 3) := by decide +kernel
theorem dX12_forceOf_23 : decode cX12_forceOf 23 = .ok (.aload_n 0, 1) := by decide +kernel
theorem dX12_forceOf_24 : decode cX12_forceOf 24 = .ok (.iload_n 3, 1) := by decide +kernel
theorem dX12_forceOf_25 : decode cX12_forceOf 25 = .ok (.invokevirtual 215, 3) := by decide +kernel
theorem dX12_forceOf_28 : decode cX12_forceOf 28 = .ok (.bipush (-9), 2) := by decide +kernel
theorem dX12_forceOf_30 : decode cX12_forceOf 30 = .ok (.if_icmp .ne 7, 3) := by decide +kernel
theorem dX12_forceOf_33 : decode cX12_forceOf 33 = .ok (.iconst 1, 1) := by decide +kernel
theorem dX12_forceOf_34 : decode cX12_forceOf 34 = .ok (.goto 4, 3) := by decide +kernel
theorem dX12_forceOf_37 : decode cX12_forceOf 37 = .ok (.iconst 0, 1) := by decide +kernel
theorem dX12_forceOf_38 : decode cX12_forceOf 38 = .ok (.istore 4, 2) := by decide +kernel
theorem dX12_forceOf_40 : decode cX12_forceOf 40 = .ok (.iload 4, 2) := by decide +kernel
theorem dX12_forceOf_42 : decode cX12_forceOf 42 = .ok (.ifCond .eq 28, 3) := by decide +kernel
theorem dX12_forceOf_45 : decode cX12_forceOf 45 = .ok (.iload_n 2, 1) := by decide +kernel
theorem dX12_forceOf_46 : decode cX12_forceOf 46 = .ok (.bipush (-9), 2) := by decide +kernel
theorem dX12_forceOf_48 : decode cX12_forceOf 48 = .ok (.if_icmp .eq 18, 3) := by decide +kernel
theorem dX12_forceOf_51 : decode cX12_forceOf 51 = .ok (.aload_n 0, 1) := by decide +kernel
theorem dX12_forceOf_52 : decode cX12_forceOf 52 = .ok (.getfield 49, 3) := by decide +kernel
theorem dX12_forceOf_55 : decode cX12_forceOf 55 = .ok (.iload_n 3, 1) := by decide +kernel
theorem dX12_forceOf_56 : decode cX12_forceOf 56 = .ok (.iaload, 1) := by decide +kernel
theorem dX12_forceOf_57 : decode cX12_forceOf 57 = .ok (.aload_n 0, 1) := by decide +kernel
theorem dX12_forceOf_58 : decode cX12_forceOf 58 = .ok (.getfield 49, 3) := by decide +kernel
theorem dX12_forceOf_61 : decode cX12_forceOf 61 = .ok (.iload_n 2, 1) := by decide +kernel
theorem dX12_forceOf_62 : decode cX12_forceOf 62 = .ok (.iaload, 1) := by decide +kernel
theorem dX12_forceOf_63 : decode cX12_forceOf 63 = .ok (.if_icmp .lt 7, 3) := by decide +kernel
theorem dX12_forceOf_66 : decode cX12_forceOf 66 = .ok (.iload_n 3, 1) := by decide +kernel
theorem dX12_forceOf_67 : decode cX12_forceOf 67 = .ok (.goto 4, 3) := by decide +kernel
theorem dX12_forceOf_70 : decode cX12_forceOf 70 = .ok (.iload_n 2, 1) := by decide +kernel
theorem dX12_forceOf_71 : decode cX12_forceOf 71 = .ok (.istore_n 2, 1) := by decide +kernel
theorem dX12_forceOf_72 : decode cX12_forceOf 72 = .ok (.iinc 3 1, 3) := by decide +kernel
theorem dX12_forceOf_75 : decode cX12_forceOf 75 = .ok (.goto (-70), 3) := by decide +kernel
theorem dX12_forceOf_78 : decode cX12_forceOf 78 = .ok (.iload_n 2, 1) := by decide +kernel
theorem dX12_forceOf_79 : decode cX12_forceOf 79 = .ok (.ireturn, 1) := by decide +kernel
theorem dX12_force_0 : decode cX12_force 0 = .ok (.aload_n 0, 1) := by decide +kernel
theorem dX12_force_1 : decode cX12_force 1 = .ok (.iconst 0, 1) := by decide +kernel
theorem dX12_force_2 : decode cX12_force 2 = .ok (.putfield 100, 3) := by decide +kernel
theorem dX12_force_5 : decode cX12_force 5 = .ok (.iload_n 1, 1) := by decide +kernel
theorem dX12_force_6 : decode cX12_force 6 = .ok (.invokestatic 194, 3) := by decide +kernel
theorem dX12_force_9 : decode cX12_force 9 = .ok (.ifCond .eq 8, 3) := by decide +kernel
theorem dX12_force_12 : decode cX12_force 12 = .ok (.bipush (-2), 2) := by decide +kernel
theorem dX12_force_14 : decode cX12_force 14 = .ok (.goto 8, 3) := by decide +kernel
theorem dX12_force_17 : decode cX12_force 17 = .ok (.aload_n 0, 1) := by decide +kernel
theorem dX12_force_18 : decode cX12_force 18 = .ok (.iload_n 1, 1) := by decide +kernel
theorem dX12_force_19 : decode cX12_force 19 = .ok (.invokevirtual 218, 3) := by decide +kernel
theorem dX12_force_22 : decode cX12_force 22 = .ok (.ireturn, 1) := by decide +kernel
theorem dX12_test_0 : decode cX12_test 0 = .ok (.iload_n 1, 1) := by decide +kernel
theorem dX12_test_1 : decode cX12_test 1 = .ok (.lookupswitch 180 #[(65, 86), (89, 126), (97, 67), (112, 168), (115, 171), (116, 147), (121, 105)], 67) := by decide +kernel
theorem dX12_test_68 : decode cX12_test 68 = .ok (.aload_n 0, 1) := by decide +kernel
theorem dX12_test_69 : decode cX12_test 69 = .ok (.getfield 21, 3) := by decide +kernel
theorem dX12_test_72 : decode cX12_test 72 = .ok (.bipush 8, 2) := by decide +kernel
theorem dX12_test_74 : decode cX12_test 74 = .ok (.iload_n 3, 1) := by decide +kernel
theorem dX12_test_75 : decode cX12_test 75 = .ok (.imul, 1) := by decide +kernel
theorem dX12_test_76 : decode cX12_test 76 = .ok (.iaload, 1) := by decide +kernel
theorem dX12_test_77 : decode cX12_test 77 = .ok (.iload_n 2, 1) := by decide +kernel
theorem dX12_test_78 : decode cX12_test 78 = .ok (.if_icmp .lt 7, 3) := by decide +kernel
theorem dX12_test_81 : decode cX12_test 81 = .ok (.iconst 1, 1) := by decide +kernel
theorem dX12_test_82 : decode cX12_test 82 = .ok (.goto 4, 3) := by decide +kernel
theorem dX12_test_85 : decode cX12_test 85 = .ok (.iconst 0, 1) := by decide +kernel
theorem dX12_test_86 : decode cX12_test 86 = .ok (.ireturn, 1) := by decide +kernel
theorem dX12_test_87 : decode cX12_test 87 = .ok (.aload_n 0, 1) := by decide +kernel
theorem dX12_test_88 : decode cX12_test 88 = .ok (.getfield 21, 3) := by decide +kernel
theorem dX12_test_91 : decode cX12_test 91 = .ok (.bipush 8, 2) := by decide +kernel
theorem dX12_test_93 : decode cX12_test 93 = .ok (.iload_n 3, 1) := by decide +kernel
theorem dX12_test_94 : decode cX12_test 94 = .ok (.imul, 1) := by decide +kernel
theorem dX12_test_95 : decode cX12_test 95 = .ok (.iaload, 1) := by decide +kernel
theorem dX12_test_96 : decode cX12_test 96 = .ok (.iload_n 2, 1) := by decide +kernel
theorem dX12_test_97 : decode cX12_test 97 = .ok (.if_icmp .ge 7, 3) := by decide +kernel
theorem dX12_test_100 : decode cX12_test 100 = .ok (.iconst 1, 1) := by decide +kernel
theorem dX12_test_101 : decode cX12_test 101 = .ok (.goto 4, 3) := by decide +kernel
theorem dX12_test_104 : decode cX12_test 104 = .ok (.iconst 0, 1) := by decide +kernel
theorem dX12_test_105 : decode cX12_test 105 = .ok (.ireturn, 1) := by decide +kernel
theorem dX12_test_106 : decode cX12_test 106 = .ok (.aload_n 0, 1) := by decide +kernel
theorem dX12_test_107 : decode cX12_test 107 = .ok (.getfield 21, 3) := by decide +kernel
theorem dX12_test_110 : decode cX12_test 110 = .ok (.bipush 8, 2) := by decide +kernel
theorem dX12_test_112 : decode cX12_test 112 = .ok (.iload_n 3, 1) := by decide +kernel
theorem dX12_test_113 : decode cX12_test 113 = .ok (.imul, 1) := by decide +kernel
theorem dX12_test_114 : decode cX12_test 114 = .ok (.iconst 5, 1) := by decide +kernel
theorem dX12_test_115 : decode cX12_test 115 = .ok (.iadd, 1) := by decide +kernel
theorem dX12_test_116 : decode cX12_test 116 = .ok (.iaload, 1) := by decide +kernel
theorem dX12_test_117 : decode cX12_test 117 = .ok (.iload_n 2, 1) := by decide +kernel
theorem dX12_test_118 : decode cX12_test 118 = .ok (.if_icmp .lt 7, 3) := by decide +kernel
theorem dX12_test_121 : decode cX12_test 121 = .ok (.iconst 1, 1) := by decide +kernel
theorem dX12_test_122 : decode cX12_test 122 = .ok (.goto 4, 3) := by decide +kernel
theorem dX12_test_125 : decode cX12_test 125 = .ok (.iconst 0, 1) := by decide +kernel
theorem dX12_test_126 : decode cX12_test 126 = .ok (.ireturn, 1) := by decide +kernel
theorem dX12_test_127 : decode cX12_test 127 = .ok (.aload_n 0, 1) := by decide +kernel
theorem dX12_test_128 : decode cX12_test 128 = .ok (.getfield 21, 3) := by decide +kernel
theorem dX12_test_131 : decode cX12_test 131 = .ok (.bipush 8, 2) := by decide +kernel
theorem dX12_test_133 : decode cX12_test 133 = .ok (.iload_n 3, 1) := by decide +kernel
theorem dX12_test_134 : decode cX12_test 134 = .ok (.imul, 1) := by decide +kernel
theorem dX12_test_135 : decode cX12_test 135 = .ok (.iconst 5, 1) := by decide +kernel
theorem dX12_test_136 : decode cX12_test 136 = .ok (.iadd, 1) := by decide +kernel
theorem dX12_test_137 : decode cX12_test 137 = .ok (.iaload, 1) := by decide +kernel
theorem dX12_test_138 : decode cX12_test 138 = .ok (.iload_n 2, 1) := by decide +kernel
theorem dX12_test_139 : decode cX12_test 139 = .ok (.if_icmp .ge 7, 3) := by decide +kernel
theorem dX12_test_142 : decode cX12_test 142 = .ok (.iconst 1, 1) := by decide +kernel
theorem dX12_test_143 : decode cX12_test 143 = .ok (.goto 4, 3) := by decide +kernel
theorem dX12_test_146 : decode cX12_test 146 = .ok (.iconst 0, 1) := by decide +kernel
theorem dX12_test_147 : decode cX12_test 147 = .ok (.ireturn, 1) := by decide +kernel
theorem dX12_test_148 : decode cX12_test 148 = .ok (.aload_n 0, 1) := by decide +kernel
theorem dX12_test_149 : decode cX12_test 149 = .ok (.getfield 21, 3) := by decide +kernel
theorem dX12_test_152 : decode cX12_test 152 = .ok (.bipush 8, 2) := by decide +kernel
theorem dX12_test_154 : decode cX12_test 154 = .ok (.iload_n 3, 1) := by decide +kernel
theorem dX12_test_155 : decode cX12_test 155 = .ok (.imul, 1) := by decide +kernel
theorem dX12_test_156 : decode cX12_test 156 = .ok (.iconst 4, 1) := by decide +kernel
theorem dX12_test_157 : decode cX12_test 157 = .ok (.iadd, 1) := by decide +kernel
theorem dX12_test_158 : decode cX12_test 158 = .ok (.iaload, 1) := by decide +kernel
theorem dX12_test_159 : decode cX12_test 159 = .ok (.iload_n 2, 1) := by decide +kernel
theorem dX12_test_160 : decode cX12_test 160 = .ok (.if_icmp .ne 7, 3) := by decide +kernel
theorem dX12_test_163 : decode cX12_test 163 = .ok (.iconst 1, 1) := by decide +kernel
theorem dX12_test_164 : decode cX12_test 164 = .ok (.goto 4, 3) := by decide +kernel
theorem dX12_test_167 : decode cX12_test 167 = .ok (.iconst 0, 1) := by decide +kernel
theorem dX12_test_168 : decode cX12_test 168 = .ok (.ireturn, 1) := by decide +kernel
theorem dX12_test_169 : decode cX12_test 169 = .ok (.iload 4, 2) := by decide +kernel
theorem dX12_test_171 : decode cX12_test 171 = .ok (.ireturn, 1) := by decide +kernel
theorem dX12_test_172 : decode cX12_test 172 = .ok (.aload_n 0, 1) := by decide +kernel
theorem dX12_test_173 : decode cX12_test 173 = .ok (.iload_n 3, 1) := by decide +kernel
theorem dX12_test_174 : decode cX12_test 174 = .ok (.invokevirtual 154, 3) := by decide +kernel
theorem dX12_test_177 : decode cX12_test 177 = .ok (.invokestatic 151, 3) := by decide +kernel
theorem dX12_test_180 : decode cX12_test 180 = .ok (.ireturn, 1) := by decide +kernel
theorem dX12_test_181 : decode cX12_test 181 = .ok (.aload_n 0, 1) := by decide +kernel
theorem dX12_test_182 : decode cX12_test 182 = .ok (.iload_n 3, 1) := by decide +kernel
theorem dX12_test_183 : decode cX12_test 183 = .ok (.invokevirtual 154, 3) := by decide +kernel
theorem dX12_test_186 : decode cX12_test 186 = .ok (.aload_n 0, 1) := by decide +kernel
theorem dX12_test_187 : decode cX12_test 187 = .ok (.getfield 21, 3) := by decide +kernel
theorem dX12_test_190 : decode cX12_test 190 = .ok (.bipush 8, 2) := by decide +kernel
theorem dX12_test_192 : decode cX12_test 192 = .ok (.iload_n 3, 1) := by decide +kernel
theorem dX12_test_193 : decode cX12_test 193 = .ok (.imul, 1) := by decide +kernel
theorem dX12_test_194 : decode cX12_test 194 = .ok (.bipush 6, 2) := by decide +kernel
theorem dX12_test_196 : decode cX12_test 196 = .ok (.iadd, 1) := by decide +kernel
theorem dX12_test_197 : decode cX12_test 197 = .ok (.iaload, 1) := by decide +kernel
theorem dX12_test_198 : decode cX12_test 198 = .ok (.if_icmp .ne 7, 3) := by decide +kernel
theorem dX12_test_201 : decode cX12_test 201 = .ok (.iconst 1, 1) := by decide +kernel
theorem dX12_test_202 : decode cX12_test 202 = .ok (.goto 4, 3) := by decide +kernel
theorem dX12_test_205 : decode cX12_test 205 = .ok (.iconst 0, 1) := by decide +kernel
theorem dX12_test_206 : decode cX12_test 206 = .ok (.ireturn, 1) := by decide +kernel
theorem dX12_mayBe_0 : decode cX12_mayBe 0 = .ok (.aload_n 0, 1) := by decide +kernel
theorem dX12_mayBe_1 : decode cX12_mayBe 1 = .ok (.aload_n 0, 1) := by decide +kernel
theorem dX12_mayBe_2 : decode cX12_mayBe 2 = .ok (.getfield 141, 3) := by decide +kernel
theorem dX12_mayBe_5 : decode cX12_mayBe 5 = .ok (.invokevirtual 218, 3) := by decide +kernel
theorem dX12_mayBe_8 : decode cX12_mayBe 8 = .ok (.istore_n 3, 1) := by decide +kernel
theorem dX12_mayBe_9 : decode cX12_mayBe 9 = .ok (.iload_n 3, 1) := by decide +kernel
theorem dX12_mayBe_10 : decode cX12_mayBe 10 = .ok (.bipush (-9), 2) := by decide +kernel
theorem dX12_mayBe_12 : decode cX12_mayBe 12 = .ok (.if_icmp .ne 5, 3) := by decide +kernel
theorem dX12_mayBe_15 : decode cX12_mayBe 15 = .ok (.iconst 0, 1) := by decide +kernel
theorem dX12_mayBe_16 : decode cX12_mayBe 16 = .ok (.ireturn, 1) := by decide +kernel
theorem dX12_mayBe_17 : decode cX12_mayBe 17 = .ok (.iconst 0, 1) := by decide +kernel
theorem dX12_mayBe_18 : decode cX12_mayBe 18 = .ok (.istore 4, 2) := by decide +kernel
theorem dX12_mayBe_20 : decode cX12_mayBe 20 = .ok (.iconst 0, 1) := by decide +kernel
theorem dX12_mayBe_21 : decode cX12_mayBe 21 = .ok (.istore 5, 2) := by decide +kernel
theorem dX12_mayBe_23 : decode cX12_mayBe 23 = .ok (.aload_n 0, 1) := by decide +kernel
theorem dX12_mayBe_24 : decode cX12_mayBe 24 = .ok (.getfield 52, 3) := by decide +kernel
theorem dX12_mayBe_27 : decode cX12_mayBe 27 = .ok (.iload_n 3, 1) := by decide +kernel
theorem dX12_mayBe_28 : decode cX12_mayBe 28 = .ok (.iaload, 1) := by decide +kernel
theorem dX12_mayBe_29 : decode cX12_mayBe 29 = .ok (.iconst 1, 1) := by decide +kernel
theorem dX12_mayBe_30 : decode cX12_mayBe 30 = .ok (.isub, 1) := by decide +kernel
theorem dX12_mayBe_31 : decode cX12_mayBe 31 = .ok (.istore 6, 2) := by decide +kernel
theorem dX12_mayBe_33 : decode cX12_mayBe 33 = .ok (.iload 6, 2) := by decide +kernel
theorem dX12_mayBe_35 : decode cX12_mayBe 35 = .ok (.ifCond .lt 248, 3) := by decide +kernel
theorem dX12_mayBe_38 : decode cX12_mayBe 38 = .ok (.aload_n 0, 1) := by decide +kernel
theorem dX12_mayBe_39 : decode cX12_mayBe 39 = .ok (.getfield 55, 3) := by decide +kernel
theorem dX12_mayBe_42 : decode cX12_mayBe 42 = .ok (.bipush 60, 2) := by decide +kernel
theorem dX12_mayBe_44 : decode cX12_mayBe 44 = .ok (.iload_n 3, 1) := by decide +kernel
theorem dX12_mayBe_45 : decode cX12_mayBe 45 = .ok (.imul, 1) := by decide +kernel
theorem dX12_mayBe_46 : decode cX12_mayBe 46 = .ok (.iload 6, 2) := by decide +kernel
theorem dX12_mayBe_48 : decode cX12_mayBe 48 = .ok (.iadd, 1) := by decide +kernel
theorem dX12_mayBe_49 : decode cX12_mayBe 49 = .ok (.iaload, 1) := by decide +kernel
theorem dX12_mayBe_50 : decode cX12_mayBe 50 = .ok (.istore 7, 2) := by decide +kernel
theorem dX12_mayBe_52 : decode cX12_mayBe 52 = .ok (.iload 7, 2) := by decide +kernel
theorem dX12_mayBe_54 : decode cX12_mayBe 54 = .ok (.i2l, 1) := by decide +kernel
theorem dX12_mayBe_55 : decode cX12_mayBe 55 = .ok (.ldc2_w 208, 3) := by decide +kernel
theorem dX12_mayBe_58 : decode cX12_mayBe 58 = .ok (.ldc2_w 210, 3) := by decide +kernel
theorem dX12_mayBe_61 : decode cX12_mayBe 61 = .ok (.invokestatic 103, 3) := by decide +kernel
theorem dX12_mayBe_64 : decode cX12_mayBe 64 = .ok (.ifCond .eq 59, 3) := by decide +kernel
theorem dX12_mayBe_67 : decode cX12_mayBe 67 = .ok (.iload 6, 2) := by decide +kernel
theorem dX12_mayBe_69 : decode cX12_mayBe 69 = .ok (.ifCond .le 38, 3) := by decide +kernel
theorem dX12_mayBe_72 : decode cX12_mayBe 72 = .ok (.aload_n 0, 1) := by decide +kernel
theorem dX12_mayBe_73 : decode cX12_mayBe 73 = .ok (.getfield 55, 3) := by decide +kernel
theorem dX12_mayBe_76 : decode cX12_mayBe 76 = .ok (.bipush 60, 2) := by decide +kernel
theorem dX12_mayBe_78 : decode cX12_mayBe 78 = .ok (.iload_n 3, 1) := by decide +kernel
theorem dX12_mayBe_79 : decode cX12_mayBe 79 = .ok (.imul, 1) := by decide +kernel
theorem dX12_mayBe_80 : decode cX12_mayBe 80 = .ok (.iload 6, 2) := by decide +kernel
theorem dX12_mayBe_82 : decode cX12_mayBe 82 = .ok (.iadd, 1) := by decide +kernel
theorem dX12_mayBe_83 : decode cX12_mayBe 83 = .ok (.iconst 1, 1) := by decide +kernel
theorem dX12_mayBe_84 : decode cX12_mayBe 84 = .ok (.isub, 1) := by decide +kernel
theorem dX12_mayBe_85 : decode cX12_mayBe 85 = .ok (.iaload, 1) := by decide +kernel
theorem dX12_mayBe_86 : decode cX12_mayBe 86 = .ok (.i2l, 1) := by decide +kernel
theorem dX12_mayBe_87 : decode cX12_mayBe 87 = .ok (.ldc2_w 208, 3) := by decide +kernel
theorem dX12_mayBe_90 : decode cX12_mayBe 90 = .ok (.ldc2_w 210, 3) := by decide +kernel
theorem dX12_mayBe_93 : decode cX12_mayBe 93 = .ok (.invokestatic 103, 3) := by decide +kernel
theorem dX12_mayBe_96 : decode cX12_mayBe 96 = .ok (.ifCond .eq 11, 3) := by decide +kernel
theorem dX12_mayBe_99 : decode cX12_mayBe 99 = .ok (.iload 7, 2) := by decide +kernel
theorem dX12_mayBe_101 : decode cX12_mayBe 101 = .ok (.bipush 48, 2) := by decide +kernel
theorem dX12_mayBe_103 : decode cX12_mayBe 103 = .ok (.isub, 1) := by decide +kernel
theorem dX12_mayBe_104 : decode cX12_mayBe 104 = .ok (.goto 14, 3) := by decide +kernel
theorem dX12_mayBe_107 : decode cX12_mayBe 107 = .ok (.iload 5, 2) := by decide +kernel
theorem dX12_mayBe_109 : decode cX12_mayBe 109 = .ok (.bipush 10, 2) := by decide +kernel
theorem dX12_mayBe_111 : decode cX12_mayBe 111 = .ok (.iload 7, 2) := by decide +kernel
theorem dX12_mayBe_113 : decode cX12_mayBe 113 = .ok (.bipush 48, 2) := by decide +kernel
theorem dX12_mayBe_115 : decode cX12_mayBe 115 = .ok (.isub, 1) := by decide +kernel
theorem dX12_mayBe_116 : decode cX12_mayBe 116 = .ok (.imul, 1) := by decide +kernel
theorem dX12_mayBe_117 : decode cX12_mayBe 117 = .ok (.iadd, 1) := by decide +kernel
theorem dX12_mayBe_118 : decode cX12_mayBe 118 = .ok (.istore 5, 2) := by decide +kernel
theorem dX12_mayBe_120 : decode cX12_mayBe 120 = .ok (.goto 157, 3) := by decide +kernel
theorem dX12_mayBe_123 : decode cX12_mayBe 123 = .ok (.iload 7, 2) := by decide +kernel
theorem dX12_mayBe_125 : decode cX12_mayBe 125 = .ok (.bipush 33, 2) := by decide +kernel
theorem dX12_mayBe_127 : decode cX12_mayBe 127 = .ok (.if_icmp .ne 32, 3) := by decide +kernel
theorem dX12_mayBe_130 : decode cX12_mayBe 130 = .ok (.aload_n 0, 1) := by decide +kernel
theorem dX12_mayBe_131 : decode cX12_mayBe 131 = .ok (.getfield 58, 3) := by decide +kernel
theorem dX12_mayBe_134 : decode cX12_mayBe 134 = .ok (.iload 4, 2) := by decide +kernel
theorem dX12_mayBe_136 : decode cX12_mayBe 136 = .ok (.iconst 1, 1) := by decide +kernel
theorem dX12_mayBe_137 : decode cX12_mayBe 137 = .ok (.isub, 1) := by decide +kernel
theorem dX12_mayBe_138 : decode cX12_mayBe 138 = .ok (.aload_n 0, 1) := by decide +kernel
theorem dX12_mayBe_139 : decode cX12_mayBe 139 = .ok (.getfield 58, 3) := by decide +kernel
theorem dX12_mayBe_142 : decode cX12_mayBe 142 = .ok (.iload 4, 2) := by decide +kernel
theorem dX12_mayBe_144 : decode cX12_mayBe 144 = .ok (.iconst 1, 1) := by decide +kernel
theorem dX12_mayBe_145 : decode cX12_mayBe 145 = .ok (.isub, 1) := by decide +kernel
theorem dX12_mayBe_146 : decode cX12_mayBe 146 = .ok (.baload, 1) := by decide +kernel
theorem dX12_mayBe_147 : decode cX12_mayBe 147 = .ok (.ifCond .ne 7, 3) := by decide +kernel
theorem dX12_mayBe_150 : decode cX12_mayBe 150 = .ok (.iconst 1, 1) := by decide +kernel
theorem dX12_mayBe_151 : decode cX12_mayBe 151 = .ok (.goto 4, 3) := by decide +kernel
theorem dX12_mayBe_154 : decode cX12_mayBe 154 = .ok (.iconst 0, 1) := by decide +kernel
theorem dX12_mayBe_155 : decode cX12_mayBe 155 = .ok (.bastore, 1) := by decide +kernel
theorem dX12_mayBe_156 : decode cX12_mayBe 156 = .ok (.goto 121, 3) := by decide +kernel
theorem dX12_mayBe_159 : decode cX12_mayBe 159 = .ok (.iload 7, 2) := by decide +kernel
theorem dX12_mayBe_161 : decode cX12_mayBe 161 = .ok (.bipush 38, 2) := by decide +kernel
theorem dX12_mayBe_163 : decode cX12_mayBe 163 = .ok (.if_icmp .ne 45, 3) := by decide +kernel
theorem dX12_mayBe_166 : decode cX12_mayBe 166 = .ok (.iinc 4 (-1), 3) := by decide +kernel
theorem dX12_mayBe_169 : decode cX12_mayBe 169 = .ok (.aload_n 0, 1) := by decide +kernel
theorem dX12_mayBe_170 : decode cX12_mayBe 170 = .ok (.getfield 58, 3) := by decide +kernel
theorem dX12_mayBe_173 : decode cX12_mayBe 173 = .ok (.iload 4, 2) := by decide +kernel
theorem dX12_mayBe_175 : decode cX12_mayBe 175 = .ok (.iconst 1, 1) := by decide +kernel
theorem dX12_mayBe_176 : decode cX12_mayBe 176 = .ok (.isub, 1) := by decide +kernel
theorem dX12_mayBe_177 : decode cX12_mayBe 177 = .ok (.aload_n 0, 1) := by decide +kernel
theorem dX12_mayBe_178 : decode cX12_mayBe 178 = .ok (.getfield 58, 3) := by decide +kernel
theorem dX12_mayBe_181 : decode cX12_mayBe 181 = .ok (.iload 4, 2) := by decide +kernel
theorem dX12_mayBe_183 : decode cX12_mayBe 183 = .ok (.baload, 1) := by decide +kernel
theorem dX12_mayBe_184 : decode cX12_mayBe 184 = .ok (.ifCond .eq 19, 3) := by decide +kernel
theorem dX12_mayBe_187 : decode cX12_mayBe 187 = .ok (.aload_n 0, 1) := by decide +kernel
theorem dX12_mayBe_188 : decode cX12_mayBe 188 = .ok (.getfield 58, 3) := by decide +kernel
theorem dX12_mayBe_191 : decode cX12_mayBe 191 = .ok (.iload 4, 2) := by decide +kernel
theorem dX12_mayBe_193 : decode cX12_mayBe 193 = .ok (.iconst 1, 1) := by decide +kernel
theorem dX12_mayBe_194 : decode cX12_mayBe 194 = .ok (.isub, 1) := by decide +kernel
theorem dX12_mayBe_195 : decode cX12_mayBe 195 = .ok (.baload, 1) := by decide +kernel
theorem dX12_mayBe_196 : decode cX12_mayBe 196 = .ok (.ifCond .eq 7, 3) := by decide +kernel
theorem dX12_mayBe_199 : decode cX12_mayBe 199 = .ok (.iconst 1, 1) := by decide +kernel
theorem dX12_mayBe_200 : decode cX12_mayBe 200 = .ok (.goto 4, 3) := by decide +kernel
theorem dX12_mayBe_203 : decode cX12_mayBe 203 = .ok (.iconst 0, 1) := by decide +kernel
theorem dX12_mayBe_204 : decode cX12_mayBe 204 = .ok (.bastore, 1) := by decide +kernel
theorem dX12_mayBe_205 : decode cX12_mayBe 205 = .ok (.goto 72, 3) := by decide +kernel
theorem dX12_mayBe_208 : decode cX12_mayBe 208 = .ok (.iload 7, 2) := by decide +kernel
theorem dX12_mayBe_210 : decode cX12_mayBe 210 = .ok (.bipush 124, 2) := by decide +kernel
theorem dX12_mayBe_212 : decode cX12_mayBe 212 = .ok (.if_icmp .ne 45, 3) := by decide +kernel
theorem dX12_mayBe_215 : decode cX12_mayBe 215 = .ok (.iinc 4 (-1), 3) := by decide +kernel
theorem dX12_mayBe_218 : decode cX12_mayBe 218 = .ok (.aload_n 0, 1) := by decide +kernel
theorem dX12_mayBe_219 : decode cX12_mayBe 219 = .ok (.getfield 58, 3) := by decide +kernel
theorem dX12_mayBe_222 : decode cX12_mayBe 222 = .ok (.iload 4, 2) := by decide +kernel
theorem dX12_mayBe_224 : decode cX12_mayBe 224 = .ok (.iconst 1, 1) := by decide +kernel
theorem dX12_mayBe_225 : decode cX12_mayBe 225 = .ok (.isub, 1) := by decide +kernel
theorem dX12_mayBe_226 : decode cX12_mayBe 226 = .ok (.aload_n 0, 1) := by decide +kernel
theorem dX12_mayBe_227 : decode cX12_mayBe 227 = .ok (.getfield 58, 3) := by decide +kernel
theorem dX12_mayBe_230 : decode cX12_mayBe 230 = .ok (.iload 4, 2) := by decide +kernel
theorem dX12_mayBe_232 : decode cX12_mayBe 232 = .ok (.baload, 1) := by decide +kernel
theorem dX12_mayBe_233 : decode cX12_mayBe 233 = .ok (.ifCond .ne 15, 3) := by decide +kernel
theorem dX12_mayBe_236 : decode cX12_mayBe 236 = .ok (.aload_n 0, 1) := by decide +kernel
theorem dX12_mayBe_237 : decode cX12_mayBe 237 = .ok (.getfield 58, 3) := by decide +kernel
theorem dX12_mayBe_240 : decode cX12_mayBe 240 = .ok (.iload 4, 2) := by decide +kernel
theorem dX12_mayBe_242 : decode cX12_mayBe 242 = .ok (.iconst 1, 1) := by decide +kernel
theorem dX12_mayBe_243 : decode cX12_mayBe 243 = .ok (.isub, 1) := by decide +kernel
theorem dX12_mayBe_244 : decode cX12_mayBe 244 = .ok (.baload, 1) := by decide +kernel
theorem dX12_mayBe_245 : decode cX12_mayBe 245 = .ok (.ifCond .eq 7, 3) := by decide +kernel
theorem dX12_mayBe_248 : decode cX12_mayBe 248 = .ok (.iconst 1, 1) := by decide +kernel
theorem dX12_mayBe_249 : decode cX12_mayBe 249 = .ok (.goto 4, 3) := by decide +kernel
theorem dX12_mayBe_252 : decode cX12_mayBe 252 = .ok (.iconst 0, 1) := by decide +kernel
theorem dX12_mayBe_253 : decode cX12_mayBe 253 = .ok (.bastore, 1) := by decide +kernel
theorem dX12_mayBe_254 : decode cX12_mayBe 254 = .ok (.goto 23, 3) := by decide +kernel
theorem dX12_mayBe_257 : decode cX12_mayBe 257 = .ok (.aload_n 0, 1) := by decide +kernel
theorem dX12_mayBe_258 : decode cX12_mayBe 258 = .ok (.getfield 58, 3) := by decide +kernel
theorem dX12_mayBe_261 : decode cX12_mayBe 261 = .ok (.iload 4, 2) := by decide +kernel
theorem dX12_mayBe_263 : decode cX12_mayBe 263 = .ok (.aload_n 0, 1) := by decide +kernel
theorem dX12_mayBe_264 : decode cX12_mayBe 264 = .ok (.iload 7, 2) := by decide +kernel
theorem dX12_mayBe_266 : decode cX12_mayBe 266 = .ok (.iload 5, 2) := by decide +kernel
theorem dX12_mayBe_268 : decode cX12_mayBe 268 = .ok (.iload_n 1, 1) := by decide +kernel
theorem dX12_mayBe_269 : decode cX12_mayBe 269 = .ok (.iload_n 2, 1) := by decide +kernel
theorem dX12_mayBe_270 : decode cX12_mayBe 270 = .ok (.invokevirtual 221, 3) := by decide +kernel
theorem dX12_mayBe_273 : decode cX12_mayBe 273 = .ok (.bastore, 1) := by decide +kernel
theorem dX12_mayBe_274 : decode cX12_mayBe 274 = .ok (.iinc 4 1, 3) := by decide +kernel
theorem dX12_mayBe_277 : decode cX12_mayBe 277 = .ok (.iinc 6 (-1), 3) := by decide +kernel
theorem dX12_mayBe_280 : decode cX12_mayBe 280 = .ok (.goto (-247), 3) := by decide +kernel
theorem dX12_mayBe_283 : decode cX12_mayBe 283 = .ok (.aload_n 0, 1) := by decide +kernel
theorem dX12_mayBe_284 : decode cX12_mayBe 284 = .ok (.getfield 58, 3) := by decide +kernel
theorem dX12_mayBe_287 : decode cX12_mayBe 287 = .ok (.iconst 0, 1) := by decide +kernel
theorem dX12_mayBe_288 : decode cX12_mayBe 288 = .ok (.baload, 1) := by decide +kernel
theorem dX12_mayBe_289 : decode cX12_mayBe 289 = .ok (.ireturn, 1) := by decide +kernel
theorem dX12_truly_0 : decode cX12_truly 0 = .ok (.iconst 0, 1) := by decide +kernel
theorem dX12_truly_1 : decode cX12_truly 1 = .ok (.istore_n 2, 1) := by decide +kernel
theorem dX12_truly_2 : decode cX12_truly 2 = .ok (.iconst 0, 1) := by decide +kernel
theorem dX12_truly_3 : decode cX12_truly 3 = .ok (.istore_n 3, 1) := by decide +kernel
theorem dX12_truly_4 : decode cX12_truly 4 = .ok (.iload_n 3, 1) := by decide +kernel
theorem dX12_truly_5 : decode cX12_truly 5 = .ok (.aload_n 0, 1) := by decide +kernel
theorem dX12_truly_6 : decode cX12_truly 6 = .ok (.getfield 113, 3) := by decide +kernel
theorem dX12_truly_9 : decode cX12_truly 9 = .ok (.if_icmp .ge 45, 3) := by decide +kernel
theorem dX12_truly_12 : decode cX12_truly 12 = .ok (.iload_n 2, 1) := by decide +kernel
theorem dX12_truly_13 : decode cX12_truly 13 = .ok (.ifCond .ne 29, 3) := by decide +kernel
theorem dX12_truly_16 : decode cX12_truly 16 = .ok (.aload_n 0, 1) := by decide +kernel
theorem dX12_truly_17 : decode cX12_truly 17 = .ok (.getfield 46, 3) := by decide +kernel
theorem dX12_truly_20 : decode cX12_truly 20 = .ok (.bipush 9, 2) := by decide +kernel
theorem dX12_truly_22 : decode cX12_truly 22 = .ok (.iload_n 3, 1) := by decide +kernel
theorem dX12_truly_23 : decode cX12_truly 23 = .ok (.imul, 1) := by decide +kernel
theorem dX12_truly_24 : decode cX12_truly 24 = .ok (.iaload, 1) := by decide +kernel
theorem dX12_truly_25 : decode cX12_truly 25 = .ok (.iload_n 1, 1) := by decide +kernel
theorem dX12_truly_26 : decode cX12_truly 26 = .ok (.if_icmp .ne 20, 3) := by decide +kernel
theorem dX12_truly_29 : decode cX12_truly 29 = .ok (.aload_n 0, 1) := by decide +kernel
theorem dX12_truly_30 : decode cX12_truly 30 = .ok (.iload_n 3, 1) := by decide +kernel
theorem dX12_truly_31 : decode cX12_truly 31 = .ok (.iload_n 1, 1) := by decide +kernel
theorem dX12_truly_32 : decode cX12_truly 32 = .ok (.aload_n 0, 1) := by decide +kernel
theorem dX12_truly_33 : decode cX12_truly 33 = .ok (.getfield 141, 3) := by decide +kernel
theorem dX12_truly_36 : decode cX12_truly 36 = .ok (.invokevirtual 197, 3) := by decide +kernel
theorem dX12_truly_39 : decode cX12_truly 39 = .ok (.ifCond .le 7, 3) := by decide +kernel
theorem dX12_truly_42 : decode cX12_truly 42 = .ok (.iconst 1, 1) := by decide +kernel
theorem dX12_truly_43 : decode cX12_truly 43 = .ok (.goto 4, 3) := by decide +kernel
theorem dX12_truly_46 : decode cX12_truly 46 = .ok (.iconst 0, 1) := by decide +kernel
theorem dX12_truly_47 : decode cX12_truly 47 = .ok (.istore_n 2, 1) := by decide +kernel
theorem dX12_truly_48 : decode cX12_truly 48 = .ok (.iinc 3 1, 3) := by decide +kernel
theorem dX12_truly_51 : decode cX12_truly 51 = .ok (.goto (-47), 3) := by decide +kernel
theorem dX12_truly_54 : decode cX12_truly 54 = .ok (.aload_n 0, 1) := by decide +kernel
theorem dX12_truly_55 : decode cX12_truly 55 = .ok (.iload_n 1, 1) := by decide +kernel
theorem dX12_truly_56 : decode cX12_truly 56 = .ok (.iload_n 2, 1) := by decide +kernel
theorem dX12_truly_57 : decode cX12_truly 57 = .ok (.invokevirtual 225, 3) := by decide +kernel
theorem dX12_truly_60 : decode cX12_truly 60 = .ok (.ireturn, 1) := by decide +kernel
theorem dX12_asShown_0 : decode cX12_asShown 0 = .ok (.aload_n 0, 1) := by decide +kernel
theorem dX12_asShown_1 : decode cX12_asShown 1 = .ok (.iload_n 1, 1) := by decide +kernel
theorem dX12_asShown_2 : decode cX12_asShown 2 = .ok (.iload_n 2, 1) := by decide +kernel
theorem dX12_asShown_3 : decode cX12_asShown 3 = .ok (.bipush (-9), 2) := by decide +kernel
theorem dX12_asShown_5 : decode cX12_asShown 5 = .ok (.if_icmp .eq 20, 3) := by decide +kernel
theorem dX12_asShown_8 : decode cX12_asShown 8 = .ok (.aload_n 0, 1) := by decide +kernel
theorem dX12_asShown_9 : decode cX12_asShown 9 = .ok (.iload_n 2, 1) := by decide +kernel
theorem dX12_asShown_10 : decode cX12_asShown 10 = .ok (.iload_n 1, 1) := by decide +kernel
theorem dX12_asShown_11 : decode cX12_asShown 11 = .ok (.aload_n 0, 1) := by decide +kernel
theorem dX12_asShown_12 : decode cX12_asShown 12 = .ok (.getfield 141, 3) := by decide +kernel
theorem dX12_asShown_15 : decode cX12_asShown 15 = .ok (.invokevirtual 197, 3) := by decide +kernel
theorem dX12_asShown_18 : decode cX12_asShown 18 = .ok (.ifCond .le 7, 3) := by decide +kernel
theorem dX12_asShown_21 : decode cX12_asShown 21 = .ok (.iconst 1, 1) := by decide +kernel
theorem dX12_asShown_22 : decode cX12_asShown 22 = .ok (.goto 4, 3) := by decide +kernel
theorem dX12_asShown_25 : decode cX12_asShown 25 = .ok (.iconst 0, 1) := by decide +kernel
theorem dX12_asShown_26 : decode cX12_asShown 26 = .ok (.invokevirtual 225, 3) := by decide +kernel
theorem dX12_asShown_29 : decode cX12_asShown 29 = .ok (.ireturn, 1) := by decide +kernel
theorem dX12_may_0 : decode cX12_may 0 = .ok (.aload_n 0, 1) := by decide +kernel
theorem dX12_may_1 : decode cX12_may 1 = .ok (.iconst 0, 1) := by decide +kernel
theorem dX12_may_2 : decode cX12_may 2 = .ok (.putfield 100, 3) := by decide +kernel
theorem dX12_may_5 : decode cX12_may 5 = .ok (.aload_n 0, 1) := by decide +kernel
theorem dX12_may_6 : decode cX12_may 6 = .ok (.iload_n 1, 1) := by decide +kernel
theorem dX12_may_7 : decode cX12_may 7 = .ok (.invokevirtual 144, 3) := by decide +kernel
theorem dX12_may_10 : decode cX12_may 10 = .ok (.ifCond .ne 17, 3) := by decide +kernel
theorem dX12_may_13 : decode cX12_may 13 = .ok (.iload_n 2, 1) := by decide +kernel
theorem dX12_may_14 : decode cX12_may 14 = .ok (.bipush (-9), 2) := by decide +kernel
theorem dX12_may_16 : decode cX12_may 16 = .ok (.if_icmp .eq 13, 3) := by decide +kernel
theorem dX12_may_19 : decode cX12_may 19 = .ok (.aload_n 0, 1) := by decide +kernel
theorem dX12_may_20 : decode cX12_may 20 = .ok (.iload_n 2, 1) := by decide +kernel
theorem dX12_may_21 : decode cX12_may 21 = .ok (.invokevirtual 191, 3) := by decide +kernel
theorem dX12_may_24 : decode cX12_may 24 = .ok (.ifCond .eq 5, 3) := by decide +kernel
theorem dX12_may_27 : decode cX12_may 27 = .ok (.iconst (-1), 1) := by decide +kernel
theorem dX12_may_28 : decode cX12_may 28 = .ok (.ireturn, 1) := by decide +kernel
theorem dX12_may_29 : decode cX12_may 29 = .ok (.aload_n 0, 1) := by decide +kernel
theorem dX12_may_30 : decode cX12_may 30 = .ok (.iload_n 1, 1) := by decide +kernel
theorem dX12_may_31 : decode cX12_may 31 = .ok (.iload_n 2, 1) := by decide +kernel
theorem dX12_may_32 : decode cX12_may 32 = .ok (.invokevirtual 229, 3) := by decide +kernel
theorem dX12_may_35 : decode cX12_may 35 = .ok (.ifCond .eq 7, 3) := by decide +kernel
theorem dX12_may_38 : decode cX12_may 38 = .ok (.iconst 1, 1) := by decide +kernel
theorem dX12_may_39 : decode cX12_may 39 = .ok (.goto 4, 3) := by decide +kernel
theorem dX12_may_42 : decode cX12_may 42 = .ok (.iconst 0, 1) := by decide +kernel
theorem dX12_may_43 : decode cX12_may 43 = .ok (.ireturn, 1) := by decide +kernel
theorem dX12_mayTruly_0 : decode cX12_mayTruly 0 = .ok (.aload_n 0, 1) := by decide +kernel
theorem dX12_mayTruly_1 : decode cX12_mayTruly 1 = .ok (.iconst 0, 1) := by decide +kernel
theorem dX12_mayTruly_2 : decode cX12_mayTruly 2 = .ok (.putfield 100, 3) := by decide +kernel
theorem dX12_mayTruly_5 : decode cX12_mayTruly 5 = .ok (.aload_n 0, 1) := by decide +kernel
theorem dX12_mayTruly_6 : decode cX12_mayTruly 6 = .ok (.iload_n 1, 1) := by decide +kernel
theorem dX12_mayTruly_7 : decode cX12_mayTruly 7 = .ok (.invokevirtual 144, 3) := by decide +kernel
theorem dX12_mayTruly_10 : decode cX12_mayTruly 10 = .ok (.ifCond .eq 7, 3) := by decide +kernel
theorem dX12_mayTruly_13 : decode cX12_mayTruly 13 = .ok (.iconst (-1), 1) := by decide +kernel
theorem dX12_mayTruly_14 : decode cX12_mayTruly 14 = .ok (.goto 16, 3) := by decide +kernel
theorem dX12_mayTruly_17 : decode cX12_mayTruly 17 = .ok (.aload_n 0, 1) := by decide +kernel
theorem dX12_mayTruly_18 : decode cX12_mayTruly 18 = .ok (.iload_n 1, 1) := by decide +kernel
theorem dX12_mayTruly_19 : decode cX12_mayTruly 19 = .ok (.invokevirtual 233, 3) := by decide +kernel
theorem dX12_mayTruly_22 : decode cX12_mayTruly 22 = .ok (.ifCond .eq 7, 3) := by decide +kernel
theorem dX12_mayTruly_25 : decode cX12_mayTruly 25 = .ok (.iconst 1, 1) := by decide +kernel
theorem dX12_mayTruly_26 : decode cX12_mayTruly 26 = .ok (.goto 4, 3) := by decide +kernel
theorem dX12_mayTruly_29 : decode cX12_mayTruly 29 = .ok (.iconst 0, 1) := by decide +kernel
theorem dX12_mayTruly_30 : decode cX12_mayTruly 30 = .ok (.ireturn, 1) := by decide +kernel
theorem dX12_take_0 : decode cX12_take 0 = .ok (.aload_n 0, 1) := by decide +kernel
theorem dX12_take_1 : decode cX12_take 1 = .ok (.iconst 0, 1) := by decide +kernel
theorem dX12_take_2 : decode cX12_take 2 = .ok (.putfield 100, 3) := by decide +kernel
theorem dX12_take_5 : decode cX12_take 5 = .ok (.aload_n 0, 1) := by decide +kernel
theorem dX12_take_6 : decode cX12_take 6 = .ok (.iload_n 1, 1) := by decide +kernel
theorem dX12_take_7 : decode cX12_take 7 = .ok (.invokevirtual 144, 3) := by decide +kernel
theorem dX12_take_10 : decode cX12_take 10 = .ok (.ifCond .ne 17, 3) := by decide +kernel
theorem dX12_take_13 : decode cX12_take 13 = .ok (.iload_n 2, 1) := by decide +kernel
theorem dX12_take_14 : decode cX12_take 14 = .ok (.bipush (-9), 2) := by decide +kernel
theorem dX12_take_16 : decode cX12_take 16 = .ok (.if_icmp .eq 13, 3) := by decide +kernel
theorem dX12_take_19 : decode cX12_take 19 = .ok (.aload_n 0, 1) := by decide +kernel
theorem dX12_take_20 : decode cX12_take 20 = .ok (.iload_n 2, 1) := by decide +kernel
theorem dX12_take_21 : decode cX12_take 21 = .ok (.invokevirtual 191, 3) := by decide +kernel
theorem dX12_take_24 : decode cX12_take 24 = .ok (.ifCond .eq 5, 3) := by decide +kernel
theorem dX12_take_27 : decode cX12_take 27 = .ok (.iconst (-1), 1) := by decide +kernel
theorem dX12_take_28 : decode cX12_take 28 = .ok (.ireturn, 1) := by decide +kernel
theorem dX12_take_29 : decode cX12_take 29 = .ok (.aload_n 0, 1) := by decide +kernel
theorem dX12_take_30 : decode cX12_take 30 = .ok (.iload_n 1, 1) := by decide +kernel
theorem dX12_take_31 : decode cX12_take 31 = .ok (.invokevirtual 154, 3) := by decide +kernel
theorem dX12_take_34 : decode cX12_take 34 = .ok (.istore_n 3, 1) := by decide +kernel
theorem dX12_take_35 : decode cX12_take 35 = .ok (.iload_n 3, 1) := by decide +kernel
theorem dX12_take_36 : decode cX12_take 36 = .ok (.invokestatic 171, 3) := by decide +kernel
theorem dX12_take_39 : decode cX12_take 39 = .ok (.ifCond .ne 27, 3) := by decide +kernel
theorem dX12_take_42 : decode cX12_take 42 = .ok (.aload_n 0, 1) := by decide +kernel
theorem dX12_take_43 : decode cX12_take 43 = .ok (.iload_n 3, 1) := by decide +kernel
theorem dX12_take_44 : decode cX12_take 44 = .ok (.invokevirtual 236, 3) := by decide +kernel
theorem dX12_take_47 : decode cX12_take 47 = .ok (.ifCond .eq 16, 3) := by decide +kernel
theorem dX12_take_50 : decode cX12_take 50 = .ok (.aload_n 0, 1) := by decide +kernel
theorem dX12_take_51 : decode cX12_take 51 = .ok (.getfield 31, 3) := by decide +kernel
theorem dX12_take_54 : decode cX12_take 54 = .ok (.iload_n 3, 1) := by decide +kernel
theorem dX12_take_55 : decode cX12_take 55 = .ok (.bipush 10, 2) := by decide +kernel
theorem dX12_take_57 : decode cX12_take 57 = .ok (.isub, 1) := by decide +kernel
theorem dX12_take_58 : decode cX12_take 58 = .ok (.iaload, 1) := by decide +kernel
theorem dX12_take_59 : decode cX12_take 59 = .ok (.iconst 1, 1) := by decide +kernel
theorem dX12_take_60 : decode cX12_take 60 = .ok (.if_icmp .eq 6, 3) := by decide +kernel
theorem dX12_take_63 : decode cX12_take 63 = .ok (.bipush (-3), 2) := by decide +kernel
theorem dX12_take_65 : decode cX12_take 65 = .ok (.ireturn, 1) := by decide +kernel
theorem dX12_take_66 : decode cX12_take 66 = .ok (.aload_n 0, 1) := by decide +kernel
theorem dX12_take_67 : decode cX12_take 67 = .ok (.getfield 168, 3) := by decide +kernel
theorem dX12_take_70 : decode cX12_take 70 = .ok (.bipush 60, 2) := by decide +kernel
theorem dX12_take_72 : decode cX12_take 72 = .ok (.if_icmp .ne 6, 3) := by decide +kernel
theorem dX12_take_75 : decode cX12_take 75 = .ok (.bipush (-4), 2) := by decide +kernel
theorem dX12_take_77 : decode cX12_take 77 = .ok (.ireturn, 1) := by decide +kernel
theorem dX12_take_78 : decode cX12_take 78 = .ok (.bipush 6, 2) := by decide +kernel
theorem dX12_take_80 : decode cX12_take 80 = .ok (.aload_n 0, 1) := by decide +kernel
theorem dX12_take_81 : decode cX12_take 81 = .ok (.getfield 168, 3) := by decide +kernel
theorem dX12_take_84 : decode cX12_take 84 = .ok (.imul, 1) := by decide +kernel
theorem dX12_take_85 : decode cX12_take 85 = .ok (.istore 4, 2) := by decide +kernel
theorem dX12_take_87 : decode cX12_take 87 = .ok (.aload_n 0, 1) := by decide +kernel
theorem dX12_take_88 : decode cX12_take 88 = .ok (.getfield 61, 3) := by decide +kernel
theorem dX12_take_91 : decode cX12_take 91 = .ok (.iload 4, 2) := by decide +kernel
theorem dX12_take_93 : decode cX12_take 93 = .ok (.aload_n 0, 1) := by decide +kernel
theorem dX12_take_94 : decode cX12_take 94 = .ok (.getfield 141, 3) := by decide +kernel
theorem dX12_take_97 : decode cX12_take 97 = .ok (.iastore, 1) := by decide +kernel
theorem dX12_take_98 : decode cX12_take 98 = .ok (.aload_n 0, 1) := by decide +kernel
theorem dX12_take_99 : decode cX12_take 99 = .ok (.getfield 61, 3) := by decide +kernel
theorem dX12_take_102 : decode cX12_take 102 = .ok (.iload 4, 2) := by decide +kernel
theorem dX12_take_104 : decode cX12_take 104 = .ok (.iconst 1, 1) := by decide +kernel
theorem dX12_take_105 : decode cX12_take 105 = .ok (.iadd, 1) := by decide +kernel
theorem dX12_take_106 : decode cX12_take 106 = .ok (.iload_n 1, 1) := by decide +kernel
theorem dX12_take_107 : decode cX12_take 107 = .ok (.iastore, 1) := by decide +kernel
theorem dX12_take_108 : decode cX12_take 108 = .ok (.aload_n 0, 1) := by decide +kernel
theorem dX12_take_109 : decode cX12_take 109 = .ok (.getfield 61, 3) := by decide +kernel
theorem dX12_take_112 : decode cX12_take 112 = .ok (.iload 4, 2) := by decide +kernel
theorem dX12_take_114 : decode cX12_take 114 = .ok (.iconst 2, 1) := by decide +kernel
theorem dX12_take_115 : decode cX12_take 115 = .ok (.iadd, 1) := by decide +kernel
theorem dX12_take_116 : decode cX12_take 116 = .ok (.iload_n 2, 1) := by decide +kernel
theorem dX12_take_117 : decode cX12_take 117 = .ok (.iastore, 1) := by decide +kernel
theorem dX12_take_118 : decode cX12_take 118 = .ok (.aload_n 0, 1) := by decide +kernel
theorem dX12_take_119 : decode cX12_take 119 = .ok (.getfield 61, 3) := by decide +kernel
theorem dX12_take_122 : decode cX12_take 122 = .ok (.iload 4, 2) := by decide +kernel
theorem dX12_take_124 : decode cX12_take 124 = .ok (.iconst 3, 1) := by decide +kernel
theorem dX12_take_125 : decode cX12_take 125 = .ok (.iadd, 1) := by decide +kernel
theorem dX12_take_126 : decode cX12_take 126 = .ok (.iload_n 3, 1) := by decide +kernel
theorem dX12_take_127 : decode cX12_take 127 = .ok (.iastore, 1) := by decide +kernel
theorem dX12_take_128 : decode cX12_take 128 = .ok (.aload_n 0, 1) := by decide +kernel
theorem dX12_take_129 : decode cX12_take 129 = .ok (.getfield 61, 3) := by decide +kernel
theorem dX12_take_132 : decode cX12_take 132 = .ok (.iload 4, 2) := by decide +kernel
theorem dX12_take_134 : decode cX12_take 134 = .ok (.iconst 4, 1) := by decide +kernel
theorem dX12_take_135 : decode cX12_take 135 = .ok (.iadd, 1) := by decide +kernel
theorem dX12_take_136 : decode cX12_take 136 = .ok (.aload_n 0, 1) := by decide +kernel
theorem dX12_take_137 : decode cX12_take 137 = .ok (.iload_n 1, 1) := by decide +kernel
theorem dX12_take_138 : decode cX12_take 138 = .ok (.iload_n 2, 1) := by decide +kernel
theorem dX12_take_139 : decode cX12_take 139 = .ok (.invokevirtual 229, 3) := by decide +kernel
theorem dX12_take_142 : decode cX12_take 142 = .ok (.ifCond .eq 7, 3) := by decide +kernel
theorem dX12_take_145 : decode cX12_take 145 = .ok (.iconst 1, 1) := by decide +kernel
theorem dX12_take_146 : decode cX12_take 146 = .ok (.goto 4, 3) := by decide +kernel
theorem dX12_take_149 : decode cX12_take 149 = .ok (.iconst 0, 1) := by decide +kernel
theorem dX12_take_150 : decode cX12_take 150 = .ok (.iastore, 1) := by decide +kernel
theorem dX12_take_151 : decode cX12_take 151 = .ok (.aload_n 0, 1) := by decide +kernel
theorem dX12_take_152 : decode cX12_take 152 = .ok (.getfield 61, 3) := by decide +kernel
theorem dX12_take_155 : decode cX12_take 155 = .ok (.iload 4, 2) := by decide +kernel
theorem dX12_take_157 : decode cX12_take 157 = .ok (.iconst 5, 1) := by decide +kernel
theorem dX12_take_158 : decode cX12_take 158 = .ok (.iadd, 1) := by decide +kernel
theorem dX12_take_159 : decode cX12_take 159 = .ok (.aload_n 0, 1) := by decide +kernel
theorem dX12_take_160 : decode cX12_take 160 = .ok (.iload_n 1, 1) := by decide +kernel
theorem dX12_take_161 : decode cX12_take 161 = .ok (.invokevirtual 233, 3) := by decide +kernel
theorem dX12_take_164 : decode cX12_take 164 = .ok (.ifCond .eq 7, 3) := by decide +kernel
theorem dX12_take_167 : decode cX12_take 167 = .ok (.iconst 1, 1) := by decide +kernel
theorem dX12_take_168 : decode cX12_take 168 = .ok (.goto 4, 3) := by decide +kernel
theorem dX12_take_171 : decode cX12_take 171 = .ok (.iconst 0, 1) := by decide +kernel
theorem dX12_take_172 : decode cX12_take 172 = .ok (.iastore, 1) := by decide +kernel
theorem dX12_take_173 : decode cX12_take 173 = .ok (.aload_n 0, 1) := by decide +kernel
theorem dX12_take_174 : decode cX12_take 174 = .ok (.dup, 1) := by decide +kernel
theorem dX12_take_175 : decode cX12_take 175 = .ok (.getfield 168, 3) := by decide +kernel
theorem dX12_take_178 : decode cX12_take 178 = .ok (.iconst 1, 1) := by decide +kernel
theorem dX12_take_179 : decode cX12_take 179 = .ok (.iadd, 1) := by decide +kernel
theorem dX12_take_180 : decode cX12_take 180 = .ok (.putfield 168, 3) := by decide +kernel
theorem dX12_take_183 : decode cX12_take 183 = .ok (.aload_n 0, 1) := by decide +kernel
theorem dX12_take_184 : decode cX12_take 184 = .ok (.iload_n 1, 1) := by decide +kernel
theorem dX12_take_185 : decode cX12_take 185 = .ok (.bipush 20, 2) := by decide +kernel
theorem dX12_take_187 : decode cX12_take 187 = .ok (.invokevirtual 177, 3) := by decide +kernel
theorem dX12_take_190 : decode cX12_take 190 = .ok (.aload_n 0, 1) := by decide +kernel
theorem dX12_take_191 : decode cX12_take 191 = .ok (.getfield 168, 3) := by decide +kernel
theorem dX12_take_194 : decode cX12_take 194 = .ok (.iconst 1, 1) := by decide +kernel
theorem dX12_take_195 : decode cX12_take 195 = .ok (.isub, 1) := by decide +kernel
theorem dX12_take_196 : decode cX12_take 196 = .ok (.ireturn, 1) := by decide +kernel
theorem dX12_taking_0 : decode cX12_taking 0 = .ok (.aload_n 0, 1) := by decide +kernel
theorem dX12_taking_1 : decode cX12_taking 1 = .ok (.iconst 0, 1) := by decide +kernel
theorem dX12_taking_2 : decode cX12_taking 2 = .ok (.putfield 100, 3) := by decide +kernel
theorem dX12_taking_5 : decode cX12_taking 5 = .ok (.iload_n 1, 1) := by decide +kernel
theorem dX12_taking_6 : decode cX12_taking 6 = .ok (.i2l, 1) := by decide +kernel
theorem dX12_taking_7 : decode cX12_taking 7 = .ok (.lconst 0, 1) := by decide +kernel
theorem dX12_taking_8 : decode cX12_taking 8 = .ok (.aload_n 0, 1) := by decide +kernel
theorem dX12_taking_9 : decode cX12_taking 9 = .ok (.getfield 168, 3) := by decide +kernel
theorem dX12_taking_12 : decode cX12_taking 12 = .ok (.iconst 1, 1) := by decide +kernel
theorem dX12_taking_13 : decode cX12_taking 13 = .ok (.isub, 1) := by decide +kernel
theorem dX12_taking_14 : decode cX12_taking 14 = .ok (.i2l, 1) := by decide +kernel
theorem dX12_taking_15 : decode cX12_taking 15 = .ok (.invokestatic 103, 3) := by decide +kernel
theorem dX12_taking_18 : decode cX12_taking 18 = .ok (.ifCond .ne 5, 3) := by decide +kernel
theorem dX12_taking_21 : decode cX12_taking 21 = .ok (.iconst (-1), 1) := by decide +kernel
theorem dX12_taking_22 : decode cX12_taking 22 = .ok (.ireturn, 1) := by decide +kernel
theorem dX12_taking_23 : decode cX12_taking 23 = .ok (.iload_n 2, 1) := by decide +kernel
theorem dX12_taking_24 : decode cX12_taking 24 = .ok (.i2l, 1) := by decide +kernel
theorem dX12_taking_25 : decode cX12_taking 25 = .ok (.lconst 0, 1) := by decide +kernel
theorem dX12_taking_26 : decode cX12_taking 26 = .ok (.ldc2_w 137, 3) := by decide +kernel
theorem dX12_taking_29 : decode cX12_taking 29 = .ok (.invokestatic 103, 3) := by decide +kernel
theorem dX12_taking_32 : decode cX12_taking 32 = .ok (.ifCond .eq 17, 3) := by decide +kernel
theorem dX12_taking_35 : decode cX12_taking 35 = .ok (.aload_n 0, 1) := by decide +kernel
theorem dX12_taking_36 : decode cX12_taking 36 = .ok (.getfield 61, 3) := by decide +kernel
theorem dX12_taking_39 : decode cX12_taking 39 = .ok (.bipush 6, 2) := by decide +kernel
theorem dX12_taking_41 : decode cX12_taking 41 = .ok (.iload_n 1, 1) := by decide +kernel
theorem dX12_taking_42 : decode cX12_taking 42 = .ok (.imul, 1) := by decide +kernel
theorem dX12_taking_43 : decode cX12_taking 43 = .ok (.iload_n 2, 1) := by decide +kernel
theorem dX12_taking_44 : decode cX12_taking 44 = .ok (.iadd, 1) := by decide +kernel
theorem dX12_taking_45 : decode cX12_taking 45 = .ok (.iaload, 1) := by decide +kernel
theorem dX12_taking_46 : decode cX12_taking 46 = .ok (.goto 5, 3) := by decide +kernel
theorem dX12_taking_49 : decode cX12_taking 49 = .ok (.bipush (-2), 2) := by decide +kernel
theorem dX12_taking_51 : decode cX12_taking 51 = .ok (.ireturn, 1) := by decide +kernel
theorem dX12_isWronged_0 : decode cX12_isWronged 0 = .ok (.bipush (-9), 2) := by decide +kernel
theorem dX12_isWronged_2 : decode cX12_isWronged 2 = .ok (.istore_n 2, 1) := by decide +kernel
theorem dX12_isWronged_3 : decode cX12_isWronged 3 = .ok (.iconst 0, 1) := by decide +kernel
theorem dX12_isWronged_4 : decode cX12_isWronged 4 = .ok (.istore_n 3, 1) := by decide +kernel
theorem dX12_isWronged_5 : decode cX12_isWronged 5 = .ok (.iload_n 3, 1) := by decide +kernel
theorem dX12_isWronged_6 : decode cX12_isWronged 6 = .ok (.aload_n 0, 1) := by decide +kernel
theorem dX12_isWronged_7 : decode cX12_isWronged 7 = .ok (.getfield 168, 3) := by decide +kernel
theorem dX12_isWronged_10 : decode cX12_isWronged 10 = .ok (.if_icmp .ge 30, 3) := by decide +kernel
theorem dX12_isWronged_13 : decode cX12_isWronged 13 = .ok (.aload_n 0, 1) := by decide +kernel
theorem dX12_isWronged_14 : decode cX12_isWronged 14 = .ok (.getfield 61, 3) := by decide +kernel
theorem dX12_isWronged_17 : decode cX12_isWronged 17 = .ok (.bipush 6, 2) := by decide +kernel
theorem dX12_isWronged_19 : decode cX12_isWronged 19 = .ok (.iload_n 3, 1) := by decide +kernel
theorem dX12_isWronged_20 : decode cX12_isWronged 20 = .ok (.imul, 1) := by decide +kernel
theorem dX12_isWronged_21 : decode cX12_isWronged 21 = .ok (.iconst 1, 1) := by decide +kernel
theorem dX12_isWronged_22 : decode cX12_isWronged 22 = .ok (.iadd, 1) := by decide +kernel
theorem dX12_isWronged_23 : decode cX12_isWronged 23 = .ok (.iaload, 1) := by decide +kernel
theorem dX12_isWronged_24 : decode cX12_isWronged 24 = .ok (.iload_n 1, 1) := by decide +kernel
theorem dX12_isWronged_25 : decode cX12_isWronged 25 = .ok (.if_icmp .ne 7, 3) := by decide +kernel
theorem dX12_isWronged_28 : decode cX12_isWronged 28 = .ok (.iload_n 3, 1) := by decide +kernel
theorem dX12_isWronged_29 : decode cX12_isWronged 29 = .ok (.goto 4, 3) := by decide +kernel
theorem dX12_isWronged_32 : decode cX12_isWronged 32 = .ok (.iload_n 2, 1) := by decide +kernel
theorem dX12_isWronged_33 : decode cX12_isWronged 33 = .ok (.istore_n 2, 1) := by decide +kernel
theorem dX12_isWronged_34 : decode cX12_isWronged 34 = .ok (.iinc 3 1, 3) := by decide +kernel
theorem dX12_isWronged_37 : decode cX12_isWronged 37 = .ok (.goto (-32), 3) := by decide +kernel
theorem dX12_isWronged_40 : decode cX12_isWronged 40 = .ok (.aload_n 0, 1) := by decide +kernel
theorem dX12_isWronged_41 : decode cX12_isWronged 41 = .ok (.iload_n 1, 1) := by decide +kernel
theorem dX12_isWronged_42 : decode cX12_isWronged 42 = .ok (.invokevirtual 154, 3) := by decide +kernel
theorem dX12_isWronged_45 : decode cX12_isWronged 45 = .ok (.istore_n 3, 1) := by decide +kernel
theorem dX12_isWronged_46 : decode cX12_isWronged 46 = .ok (.iload_n 3, 1) := by decide +kernel
theorem dX12_isWronged_47 : decode cX12_isWronged 47 = .ok (.bipush 20, 2) := by decide +kernel
theorem dX12_isWronged_49 : decode cX12_isWronged 49 = .ok (.if_icmp .eq 28, 3) := by decide +kernel
theorem dX12_isWronged_52 : decode cX12_isWronged 52 = .ok (.iload_n 3, 1) := by decide +kernel
theorem dX12_isWronged_53 : decode cX12_isWronged 53 = .ok (.bipush 21, 2) := by decide +kernel
theorem dX12_isWronged_55 : decode cX12_isWronged 55 = .ok (.if_icmp .eq 22, 3) := by decide +kernel
theorem dX12_isWronged_58 : decode cX12_isWronged 58 = .ok (.iload_n 3, 1) := by decide +kernel
theorem dX12_isWronged_59 : decode cX12_isWronged 59 = .ok (.invokestatic 151, 3) := by decide +kernel
theorem dX12_isWronged_62 : decode cX12_isWronged 62 = .ok (.ifCond .eq 19, 3) := by decide +kernel
theorem dX12_isWronged_65 : decode cX12_isWronged 65 = .ok (.aload_n 0, 1) := by decide +kernel
theorem dX12_isWronged_66 : decode cX12_isWronged 66 = .ok (.getfield 31, 3) := by decide +kernel
theorem dX12_isWronged_69 : decode cX12_isWronged 69 = .ok (.iload_n 3, 1) := by decide +kernel
theorem dX12_isWronged_70 : decode cX12_isWronged 70 = .ok (.bipush 10, 2) := by decide +kernel
theorem dX12_isWronged_72 : decode cX12_isWronged 72 = .ok (.isub, 1) := by decide +kernel
theorem dX12_isWronged_73 : decode cX12_isWronged 73 = .ok (.iaload, 1) := by decide +kernel
theorem dX12_isWronged_74 : decode cX12_isWronged 74 = .ok (.ifCond .ne 7, 3) := by decide +kernel
theorem dX12_isWronged_77 : decode cX12_isWronged 77 = .ok (.iconst 1, 1) := by decide +kernel
theorem dX12_isWronged_78 : decode cX12_isWronged 78 = .ok (.goto 4, 3) := by decide +kernel
theorem dX12_isWronged_81 : decode cX12_isWronged 81 = .ok (.iconst 0, 1) := by decide +kernel
theorem dX12_isWronged_82 : decode cX12_isWronged 82 = .ok (.istore 4, 2) := by decide +kernel
theorem dX12_isWronged_84 : decode cX12_isWronged 84 = .ok (.iload_n 2, 1) := by decide +kernel
theorem dX12_isWronged_85 : decode cX12_isWronged 85 = .ok (.bipush (-9), 2) := by decide +kernel
theorem dX12_isWronged_87 : decode cX12_isWronged 87 = .ok (.if_icmp .eq 26, 3) := by decide +kernel
theorem dX12_isWronged_90 : decode cX12_isWronged 90 = .ok (.aload_n 0, 1) := by decide +kernel
theorem dX12_isWronged_91 : decode cX12_isWronged 91 = .ok (.getfield 61, 3) := by decide +kernel
theorem dX12_isWronged_94 : decode cX12_isWronged 94 = .ok (.bipush 6, 2) := by decide +kernel
theorem dX12_isWronged_96 : decode cX12_isWronged 96 = .ok (.iload_n 2, 1) := by decide +kernel
theorem dX12_isWronged_97 : decode cX12_isWronged 97 = .ok (.imul, 1) := by decide +kernel
theorem dX12_isWronged_98 : decode cX12_isWronged 98 = .ok (.iconst 5, 1) := by decide +kernel
theorem dX12_isWronged_99 : decode cX12_isWronged 99 = .ok (.iadd, 1) := by decide +kernel
theorem dX12_isWronged_100 : decode cX12_isWronged 100 = .ok (.iaload, 1) := by decide +kernel
theorem dX12_isWronged_101 : decode cX12_isWronged 101 = .ok (.ifCond .ne 12, 3) := by decide +kernel
theorem dX12_isWronged_104 : decode cX12_isWronged 104 = .ok (.iload 4, 2) := by decide +kernel
theorem dX12_isWronged_106 : decode cX12_isWronged 106 = .ok (.ifCond .eq 7, 3) := by decide +kernel
theorem dX12_isWronged_109 : decode cX12_isWronged 109 = .ok (.iconst 1, 1) := by decide +kernel
theorem dX12_isWronged_110 : decode cX12_isWronged 110 = .ok (.goto 4, 3) := by decide +kernel
theorem dX12_isWronged_113 : decode cX12_isWronged 113 = .ok (.iconst 0, 1) := by decide +kernel
theorem dX12_isWronged_114 : decode cX12_isWronged 114 = .ok (.ireturn, 1) := by decide +kernel
theorem dX12_wronged_0 : decode cX12_wronged 0 = .ok (.aload_n 0, 1) := by decide +kernel
theorem dX12_wronged_1 : decode cX12_wronged 1 = .ok (.iconst 0, 1) := by decide +kernel
theorem dX12_wronged_2 : decode cX12_wronged 2 = .ok (.putfield 100, 3) := by decide +kernel
theorem dX12_wronged_5 : decode cX12_wronged 5 = .ok (.iconst 0, 1) := by decide +kernel
theorem dX12_wronged_6 : decode cX12_wronged 6 = .ok (.istore_n 1, 1) := by decide +kernel
theorem dX12_wronged_7 : decode cX12_wronged 7 = .ok (.iconst 0, 1) := by decide +kernel
theorem dX12_wronged_8 : decode cX12_wronged 8 = .ok (.istore_n 2, 1) := by decide +kernel
theorem dX12_wronged_9 : decode cX12_wronged 9 = .ok (.iload_n 2, 1) := by decide +kernel
theorem dX12_wronged_10 : decode cX12_wronged 10 = .ok (.aload_n 0, 1) := by decide +kernel
theorem dX12_wronged_11 : decode cX12_wronged 11 = .ok (.getfield 107, 3) := by decide +kernel
theorem dX12_wronged_14 : decode cX12_wronged 14 = .ok (.if_icmp .ge 25, 3) := by decide +kernel
theorem dX12_wronged_17 : decode cX12_wronged 17 = .ok (.iload_n 1, 1) := by decide +kernel
theorem dX12_wronged_18 : decode cX12_wronged 18 = .ok (.aload_n 0, 1) := by decide +kernel
theorem dX12_wronged_19 : decode cX12_wronged 19 = .ok (.iload_n 2, 1) := by decide +kernel
theorem dX12_wronged_20 : decode cX12_wronged 20 = .ok (.invokevirtual 239, 3) := by decide +kernel
theorem dX12_wronged_23 : decode cX12_wronged 23 = .ok (.ifCond .eq 7, 3) := by decide +kernel
theorem dX12_wronged_26 : decode cX12_wronged 26 = .ok (.iconst 1, 1) := by decide +kernel
theorem dX12_wronged_27 : decode cX12_wronged 27 = .ok (.goto 4, 3) := by decide +kernel
theorem dX12_wronged_30 : decode cX12_wronged 30 = .ok (.iconst 0, 1) := by decide +kernel
theorem dX12_wronged_31 : decode cX12_wronged 31 = .ok (.iadd, 1) := by decide +kernel
theorem dX12_wronged_32 : decode cX12_wronged 32 = .ok (.istore_n 1, 1) := by decide +kernel
theorem dX12_wronged_33 : decode cX12_wronged 33 = .ok (.iinc 2 1, 3) := by decide +kernel
theorem dX12_wronged_36 : decode cX12_wronged 36 = .ok (.goto (-27), 3) := by decide +kernel
theorem dX12_wronged_39 : decode cX12_wronged 39 = .ok (.iload_n 1, 1) := by decide +kernel
theorem dX12_wronged_40 : decode cX12_wronged 40 = .ok (.ireturn, 1) := by decide +kernel
theorem dX12_wrongedMan_0 : decode cX12_wrongedMan 0 = .ok (.aload_n 0, 1) := by decide +kernel
theorem dX12_wrongedMan_1 : decode cX12_wrongedMan 1 = .ok (.iconst 0, 1) := by decide +kernel
theorem dX12_wrongedMan_2 : decode cX12_wrongedMan 2 = .ok (.putfield 100, 3) := by decide +kernel
theorem dX12_wrongedMan_5 : decode cX12_wrongedMan 5 = .ok (.iconst 0, 1) := by decide +kernel
theorem dX12_wrongedMan_6 : decode cX12_wrongedMan 6 = .ok (.istore_n 2, 1) := by decide +kernel
theorem dX12_wrongedMan_7 : decode cX12_wrongedMan 7 = .ok (.iconst 0, 1) := by decide +kernel
theorem dX12_wrongedMan_8 : decode cX12_wrongedMan 8 = .ok (.istore_n 3, 1) := by decide +kernel
theorem dX12_wrongedMan_9 : decode cX12_wrongedMan 9 = .ok (.iload_n 3, 1) := by decide +kernel
theorem dX12_wrongedMan_10 : decode cX12_wrongedMan 10 = .ok (.aload_n 0, 1) := by decide +kernel
theorem dX12_wrongedMan_11 : decode cX12_wrongedMan 11 = .ok (.getfield 107, 3) := by decide +kernel
theorem dX12_wrongedMan_14 : decode cX12_wrongedMan 14 = .ok (.if_icmp .ge 27, 3) := by decide +kernel
theorem dX12_wrongedMan_17 : decode cX12_wrongedMan 17 = .ok (.aload_n 0, 1) := by decide +kernel
theorem dX12_wrongedMan_18 : decode cX12_wrongedMan 18 = .ok (.iload_n 3, 1) := by decide +kernel
theorem dX12_wrongedMan_19 : decode cX12_wrongedMan 19 = .ok (.invokevirtual 239, 3) := by decide +kernel
theorem dX12_wrongedMan_22 : decode cX12_wrongedMan 22 = .ok (.ifCond .eq 13, 3) := by decide +kernel
theorem dX12_wrongedMan_25 : decode cX12_wrongedMan 25 = .ok (.iload_n 2, 1) := by decide +kernel
theorem dX12_wrongedMan_26 : decode cX12_wrongedMan 26 = .ok (.iload_n 1, 1) := by decide +kernel
theorem dX12_wrongedMan_27 : decode cX12_wrongedMan 27 = .ok (.if_icmp .ne 5, 3) := by decide +kernel
theorem dX12_wrongedMan_30 : decode cX12_wrongedMan 30 = .ok (.iload_n 3, 1) := by decide +kernel
theorem dX12_wrongedMan_31 : decode cX12_wrongedMan 31 = .ok (.ireturn, 1) := by decide +kernel
theorem dX12_wrongedMan_32 : decode cX12_wrongedMan 32 = .ok (.iinc 2 1, 3) := by decide +kernel
theorem dX12_wrongedMan_35 : decode cX12_wrongedMan 35 = .ok (.iinc 3 1, 3) := by decide +kernel
theorem dX12_wrongedMan_38 : decode cX12_wrongedMan 38 = .ok (.goto (-29), 3) := by decide +kernel
theorem dX12_wrongedMan_41 : decode cX12_wrongedMan 41 = .ok (.bipush (-9), 2) := by decide +kernel
theorem dX12_wrongedMan_43 : decode cX12_wrongedMan 43 = .ok (.ireturn, 1) := by decide +kernel
theorem dX12_letGo_0 : decode cX12_letGo 0 = .ok (.aload_n 0, 1) := by decide +kernel
theorem dX12_letGo_1 : decode cX12_letGo 1 = .ok (.iconst 0, 1) := by decide +kernel
theorem dX12_letGo_2 : decode cX12_letGo 2 = .ok (.putfield 100, 3) := by decide +kernel
theorem dX12_letGo_5 : decode cX12_letGo 5 = .ok (.aload_n 0, 1) := by decide +kernel
theorem dX12_letGo_6 : decode cX12_letGo 6 = .ok (.iload_n 1, 1) := by decide +kernel
theorem dX12_letGo_7 : decode cX12_letGo 7 = .ok (.invokevirtual 144, 3) := by decide +kernel
theorem dX12_letGo_10 : decode cX12_letGo 10 = .ok (.ifCond .eq 5, 3) := by decide +kernel
theorem dX12_letGo_13 : decode cX12_letGo 13 = .ok (.iconst (-1), 1) := by decide +kernel
theorem dX12_letGo_14 : decode cX12_letGo 14 = .ok (.ireturn, 1) := by decide +kernel
theorem dX12_letGo_15 : decode cX12_letGo 15 = .ok (.aload_n 0, 1) := by decide +kernel
theorem dX12_letGo_16 : decode cX12_letGo 16 = .ok (.iload_n 1, 1) := by decide +kernel
theorem dX12_letGo_17 : decode cX12_letGo 17 = .ok (.invokevirtual 154, 3) := by decide +kernel
theorem dX12_letGo_20 : decode cX12_letGo 20 = .ok (.istore_n 2, 1) := by decide +kernel
theorem dX12_letGo_21 : decode cX12_letGo 21 = .ok (.iload_n 2, 1) := by decide +kernel
theorem dX12_letGo_22 : decode cX12_letGo 22 = .ok (.bipush 20, 2) := by decide +kernel
theorem dX12_letGo_24 : decode cX12_letGo 24 = .ok (.if_icmp .eq 20, 3) := by decide +kernel
theorem dX12_letGo_27 : decode cX12_letGo 27 = .ok (.iload_n 2, 1) := by decide +kernel
theorem dX12_letGo_28 : decode cX12_letGo 28 = .ok (.bipush 21, 2) := by decide +kernel
theorem dX12_letGo_30 : decode cX12_letGo 30 = .ok (.if_icmp .eq 14, 3) := by decide +kernel
theorem dX12_letGo_33 : decode cX12_letGo 33 = .ok (.aload_n 0, 1) := by decide +kernel
theorem dX12_letGo_34 : decode cX12_letGo 34 = .ok (.iload_n 2, 1) := by decide +kernel
theorem dX12_letGo_35 : decode cX12_letGo 35 = .ok (.invokevirtual 236, 3) := by decide +kernel
theorem dX12_letGo_38 : decode cX12_letGo 38 = .ok (.ifCond .ne 6, 3) := by decide +kernel
theorem dX12_letGo_41 : decode cX12_letGo 41 = .ok (.bipush (-3), 2) := by decide +kernel
theorem dX12_letGo_43 : decode cX12_letGo 43 = .ok (.ireturn, 1) := by decide +kernel
theorem dX12_letGo_44 : decode cX12_letGo 44 = .ok (.aload_n 0, 1) := by decide +kernel
theorem dX12_letGo_45 : decode cX12_letGo 45 = .ok (.iload_n 1, 1) := by decide +kernel
theorem dX12_letGo_46 : decode cX12_letGo 46 = .ok (.aload_n 0, 1) := by decide +kernel
theorem dX12_letGo_47 : decode cX12_letGo 47 = .ok (.getfield 21, 3) := by decide +kernel
theorem dX12_letGo_50 : decode cX12_letGo 50 = .ok (.bipush 8, 2) := by decide +kernel
theorem dX12_letGo_52 : decode cX12_letGo 52 = .ok (.iload_n 1, 1) := by decide +kernel
theorem dX12_letGo_53 : decode cX12_letGo 53 = .ok (.imul, 1) := by decide +kernel
theorem dX12_letGo_54 : decode cX12_letGo 54 = .ok (.bipush 6, 2) := by decide +kernel
theorem dX12_letGo_56 : decode cX12_letGo 56 = .ok (.iadd, 1) := by decide +kernel
theorem dX12_letGo_57 : decode cX12_letGo 57 = .ok (.iaload, 1) := by decide +kernel
theorem dX12_letGo_58 : decode cX12_letGo 58 = .ok (.invokevirtual 177, 3) := by decide +kernel
theorem dX12_letGo_61 : decode cX12_letGo 61 = .ok (.iload_n 2, 1) := by decide +kernel
theorem dX12_letGo_62 : decode cX12_letGo 62 = .ok (.ireturn, 1) := by decide +kernel
theorem dX12_quiet_0 : decode cX12_quiet 0 = .ok (.aload_n 0, 1) := by decide +kernel
theorem dX12_quiet_1 : decode cX12_quiet 1 = .ok (.iconst 0, 1) := by decide +kernel
theorem dX12_quiet_2 : decode cX12_quiet 2 = .ok (.putfield 100, 3) := by decide +kernel
theorem dX12_quiet_5 : decode cX12_quiet 5 = .ok (.iconst 0, 1) := by decide +kernel
theorem dX12_quiet_6 : decode cX12_quiet 6 = .ok (.istore_n 1, 1) := by decide +kernel
theorem dX12_quiet_7 : decode cX12_quiet 7 = .ok (.aload_n 0, 1) := by decide +kernel
theorem dX12_quiet_8 : decode cX12_quiet 8 = .ok (.getfield 165, 3) := by decide +kernel
theorem dX12_quiet_11 : decode cX12_quiet 11 = .ok (.istore_n 2, 1) := by decide +kernel
theorem dX12_quiet_12 : decode cX12_quiet 12 = .ok (.iload_n 2, 1) := by decide +kernel
theorem dX12_quiet_13 : decode cX12_quiet 13 = .ok (.aload_n 0, 1) := by decide +kernel
theorem dX12_quiet_14 : decode cX12_quiet 14 = .ok (.getfield 168, 3) := by decide +kernel
theorem dX12_quiet_17 : decode cX12_quiet 17 = .ok (.if_icmp .ge 34, 3) := by decide +kernel
theorem dX12_quiet_20 : decode cX12_quiet 20 = .ok (.iload_n 1, 1) := by decide +kernel
theorem dX12_quiet_21 : decode cX12_quiet 21 = .ok (.aload_n 0, 1) := by decide +kernel
theorem dX12_quiet_22 : decode cX12_quiet 22 = .ok (.getfield 61, 3) := by decide +kernel
theorem dX12_quiet_25 : decode cX12_quiet 25 = .ok (.bipush 6, 2) := by decide +kernel
theorem dX12_quiet_27 : decode cX12_quiet 27 = .ok (.iload_n 2, 1) := by decide +kernel
theorem dX12_quiet_28 : decode cX12_quiet 28 = .ok (.imul, 1) := by decide +kernel
theorem dX12_quiet_29 : decode cX12_quiet 29 = .ok (.iconst 3, 1) := by decide +kernel
theorem dX12_quiet_30 : decode cX12_quiet 30 = .ok (.iadd, 1) := by decide +kernel
theorem dX12_quiet_31 : decode cX12_quiet 31 = .ok (.iaload, 1) := by decide +kernel
theorem dX12_quiet_32 : decode cX12_quiet 32 = .ok (.invokestatic 171, 3) := by decide +kernel
theorem dX12_quiet_35 : decode cX12_quiet 35 = .ok (.ifCond .eq 7, 3) := by decide +kernel
theorem dX12_quiet_38 : decode cX12_quiet 38 = .ok (.iconst 1, 1) := by decide +kernel
theorem dX12_quiet_39 : decode cX12_quiet 39 = .ok (.goto 4, 3) := by decide +kernel
theorem dX12_quiet_42 : decode cX12_quiet 42 = .ok (.iconst 0, 1) := by decide +kernel
theorem dX12_quiet_43 : decode cX12_quiet 43 = .ok (.iadd, 1) := by decide +kernel
theorem dX12_quiet_44 : decode cX12_quiet 44 = .ok (.istore_n 1, 1) := by decide +kernel
theorem dX12_quiet_45 : decode cX12_quiet 45 = .ok (.iinc 2 1, 3) := by decide +kernel
theorem dX12_quiet_48 : decode cX12_quiet 48 = .ok (.goto (-36), 3) := by decide +kernel
theorem dX12_quiet_51 : decode cX12_quiet 51 = .ok (.aload_n 0, 1) := by decide +kernel
theorem dX12_quiet_52 : decode cX12_quiet 52 = .ok (.aload_n 0, 1) := by decide +kernel
theorem dX12_quiet_53 : decode cX12_quiet 53 = .ok (.getfield 168, 3) := by decide +kernel
theorem dX12_quiet_56 : decode cX12_quiet 56 = .ok (.putfield 165, 3) := by decide +kernel
theorem dX12_quiet_59 : decode cX12_quiet 59 = .ok (.iload_n 1, 1) := by decide +kernel
theorem dX12_quiet_60 : decode cX12_quiet 60 = .ok (.ireturn, 1) := by decide +kernel
theorem dX12_heard_0 : decode cX12_heard 0 = .ok (.aload_n 0, 1) := by decide +kernel
theorem dX12_heard_1 : decode cX12_heard 1 = .ok (.iconst 0, 1) := by decide +kernel
theorem dX12_heard_2 : decode cX12_heard 2 = .ok (.putfield 100, 3) := by decide +kernel
theorem dX12_heard_5 : decode cX12_heard 5 = .ok (.aload_n 0, 1) := by decide +kernel
theorem dX12_heard_6 : decode cX12_heard 6 = .ok (.iload_n 1, 1) := by decide +kernel
theorem dX12_heard_7 : decode cX12_heard 7 = .ok (.invokevirtual 120, 3) := by decide +kernel
theorem dX12_heard_10 : decode cX12_heard 10 = .ok (.ifCond .eq 5, 3) := by decide +kernel
theorem dX12_heard_13 : decode cX12_heard 13 = .ok (.iconst (-1), 1) := by decide +kernel
theorem dX12_heard_14 : decode cX12_heard 14 = .ok (.ireturn, 1) := by decide +kernel
theorem dX12_heard_15 : decode cX12_heard 15 = .ok (.aload_n 0, 1) := by decide +kernel
theorem dX12_heard_16 : decode cX12_heard 16 = .ok (.invokevirtual 124, 3) := by decide +kernel
theorem dX12_heard_19 : decode cX12_heard 19 = .ok (.aload_n 0, 1) := by decide +kernel
theorem dX12_heard_20 : decode cX12_heard 20 = .ok (.iload_n 1, 1) := by decide +kernel
theorem dX12_heard_21 : decode cX12_heard 21 = .ok (.invokevirtual 174, 3) := by decide +kernel
theorem dX12_heard_24 : decode cX12_heard 24 = .ok (.ireturn, 1) := by decide +kernel
theorem dX12_tender_0 : decode cX12_tender 0 = .ok (.aload_n 0, 1) := by decide +kernel
theorem dX12_tender_1 : decode cX12_tender 1 = .ok (.iconst 0, 1) := by decide +kernel
theorem dX12_tender_2 : decode cX12_tender 2 = .ok (.putfield 100, 3) := by decide +kernel
theorem dX12_tender_5 : decode cX12_tender 5 = .ok (.iload_n 1, 1) := by decide +kernel
theorem dX12_tender_6 : decode cX12_tender 6 = .ok (.i2l, 1) := by decide +kernel
theorem dX12_tender_7 : decode cX12_tender 7 = .ok (.lconst 0, 1) := by decide +kernel
theorem dX12_tender_8 : decode cX12_tender 8 = .ok (.lconst 1, 1) := by decide +kernel
theorem dX12_tender_9 : decode cX12_tender 9 = .ok (.invokestatic 103, 3) := by decide +kernel
theorem dX12_tender_12 : decode cX12_tender 12 = .ok (.ifCond .eq 25, 3) := by decide +kernel
theorem dX12_tender_15 : decode cX12_tender 15 = .ok (.iload_n 2, 1) := by decide +kernel
theorem dX12_tender_16 : decode cX12_tender 16 = .ok (.i2l, 1) := by decide +kernel
theorem dX12_tender_17 : decode cX12_tender 17 = .ok (.lconst 0, 1) := by decide +kernel
theorem dX12_tender_18 : decode cX12_tender 18 = .ok (.iload_n 1, 1) := by decide +kernel
theorem dX12_tender_19 : decode cX12_tender 19 = .ok (.ifCond .ne 9, 3) := by decide +kernel
theorem dX12_tender_22 : decode cX12_tender 22 = .ok (.ldc2_w 139, 3) := by decide +kernel
theorem dX12_tender_25 : decode cX12_tender 25 = .ok (.goto 6, 3) := by decide +kernel
theorem dX12_tender_28 : decode cX12_tender 28 = .ok (.ldc2_w 242, 3) := by decide +kernel
theorem dX12_tender_31 : decode cX12_tender 31 = .ok (.invokestatic 103, 3) := by decide +kernel
theorem dX12_tender_34 : decode cX12_tender 34 = .ok (.ifCond .ne 6, 3) := by decide +kernel
theorem dX12_tender_37 : decode cX12_tender 37 = .ok (.bipush (-2), 2) := by decide +kernel
theorem dX12_tender_39 : decode cX12_tender 39 = .ok (.ireturn, 1) := by decide +kernel
theorem dX12_tender_40 : decode cX12_tender 40 = .ok (.iload_n 1, 1) := by decide +kernel
theorem dX12_tender_41 : decode cX12_tender 41 = .ok (.ifCond .ne 10, 3) := by decide +kernel
theorem dX12_tender_44 : decode cX12_tender 44 = .ok (.aload_n 0, 1) := by decide +kernel
theorem dX12_tender_45 : decode cX12_tender 45 = .ok (.getfield 64, 3) := by decide +kernel
theorem dX12_tender_48 : decode cX12_tender 48 = .ok (.goto 7, 3) := by decide +kernel
theorem dX12_tender_51 : decode cX12_tender 51 = .ok (.aload_n 0, 1) := by decide +kernel
theorem dX12_tender_52 : decode cX12_tender 52 = .ok (.getfield 67, 3) := by decide +kernel
theorem dX12_tender_55 : decode cX12_tender 55 = .ok (.istore_n 3, 1) := by decide +kernel
theorem dX12_tender_56 : decode cX12_tender 56 = .ok (.iload_n 1, 1) := by decide +kernel
theorem dX12_tender_57 : decode cX12_tender 57 = .ok (.ifCond .ne 11, 3) := by decide +kernel
theorem dX12_tender_60 : decode cX12_tender 60 = .ok (.aload_n 0, 1) := by decide +kernel
theorem dX12_tender_61 : decode cX12_tender 61 = .ok (.iload_n 2, 1) := by decide +kernel
theorem dX12_tender_62 : decode cX12_tender 62 = .ok (.putfield 64, 3) := by decide +kernel
theorem dX12_tender_65 : decode cX12_tender 65 = .ok (.goto 8, 3) := by decide +kernel
theorem dX12_tender_68 : decode cX12_tender 68 = .ok (.aload_n 0, 1) := by decide +kernel
theorem dX12_tender_69 : decode cX12_tender 69 = .ok (.iload_n 2, 1) := by decide +kernel
theorem dX12_tender_70 : decode cX12_tender 70 = .ok (.putfield 67, 3) := by decide +kernel
theorem dX12_tender_73 : decode cX12_tender 73 = .ok (.iload_n 3, 1) := by decide +kernel
theorem dX12_tender_74 : decode cX12_tender 74 = .ok (.ireturn, 1) := by decide +kernel
theorem dX12_meet_0 : decode cX12_meet 0 = .ok (.iload_n 1, 1) := by decide +kernel
theorem dX12_meet_1 : decode cX12_meet 1 = .ok (.istore 4, 2) := by decide +kernel
theorem dX12_meet_3 : decode cX12_meet 3 = .ok (.iload_n 2, 1) := by decide +kernel
theorem dX12_meet_4 : decode cX12_meet 4 = .ok (.iload_n 3, 1) := by decide +kernel
theorem dX12_meet_5 : decode cX12_meet 5 = .ok (.imul, 1) := by decide +kernel
theorem dX12_meet_6 : decode cX12_meet 6 = .ok (.iconst 1, 1) := by decide +kernel
theorem dX12_meet_7 : decode cX12_meet 7 = .ok (.isub, 1) := by decide +kernel
theorem dX12_meet_8 : decode cX12_meet 8 = .ok (.istore 5, 2) := by decide +kernel
theorem dX12_meet_10 : decode cX12_meet 10 = .ok (.iload 5, 2) := by decide +kernel
theorem dX12_meet_12 : decode cX12_meet 12 = .ok (.ifCond .lt 32, 3) := by decide +kernel
theorem dX12_meet_15 : decode cX12_meet 15 = .ok (.aload_n 0, 1) := by decide +kernel
theorem dX12_meet_16 : decode cX12_meet 16 = .ok (.getfield 73, 3) := by decide +kernel
theorem dX12_meet_19 : decode cX12_meet 19 = .ok (.iload 5, 2) := by decide +kernel
theorem dX12_meet_21 : decode cX12_meet 21 = .ok (.iload 4, 2) := by decide +kernel
theorem dX12_meet_23 : decode cX12_meet 23 = .ok (.aload_n 0, 1) := by decide +kernel
theorem dX12_meet_24 : decode cX12_meet 24 = .ok (.getfield 7, 3) := by decide +kernel
theorem dX12_meet_27 : decode cX12_meet 27 = .ok (.irem, 1) := by decide +kernel
theorem dX12_meet_28 : decode cX12_meet 28 = .ok (.iastore, 1) := by decide +kernel
theorem dX12_meet_29 : decode cX12_meet 29 = .ok (.iload 4, 2) := by decide +kernel
theorem dX12_meet_31 : decode cX12_meet 31 = .ok (.aload_n 0, 1) := by decide +kernel
theorem dX12_meet_32 : decode cX12_meet 32 = .ok (.getfield 7, 3) := by decide +kernel
theorem dX12_meet_35 : decode cX12_meet 35 = .ok (.idiv, 1) := by decide +kernel
theorem dX12_meet_36 : decode cX12_meet 36 = .ok (.istore 4, 2) := by decide +kernel
theorem dX12_meet_38 : decode cX12_meet 38 = .ok (.iinc 5 (-1), 3) := by decide +kernel
theorem dX12_meet_41 : decode cX12_meet 41 = .ok (.goto (-31), 3) := by decide +kernel
theorem dX12_meet_44 : decode cX12_meet 44 = .ok (.iconst 0, 1) := by decide +kernel
theorem dX12_meet_45 : decode cX12_meet 45 = .ok (.istore 5, 2) := by decide +kernel
theorem dX12_meet_47 : decode cX12_meet 47 = .ok (.iload 5, 2) := by decide +kernel
theorem dX12_meet_49 : decode cX12_meet 49 = .ok (.iload_n 2, 1) := by decide +kernel
theorem dX12_meet_50 : decode cX12_meet 50 = .ok (.iload_n 3, 1) := by decide +kernel
theorem dX12_meet_51 : decode cX12_meet 51 = .ok (.imul, 1) := by decide +kernel
theorem dX12_meet_52 : decode cX12_meet 52 = .ok (.if_icmp .ge 48, 3) := by decide +kernel
theorem dX12_meet_55 : decode cX12_meet 55 = .ok (.iload 5, 2) := by decide +kernel
theorem dX12_meet_57 : decode cX12_meet 57 = .ok (.iload_n 3, 1) := by decide +kernel
theorem dX12_meet_58 : decode cX12_meet 58 = .ok (.irem, 1) := by decide +kernel
theorem dX12_meet_59 : decode cX12_meet 59 = .ok (.ifCond .le 35, 3) := by decide +kernel
theorem dX12_meet_62 : decode cX12_meet 62 = .ok (.aload_n 0, 1) := by decide +kernel
theorem dX12_meet_63 : decode cX12_meet 63 = .ok (.getfield 17, 3) := by decide +kernel
theorem dX12_meet_66 : decode cX12_meet 66 = .ok (.bipush 8, 2) := by decide +kernel
theorem dX12_meet_68 : decode cX12_meet 68 = .ok (.aload_n 0, 1) := by decide +kernel
theorem dX12_meet_69 : decode cX12_meet 69 = .ok (.getfield 73, 3) := by decide +kernel
theorem dX12_meet_72 : decode cX12_meet 72 = .ok (.iload 5, 2) := by decide +kernel
theorem dX12_meet_74 : decode cX12_meet 74 = .ok (.iconst 1, 1) := by decide +kernel
theorem dX12_meet_75 : decode cX12_meet 75 = .ok (.isub, 1) := by decide +kernel
theorem dX12_meet_76 : decode cX12_meet 76 = .ok (.iaload, 1) := by decide +kernel
theorem dX12_meet_77 : decode cX12_meet 77 = .ok (.imul, 1) := by decide +kernel
theorem dX12_meet_78 : decode cX12_meet 78 = .ok (.aload_n 0, 1) := by decide +kernel
theorem dX12_meet_79 : decode cX12_meet 79 = .ok (.getfield 73, 3) := by decide +kernel
theorem dX12_meet_82 : decode cX12_meet 82 = .ok (.iload 5, 2) := by decide +kernel
theorem dX12_meet_84 : decode cX12_meet 84 = .ok (.iaload, 1) := by decide +kernel
theorem dX12_meet_85 : decode cX12_meet 85 = .ok (.iadd, 1) := by decide +kernel
theorem dX12_meet_86 : decode cX12_meet 86 = .ok (.iaload, 1) := by decide +kernel
theorem dX12_meet_87 : decode cX12_meet 87 = .ok (.iconst 1, 1) := by decide +kernel
theorem dX12_meet_88 : decode cX12_meet 88 = .ok (.if_icmp .le 6, 3) := by decide +kernel
theorem dX12_meet_91 : decode cX12_meet 91 = .ok (.bipush (-9), 2) := by decide +kernel
theorem dX12_meet_93 : decode cX12_meet 93 = .ok (.ireturn, 1) := by decide +kernel
theorem dX12_meet_94 : decode cX12_meet 94 = .ok (.iinc 5 1, 3) := by decide +kernel
theorem dX12_meet_97 : decode cX12_meet 97 = .ok (.goto (-50), 3) := by decide +kernel
theorem dX12_meet_100 : decode cX12_meet 100 = .ok (.iconst 0, 1) := by decide +kernel
theorem dX12_meet_101 : decode cX12_meet 101 = .ok (.istore 5, 2) := by decide +kernel
theorem dX12_meet_103 : decode cX12_meet 103 = .ok (.iload 5, 2) := by decide +kernel
theorem dX12_meet_105 : decode cX12_meet 105 = .ok (.bipush 8, 2) := by decide +kernel
theorem dX12_meet_107 : decode cX12_meet 107 = .ok (.if_icmp .ge 18, 3) := by decide +kernel
theorem dX12_meet_110 : decode cX12_meet 110 = .ok (.aload_n 0, 1) := by decide +kernel
theorem dX12_meet_111 : decode cX12_meet 111 = .ok (.getfield 76, 3) := by decide +kernel
theorem dX12_meet_114 : decode cX12_meet 114 = .ok (.iload 5, 2) := by decide +kernel
theorem dX12_meet_116 : decode cX12_meet 116 = .ok (.bipush (-9), 2) := by decide +kernel
theorem dX12_meet_118 : decode cX12_meet 118 = .ok (.iastore, 1) := by decide +kernel
theorem dX12_meet_119 : decode cX12_meet 119 = .ok (.iinc 5 1, 3) := by decide +kernel
theorem dX12_meet_122 : decode cX12_meet 122 = .ok (.goto (-19), 3) := by decide +kernel
theorem dX12_meet_125 : decode cX12_meet 125 = .ok (.iconst 0, 1) := by decide +kernel
theorem dX12_meet_126 : decode cX12_meet 126 = .ok (.istore 5, 2) := by decide +kernel
theorem dX12_meet_128 : decode cX12_meet 128 = .ok (.iconst 0, 1) := by decide +kernel
theorem dX12_meet_129 : decode cX12_meet 129 = .ok (.istore 6, 2) := by decide +kernel
theorem dX12_meet_131 : decode cX12_meet 131 = .ok (.iload 6, 2) := by decide +kernel
theorem dX12_meet_133 : decode cX12_meet 133 = .ok (.iload_n 3, 1) := by decide +kernel
theorem dX12_meet_134 : decode cX12_meet 134 = .ok (.if_icmp .ge 173, 3) := by decide +kernel
theorem dX12_meet_137 : decode cX12_meet 137 = .ok (.iconst 0, 1) := by decide +kernel
theorem dX12_meet_138 : decode cX12_meet 138 = .ok (.istore 7, 2) := by decide +kernel
theorem dX12_meet_140 : decode cX12_meet 140 = .ok (.iload 7, 2) := by decide +kernel
theorem dX12_meet_142 : decode cX12_meet 142 = .ok (.iload_n 2, 1) := by decide +kernel
theorem dX12_meet_143 : decode cX12_meet 143 = .ok (.if_icmp .ge 158, 3) := by decide +kernel
theorem dX12_meet_146 : decode cX12_meet 146 = .ok (.aload_n 0, 1) := by decide +kernel
theorem dX12_meet_147 : decode cX12_meet 147 = .ok (.getfield 73, 3) := by decide +kernel
theorem dX12_meet_150 : decode cX12_meet 150 = .ok (.iload 7, 2) := by decide +kernel
theorem dX12_meet_152 : decode cX12_meet 152 = .ok (.iload_n 3, 1) := by decide +kernel
theorem dX12_meet_153 : decode cX12_meet 153 = .ok (.imul, 1) := by decide +kernel
theorem dX12_meet_154 : decode cX12_meet 154 = .ok (.iload 6, 2) := by decide +kernel
theorem dX12_meet_156 : decode cX12_meet 156 = .ok (.iadd, 1) := by decide +kernel
theorem dX12_meet_157 : decode cX12_meet 157 = .ok (.iaload, 1) := by decide +kernel
theorem dX12_meet_158 : decode cX12_meet 158 = .ok (.istore 8, 2) := by decide +kernel
theorem dX12_meet_160 : decode cX12_meet 160 = .ok (.aload_n 0, 1) := by decide +kernel
theorem dX12_meet_161 : decode cX12_meet 161 = .ok (.getfield 70, 3) := by decide +kernel
theorem dX12_meet_164 : decode cX12_meet 164 = .ok (.iload 8, 2) := by decide +kernel
theorem dX12_meet_166 : decode cX12_meet 166 = .ok (.iaload, 1) := by decide +kernel
theorem dX12_meet_167 : decode cX12_meet 167 = .ok (.ifCond .le 19, 3) := by decide +kernel
theorem dX12_meet_170 : decode cX12_meet 170 = .ok (.aload_n 0, 1) := by decide +kernel
theorem dX12_meet_171 : decode cX12_meet 171 = .ok (.getfield 76, 3) := by decide +kernel
theorem dX12_meet_174 : decode cX12_meet 174 = .ok (.iload 8, 2) := by decide +kernel
theorem dX12_meet_176 : decode cX12_meet 176 = .ok (.iaload, 1) := by decide +kernel
theorem dX12_meet_177 : decode cX12_meet 177 = .ok (.bipush (-9), 2) := by decide +kernel
theorem dX12_meet_179 : decode cX12_meet 179 = .ok (.if_icmp .ne 7, 3) := by decide +kernel
theorem dX12_meet_182 : decode cX12_meet 182 = .ok (.iconst 1, 1) := by decide +kernel
theorem dX12_meet_183 : decode cX12_meet 183 = .ok (.goto 4, 3) := by decide +kernel
theorem dX12_meet_186 : decode cX12_meet 186 = .ok (.iconst 0, 1) := by decide +kernel
theorem dX12_meet_187 : decode cX12_meet 187 = .ok (.istore 9, 2) := by decide +kernel
theorem dX12_meet_189 : decode cX12_meet 189 = .ok (.iconst 0, 1) := by decide +kernel
theorem dX12_meet_190 : decode cX12_meet 190 = .ok (.istore 10, 2) := by decide +kernel
theorem dX12_meet_192 : decode cX12_meet 192 = .ok (.iload 10, 2) := by decide +kernel
theorem dX12_meet_194 : decode cX12_meet 194 = .ok (.aload_n 0, 1) := by decide +kernel
theorem dX12_meet_195 : decode cX12_meet 195 = .ok (.getfield 7, 3) := by decide +kernel
theorem dX12_meet_198 : decode cX12_meet 198 = .ok (.if_icmp .ge 71, 3) := by decide +kernel
theorem dX12_meet_201 : decode cX12_meet 201 = .ok (.iload 9, 2) := by decide +kernel
theorem dX12_meet_203 : decode cX12_meet 203 = .ok (.ifCond .eq 57, 3) := by decide +kernel
theorem dX12_meet_206 : decode cX12_meet 206 = .ok (.aload_n 0, 1) := by decide +kernel
theorem dX12_meet_207 : decode cX12_meet 207 = .ok (.getfield 76, 3) := by decide +kernel
theorem dX12_meet_210 : decode cX12_meet 210 = .ok (.iload 10, 2) := by decide +kernel
theorem dX12_meet_212 : decode cX12_meet 212 = .ok (.iaload, 1) := by decide +kernel
theorem dX12_meet_213 : decode cX12_meet 213 = .ok (.bipush (-9), 2) := by decide +kernel
theorem dX12_meet_215 : decode cX12_meet 215 = .ok (.if_icmp .eq 41, 3) := by decide +kernel
theorem dX12_meet_218 : decode cX12_meet 218 = .ok (.aload_n 0, 1) := by decide +kernel
theorem dX12_meet_219 : decode cX12_meet 219 = .ok (.getfield 76, 3) := by decide +kernel
theorem dX12_meet_222 : decode cX12_meet 222 = .ok (.iload 10, 2) := by decide +kernel
theorem dX12_meet_224 : decode cX12_meet 224 = .ok (.iaload, 1) := by decide +kernel
theorem dX12_meet_225 : decode cX12_meet 225 = .ok (.iload 6, 2) := by decide +kernel
theorem dX12_meet_227 : decode cX12_meet 227 = .ok (.if_icmp .eq 29, 3) := by decide +kernel
theorem dX12_meet_230 : decode cX12_meet 230 = .ok (.iload 6, 2) := by decide +kernel
theorem dX12_meet_232 : decode cX12_meet 232 = .ok (.aload_n 0, 1) := by decide +kernel
theorem dX12_meet_233 : decode cX12_meet 233 = .ok (.getfield 76, 3) := by decide +kernel
theorem dX12_meet_236 : decode cX12_meet 236 = .ok (.iload 10, 2) := by decide +kernel
theorem dX12_meet_238 : decode cX12_meet 238 = .ok (.iaload, 1) := by decide +kernel
theorem dX12_meet_239 : decode cX12_meet 239 = .ok (.isub, 1) := by decide +kernel
theorem dX12_meet_240 : decode cX12_meet 240 = .ok (.aload_n 0, 1) := by decide +kernel
theorem dX12_meet_241 : decode cX12_meet 241 = .ok (.getfield 17, 3) := by decide +kernel
theorem dX12_meet_244 : decode cX12_meet 244 = .ok (.bipush 8, 2) := by decide +kernel
theorem dX12_meet_246 : decode cX12_meet 246 = .ok (.iload 10, 2) := by decide +kernel
theorem dX12_meet_248 : decode cX12_meet 248 = .ok (.imul, 1) := by decide +kernel
theorem dX12_meet_249 : decode cX12_meet 249 = .ok (.iload 8, 2) := by decide +kernel
theorem dX12_meet_251 : decode cX12_meet 251 = .ok (.iadd, 1) := by decide +kernel
theorem dX12_meet_252 : decode cX12_meet 252 = .ok (.iaload, 1) := by decide +kernel
theorem dX12_meet_253 : decode cX12_meet 253 = .ok (.if_icmp .ge 7, 3) := by decide +kernel
theorem dX12_meet_256 : decode cX12_meet 256 = .ok (.iconst 1, 1) := by decide +kernel
theorem dX12_meet_257 : decode cX12_meet 257 = .ok (.goto 4, 3) := by decide +kernel
theorem dX12_meet_260 : decode cX12_meet 260 = .ok (.iconst 0, 1) := by decide +kernel
theorem dX12_meet_261 : decode cX12_meet 261 = .ok (.istore 9, 2) := by decide +kernel
theorem dX12_meet_263 : decode cX12_meet 263 = .ok (.iinc 10 1, 3) := by decide +kernel
theorem dX12_meet_266 : decode cX12_meet 266 = .ok (.goto (-74), 3) := by decide +kernel
theorem dX12_meet_269 : decode cX12_meet 269 = .ok (.iload 9, 2) := by decide +kernel
theorem dX12_meet_271 : decode cX12_meet 271 = .ok (.ifCond .eq 24, 3) := by decide +kernel
theorem dX12_meet_274 : decode cX12_meet 274 = .ok (.aload_n 0, 1) := by decide +kernel
theorem dX12_meet_275 : decode cX12_meet 275 = .ok (.getfield 76, 3) := by decide +kernel
theorem dX12_meet_278 : decode cX12_meet 278 = .ok (.iload 8, 2) := by decide +kernel
theorem dX12_meet_280 : decode cX12_meet 280 = .ok (.iload 6, 2) := by decide +kernel
theorem dX12_meet_282 : decode cX12_meet 282 = .ok (.iastore, 1) := by decide +kernel
theorem dX12_meet_283 : decode cX12_meet 283 = .ok (.iload 5, 2) := by decide +kernel
theorem dX12_meet_285 : decode cX12_meet 285 = .ok (.aload_n 0, 1) := by decide +kernel
theorem dX12_meet_286 : decode cX12_meet 286 = .ok (.getfield 70, 3) := by decide +kernel
theorem dX12_meet_289 : decode cX12_meet 289 = .ok (.iload 8, 2) := by decide +kernel
theorem dX12_meet_291 : decode cX12_meet 291 = .ok (.iaload, 1) := by decide +kernel
theorem dX12_meet_292 : decode cX12_meet 292 = .ok (.iadd, 1) := by decide +kernel
theorem dX12_meet_293 : decode cX12_meet 293 = .ok (.istore 5, 2) := by decide +kernel
theorem dX12_meet_295 : decode cX12_meet 295 = .ok (.iinc 7 1, 3) := by decide +kernel
theorem dX12_meet_298 : decode cX12_meet 298 = .ok (.goto (-158), 3) := by decide +kernel
theorem dX12_meet_301 : decode cX12_meet 301 = .ok (.iinc 6 1, 3) := by decide +kernel
theorem dX12_meet_304 : decode cX12_meet 304 = .ok (.goto (-173), 3) := by decide +kernel
theorem dX12_meet_307 : decode cX12_meet 307 = .ok (.iload 5, 2) := by decide +kernel
theorem dX12_meet_309 : decode cX12_meet 309 = .ok (.ireturn, 1) := by decide +kernel
theorem dX12_look_0 : decode cX12_look 0 = .ok (.aload_n 0, 1) := by decide +kernel
theorem dX12_look_1 : decode cX12_look 1 = .ok (.invokevirtual 124, 3) := by decide +kernel
theorem dX12_look_4 : decode cX12_look 4 = .ok (.iconst 0, 1) := by decide +kernel
theorem dX12_look_5 : decode cX12_look 5 = .ok (.istore_n 3, 1) := by decide +kernel
theorem dX12_look_6 : decode cX12_look 6 = .ok (.iload_n 3, 1) := by decide +kernel
theorem dX12_look_7 : decode cX12_look 7 = .ok (.bipush 8, 2) := by decide +kernel
theorem dX12_look_9 : decode cX12_look 9 = .ok (.if_icmp .ge 16, 3) := by decide +kernel
theorem dX12_look_12 : decode cX12_look 12 = .ok (.aload_n 0, 1) := by decide +kernel
theorem dX12_look_13 : decode cX12_look 13 = .ok (.getfield 70, 3) := by decide +kernel
theorem dX12_look_16 : decode cX12_look 16 = .ok (.iload_n 3, 1) := by decide +kernel
theorem dX12_look_17 : decode cX12_look 17 = .ok (.iconst 0, 1) := by decide +kernel
theorem dX12_look_18 : decode cX12_look 18 = .ok (.iastore, 1) := by decide +kernel
theorem dX12_look_19 : decode cX12_look 19 = .ok (.iinc 3 1, 3) := by decide +kernel
theorem dX12_look_22 : decode cX12_look 22 = .ok (.goto (-16), 3) := by decide +kernel
theorem dX12_look_25 : decode cX12_look 25 = .ok (.iconst 0, 1) := by decide +kernel
theorem dX12_look_26 : decode cX12_look 26 = .ok (.istore_n 3, 1) := by decide +kernel
theorem dX12_look_27 : decode cX12_look 27 = .ok (.iload_n 3, 1) := by decide +kernel
theorem dX12_look_28 : decode cX12_look 28 = .ok (.aload_n 0, 1) := by decide +kernel
theorem dX12_look_29 : decode cX12_look 29 = .ok (.getfield 107, 3) := by decide +kernel
theorem dX12_look_32 : decode cX12_look 32 = .ok (.if_icmp .ge 42, 3) := by decide +kernel
theorem dX12_look_35 : decode cX12_look 35 = .ok (.aload_n 0, 1) := by decide +kernel
theorem dX12_look_36 : decode cX12_look 36 = .ok (.iload_n 3, 1) := by decide +kernel
theorem dX12_look_37 : decode cX12_look 37 = .ok (.invokevirtual 154, 3) := by decide +kernel
theorem dX12_look_40 : decode cX12_look 40 = .ok (.invokestatic 171, 3) := by decide +kernel
theorem dX12_look_43 : decode cX12_look 43 = .ok (.ifCond .eq 25, 3) := by decide +kernel
theorem dX12_look_46 : decode cX12_look 46 = .ok (.aload_n 0, 1) := by decide +kernel
theorem dX12_look_47 : decode cX12_look 47 = .ok (.iload_n 3, 1) := by decide +kernel
theorem dX12_look_48 : decode cX12_look 48 = .ok (.invokevirtual 233, 3) := by decide +kernel
theorem dX12_look_51 : decode cX12_look 51 = .ok (.ifCond .eq 17, 3) := by decide +kernel
theorem dX12_look_54 : decode cX12_look 54 = .ok (.aload_n 0, 1) := by decide +kernel
theorem dX12_look_55 : decode cX12_look 55 = .ok (.getfield 70, 3) := by decide +kernel
theorem dX12_look_58 : decode cX12_look 58 = .ok (.aload_n 0, 1) := by decide +kernel
theorem dX12_look_59 : decode cX12_look 59 = .ok (.iload_n 3, 1) := by decide +kernel
theorem dX12_look_60 : decode cX12_look 60 = .ok (.invokevirtual 154, 3) := by decide +kernel
theorem dX12_look_63 : decode cX12_look 63 = .ok (.dup2, 1) := by decide +kernel
theorem dX12_look_64 : decode cX12_look 64 = .ok (.iaload, 1) := by decide +kernel
theorem dX12_look_65 : decode cX12_look 65 = .ok (.iconst 1, 1) := by decide +kernel
theorem dX12_look_66 : decode cX12_look 66 = .ok (.iadd, 1) := by decide +kernel
theorem dX12_look_67 : decode cX12_look 67 = .ok (.iastore, 1) := by decide +kernel
theorem dX12_look_68 : decode cX12_look 68 = .ok (.iinc 3 1, 3) := by decide +kernel
theorem dX12_look_71 : decode cX12_look 71 = .ok (.goto (-44), 3) := by decide +kernel
theorem dX12_look_74 : decode cX12_look 74 = .ok (.iconst 1, 1) := by decide +kernel
theorem dX12_look_75 : decode cX12_look 75 = .ok (.istore_n 3, 1) := by decide +kernel
theorem dX12_look_76 : decode cX12_look 76 = .ok (.iconst 0, 1) := by decide +kernel
theorem dX12_look_77 : decode cX12_look 77 = .ok (.istore 4, 2) := by decide +kernel
theorem dX12_look_79 : decode cX12_look 79 = .ok (.iload 4, 2) := by decide +kernel
theorem dX12_look_81 : decode cX12_look 81 = .ok (.iload_n 1, 1) := by decide +kernel
theorem dX12_look_82 : decode cX12_look 82 = .ok (.iload_n 2, 1) := by decide +kernel
theorem dX12_look_83 : decode cX12_look 83 = .ok (.imul, 1) := by decide +kernel
theorem dX12_look_84 : decode cX12_look 84 = .ok (.if_icmp .ge 16, 3) := by decide +kernel
theorem dX12_look_87 : decode cX12_look 87 = .ok (.iload_n 3, 1) := by decide +kernel
theorem dX12_look_88 : decode cX12_look 88 = .ok (.aload_n 0, 1) := by decide +kernel
theorem dX12_look_89 : decode cX12_look 89 = .ok (.getfield 7, 3) := by decide +kernel
theorem dX12_look_92 : decode cX12_look 92 = .ok (.imul, 1) := by decide +kernel
theorem dX12_look_93 : decode cX12_look 93 = .ok (.istore_n 3, 1) := by decide +kernel
theorem dX12_look_94 : decode cX12_look 94 = .ok (.iinc 4 1, 3) := by decide +kernel
theorem dX12_look_97 : decode cX12_look 97 = .ok (.goto (-18), 3) := by decide +kernel
theorem dX12_look_100 : decode cX12_look 100 = .ok (.bipush (-9), 2) := by decide +kernel
theorem dX12_look_102 : decode cX12_look 102 = .ok (.istore 4, 2) := by decide +kernel
theorem dX12_look_104 : decode cX12_look 104 = .ok (.iconst 0, 1) := by decide +kernel
theorem dX12_look_105 : decode cX12_look 105 = .ok (.istore 5, 2) := by decide +kernel
theorem dX12_look_107 : decode cX12_look 107 = .ok (.iload 5, 2) := by decide +kernel
theorem dX12_look_109 : decode cX12_look 109 = .ok (.iload_n 3, 1) := by decide +kernel
theorem dX12_look_110 : decode cX12_look 110 = .ok (.if_icmp .ge 36, 3) := by decide +kernel
theorem dX12_look_113 : decode cX12_look 113 = .ok (.aload_n 0, 1) := by decide +kernel
theorem dX12_look_114 : decode cX12_look 114 = .ok (.iload 5, 2) := by decide +kernel
theorem dX12_look_116 : decode cX12_look 116 = .ok (.iload_n 1, 1) := by decide +kernel
theorem dX12_look_117 : decode cX12_look 117 = .ok (.iload_n 2, 1) := by decide +kernel
theorem dX12_look_118 : decode cX12_look 118 = .ok (.invokevirtual 244, 3) := by decide +kernel
theorem dX12_look_121 : decode cX12_look 121 = .ok (.istore 6, 2) := by decide +kernel
theorem dX12_look_123 : decode cX12_look 123 = .ok (.iload 6, 2) := by decide +kernel
theorem dX12_look_125 : decode cX12_look 125 = .ok (.iload 4, 2) := by decide +kernel
theorem dX12_look_127 : decode cX12_look 127 = .ok (.if_icmp .le 13, 3) := by decide +kernel
theorem dX12_look_130 : decode cX12_look 130 = .ok (.iload 6, 2) := by decide +kernel
theorem dX12_look_132 : decode cX12_look 132 = .ok (.istore 4, 2) := by decide +kernel
theorem dX12_look_134 : decode cX12_look 134 = .ok (.aload_n 0, 1) := by decide +kernel
theorem dX12_look_135 : decode cX12_look 135 = .ok (.iload 5, 2) := by decide +kernel
theorem dX12_look_137 : decode cX12_look 137 = .ok (.putfield 247, 3) := by decide +kernel
theorem dX12_look_140 : decode cX12_look 140 = .ok (.iinc 5 1, 3) := by decide +kernel
theorem dX12_look_143 : decode cX12_look 143 = .ok (.goto (-36), 3) := by decide +kernel
theorem dX12_look_146 : decode cX12_look 146 = .ok (.iload 4, 2) := by decide +kernel
theorem dX12_look_148 : decode cX12_look 148 = .ok (.ireturn, 1) := by decide +kernel
theorem dX12_badGangs_0 : decode cX12_badGangs 0 = .ok (.iload_n 0, 1) := by decide +kernel
theorem dX12_badGangs_1 : decode cX12_badGangs 1 = .ok (.i2l, 1) := by decide +kernel
theorem dX12_badGangs_2 : decode cX12_badGangs 2 = .ok (.lconst 1, 1) := by decide +kernel
theorem dX12_badGangs_3 : decode cX12_badGangs 3 = .ok (.ldc2_w 250, 3) := by decide +kernel
theorem dX12_badGangs_6 : decode cX12_badGangs 6 = .ok (.invokestatic 103, 3) := by decide +kernel
theorem dX12_badGangs_9 : decode cX12_badGangs 9 = .ok (.ifCond .eq 15, 3) := by decide +kernel
theorem dX12_badGangs_12 : decode cX12_badGangs 12 = .ok (.iload_n 1, 1) := by decide +kernel
theorem dX12_badGangs_13 : decode cX12_badGangs 13 = .ok (.i2l, 1) := by decide +kernel
theorem dX12_badGangs_14 : decode cX12_badGangs 14 = .ok (.lconst 1, 1) := by decide +kernel
theorem dX12_badGangs_15 : decode cX12_badGangs 15 = .ok (.ldc2_w 131, 3) := by decide +kernel
theorem dX12_badGangs_18 : decode cX12_badGangs 18 = .ok (.invokestatic 103, 3) := by decide +kernel
theorem dX12_badGangs_21 : decode cX12_badGangs 21 = .ok (.ifCond .ne 7, 3) := by decide +kernel
theorem dX12_badGangs_24 : decode cX12_badGangs 24 = .ok (.iconst 1, 1) := by decide +kernel
theorem dX12_badGangs_25 : decode cX12_badGangs 25 = .ok (.goto 4, 3) := by decide +kernel
theorem dX12_badGangs_28 : decode cX12_badGangs 28 = .ok (.iconst 0, 1) := by decide +kernel
theorem dX12_badGangs_29 : decode cX12_badGangs 29 = .ok (.ireturn, 1) := by decide +kernel
theorem dX12_met_0 : decode cX12_met 0 = .ok (.aload_n 0, 1) := by decide +kernel
theorem dX12_met_1 : decode cX12_met 1 = .ok (.iconst 0, 1) := by decide +kernel
theorem dX12_met_2 : decode cX12_met 2 = .ok (.putfield 100, 3) := by decide +kernel
theorem dX12_met_5 : decode cX12_met 5 = .ok (.iload_n 1, 1) := by decide +kernel
theorem dX12_met_6 : decode cX12_met 6 = .ok (.iload_n 2, 1) := by decide +kernel
theorem dX12_met_7 : decode cX12_met 7 = .ok (.invokestatic 252, 3) := by decide +kernel
theorem dX12_met_10 : decode cX12_met 10 = .ok (.ifCond .eq 8, 3) := by decide +kernel
theorem dX12_met_13 : decode cX12_met 13 = .ok (.bipush (-2), 2) := by decide +kernel
theorem dX12_met_15 : decode cX12_met 15 = .ok (.goto 9, 3) := by decide +kernel
theorem dX12_met_18 : decode cX12_met 18 = .ok (.aload_n 0, 1) := by decide +kernel
theorem dX12_met_19 : decode cX12_met 19 = .ok (.iload_n 1, 1) := by decide +kernel
theorem dX12_met_20 : decode cX12_met 20 = .ok (.iload_n 2, 1) := by decide +kernel
theorem dX12_met_21 : decode cX12_met 21 = .ok (.invokevirtual 255, 3) := by decide +kernel
theorem dX12_met_24 : decode cX12_met 24 = .ok (.ireturn, 1) := by decide +kernel
theorem dX12_laid_0 : decode cX12_laid 0 = .ok (.aload_n 0, 1) := by decide +kernel
theorem dX12_laid_1 : decode cX12_laid 1 = .ok (.iconst 0, 1) := by decide +kernel
theorem dX12_laid_2 : decode cX12_laid 2 = .ok (.putfield 100, 3) := by decide +kernel
theorem dX12_laid_5 : decode cX12_laid 5 = .ok (.iload_n 1, 1) := by decide +kernel
theorem dX12_laid_6 : decode cX12_laid 6 = .ok (.iload_n 2, 1) := by decide +kernel
theorem dX12_laid_7 : decode cX12_laid 7 = .ok (.invokestatic 252, 3) := by decide +kernel
theorem dX12_laid_10 : decode cX12_laid 10 = .ok (.ifCond .ne 30, 3) := by decide +kernel
theorem dX12_laid_13 : decode cX12_laid 13 = .ok (.iload_n 3, 1) := by decide +kernel
theorem dX12_laid_14 : decode cX12_laid 14 = .ok (.i2l, 1) := by decide +kernel
theorem dX12_laid_15 : decode cX12_laid 15 = .ok (.lconst 0, 1) := by decide +kernel
theorem dX12_laid_16 : decode cX12_laid 16 = .ok (.iload_n 1, 1) := by decide +kernel
theorem dX12_laid_17 : decode cX12_laid 17 = .ok (.iconst 1, 1) := by decide +kernel
theorem dX12_laid_18 : decode cX12_laid 18 = .ok (.isub, 1) := by decide +kernel
theorem dX12_laid_19 : decode cX12_laid 19 = .ok (.i2l, 1) := by decide +kernel
theorem dX12_laid_20 : decode cX12_laid 20 = .ok (.invokestatic 103, 3) := by decide +kernel
theorem dX12_laid_23 : decode cX12_laid 23 = .ok (.ifCond .eq 17, 3) := by decide +kernel
theorem dX12_laid_26 : decode cX12_laid 26 = .ok (.iload 4, 2) := by decide +kernel
theorem dX12_laid_28 : decode cX12_laid 28 = .ok (.i2l, 1) := by decide +kernel
theorem dX12_laid_29 : decode cX12_laid 29 = .ok (.lconst 0, 1) := by decide +kernel
theorem dX12_laid_30 : decode cX12_laid 30 = .ok (.iload_n 2, 1) := by decide +kernel
theorem dX12_laid_31 : decode cX12_laid 31 = .ok (.iconst 1, 1) := by decide +kernel
theorem dX12_laid_32 : decode cX12_laid 32 = .ok (.isub, 1) := by decide +kernel
theorem dX12_laid_33 : decode cX12_laid 33 = .ok (.i2l, 1) := by decide +kernel
theorem dX12_laid_34 : decode cX12_laid 34 = .ok (.invokestatic 103, 3) := by decide +kernel
theorem dX12_laid_37 : decode cX12_laid 37 = .ok (.ifCond .ne 6, 3) := by decide +kernel
theorem dX12_laid_40 : decode cX12_laid 40 = .ok (.bipush (-2), 2) := by decide +kernel
theorem dX12_laid_42 : decode cX12_laid 42 = .ok (.ireturn, 1) := by decide +kernel
theorem dX12_laid_43 : decode cX12_laid 43 = .ok (.aload_n 0, 1) := by decide +kernel
theorem dX12_laid_44 : decode cX12_laid 44 = .ok (.iload_n 1, 1) := by decide +kernel
theorem dX12_laid_45 : decode cX12_laid 45 = .ok (.iload_n 2, 1) := by decide +kernel
theorem dX12_laid_46 : decode cX12_laid 46 = .ok (.invokevirtual 255, 3) := by decide +kernel
theorem dX12_laid_49 : decode cX12_laid 49 = .ok (.pop, 1) := by decide +kernel
theorem dX12_laid_50 : decode cX12_laid 50 = .ok (.aload_n 0, 1) := by decide +kernel
theorem dX12_laid_51 : decode cX12_laid 51 = .ok (.aload_n 0, 1) := by decide +kernel
theorem dX12_laid_52 : decode cX12_laid 52 = .ok (.getfield 247, 3) := by decide +kernel
theorem dX12_laid_55 : decode cX12_laid 55 = .ok (.iload_n 1, 1) := by decide +kernel
theorem dX12_laid_56 : decode cX12_laid 56 = .ok (.iload_n 2, 1) := by decide +kernel
theorem dX12_laid_57 : decode cX12_laid 57 = .ok (.invokevirtual 244, 3) := by decide +kernel
theorem dX12_laid_60 : decode cX12_laid 60 = .ok (.pop, 1) := by decide +kernel
theorem dX12_laid_61 : decode cX12_laid 61 = .ok (.aload_n 0, 1) := by decide +kernel
theorem dX12_laid_62 : decode cX12_laid 62 = .ok (.getfield 73, 3) := by decide +kernel
theorem dX12_laid_65 : decode cX12_laid 65 = .ok (.iload_n 3, 1) := by decide +kernel
theorem dX12_laid_66 : decode cX12_laid 66 = .ok (.iload_n 2, 1) := by decide +kernel
theorem dX12_laid_67 : decode cX12_laid 67 = .ok (.imul, 1) := by decide +kernel
theorem dX12_laid_68 : decode cX12_laid 68 = .ok (.iload 4, 2) := by decide +kernel
theorem dX12_laid_70 : decode cX12_laid 70 = .ok (.iadd, 1) := by decide +kernel
theorem dX12_laid_71 : decode cX12_laid 71 = .ok (.iaload, 1) := by decide +kernel
theorem dX12_laid_72 : decode cX12_laid 72 = .ok (.ireturn, 1) := by decide +kernel
theorem dX12_ship_0 : decode cX12_ship 0 = .ok (.aload_n 0, 1) := by decide +kernel
theorem dX12_ship_1 : decode cX12_ship 1 = .ok (.iconst 0, 1) := by decide +kernel
theorem dX12_ship_2 : decode cX12_ship 2 = .ok (.putfield 100, 3) := by decide +kernel
theorem dX12_ship_5 : decode cX12_ship 5 = .ok (.iload_n 1, 1) := by decide +kernel
theorem dX12_ship_6 : decode cX12_ship 6 = .ok (.i2l, 1) := by decide +kernel
theorem dX12_ship_7 : decode cX12_ship 7 = .ok (.lconst 0, 1) := by decide +kernel
theorem dX12_ship_8 : decode cX12_ship 8 = .ok (.lconst 1, 1) := by decide +kernel
theorem dX12_ship_9 : decode cX12_ship 9 = .ok (.invokestatic 103, 3) := by decide +kernel
theorem dX12_ship_12 : decode cX12_ship 12 = .ok (.ifCond .eq 39, 3) := by decide +kernel
theorem dX12_ship_15 : decode cX12_ship 15 = .ok (.iload_n 2, 1) := by decide +kernel
theorem dX12_ship_16 : decode cX12_ship 16 = .ok (.i2l, 1) := by decide +kernel
theorem dX12_ship_17 : decode cX12_ship 17 = .ok (.lconst 1, 1) := by decide +kernel
theorem dX12_ship_18 : decode cX12_ship 18 = .ok (.ldc2_w 158, 3) := by decide +kernel
theorem dX12_ship_21 : decode cX12_ship 21 = .ok (.invokestatic 103, 3) := by decide +kernel
theorem dX12_ship_24 : decode cX12_ship 24 = .ok (.ifCond .eq 27, 3) := by decide +kernel
theorem dX12_ship_27 : decode cX12_ship 27 = .ok (.iload_n 3, 1) := by decide +kernel
theorem dX12_ship_28 : decode cX12_ship 28 = .ok (.i2l, 1) := by decide +kernel
theorem dX12_ship_29 : decode cX12_ship 29 = .ok (.lconst 0, 1) := by decide +kernel
theorem dX12_ship_30 : decode cX12_ship 30 = .ok (.iload_n 2, 1) := by decide +kernel
theorem dX12_ship_31 : decode cX12_ship 31 = .ok (.i2l, 1) := by decide +kernel
theorem dX12_ship_32 : decode cX12_ship 32 = .ok (.invokestatic 103, 3) := by decide +kernel
theorem dX12_ship_35 : decode cX12_ship 35 = .ok (.ifCond .eq 16, 3) := by decide +kernel
theorem dX12_ship_38 : decode cX12_ship 38 = .ok (.iload 4, 2) := by decide +kernel
theorem dX12_ship_40 : decode cX12_ship 40 = .ok (.i2l, 1) := by decide +kernel
theorem dX12_ship_41 : decode cX12_ship 41 = .ok (.lconst 0, 1) := by decide +kernel
theorem dX12_ship_42 : decode cX12_ship 42 = .ok (.ldc2_w 158, 3) := by decide +kernel
theorem dX12_ship_45 : decode cX12_ship 45 = .ok (.invokestatic 103, 3) := by decide +kernel
theorem dX12_ship_48 : decode cX12_ship 48 = .ok (.ifCond .ne 6, 3) := by decide +kernel
theorem dX12_ship_51 : decode cX12_ship 51 = .ok (.bipush (-2), 2) := by decide +kernel
theorem dX12_ship_53 : decode cX12_ship 53 = .ok (.ireturn, 1) := by decide +kernel
theorem dX12_ship_54 : decode cX12_ship 54 = .ok (.aload_n 0, 1) := by decide +kernel
theorem dX12_ship_55 : decode cX12_ship 55 = .ok (.getfield 110, 3) := by decide +kernel
theorem dX12_ship_58 : decode cX12_ship 58 = .ok (.bipush 10, 2) := by decide +kernel
theorem dX12_ship_60 : decode cX12_ship 60 = .ok (.if_icmp .ne 6, 3) := by decide +kernel
theorem dX12_ship_63 : decode cX12_ship 63 = .ok (.bipush (-4), 2) := by decide +kernel
theorem dX12_ship_65 : decode cX12_ship 65 = .ok (.ireturn, 1) := by decide +kernel
theorem dX12_ship_66 : decode cX12_ship 66 = .ok (.aload_n 0, 1) := by decide +kernel
theorem dX12_ship_67 : decode cX12_ship 67 = .ok (.getfield 31, 3) := by decide +kernel
theorem dX12_ship_70 : decode cX12_ship 70 = .ok (.aload_n 0, 1) := by decide +kernel
theorem dX12_ship_71 : decode cX12_ship 71 = .ok (.getfield 110, 3) := by decide +kernel
theorem dX12_ship_74 : decode cX12_ship 74 = .ok (.iload_n 1, 1) := by decide +kernel
theorem dX12_ship_75 : decode cX12_ship 75 = .ok (.iastore, 1) := by decide +kernel
theorem dX12_ship_76 : decode cX12_ship 76 = .ok (.aload_n 0, 1) := by decide +kernel
theorem dX12_ship_77 : decode cX12_ship 77 = .ok (.getfield 34, 3) := by decide +kernel
theorem dX12_ship_80 : decode cX12_ship 80 = .ok (.aload_n 0, 1) := by decide +kernel
theorem dX12_ship_81 : decode cX12_ship 81 = .ok (.getfield 110, 3) := by decide +kernel
theorem dX12_ship_84 : decode cX12_ship 84 = .ok (.iload_n 2, 1) := by decide +kernel
theorem dX12_ship_85 : decode cX12_ship 85 = .ok (.iastore, 1) := by decide +kernel
theorem dX12_ship_86 : decode cX12_ship 86 = .ok (.aload_n 0, 1) := by decide +kernel
theorem dX12_ship_87 : decode cX12_ship 87 = .ok (.getfield 37, 3) := by decide +kernel
theorem dX12_ship_90 : decode cX12_ship 90 = .ok (.aload_n 0, 1) := by decide +kernel
theorem dX12_ship_91 : decode cX12_ship 91 = .ok (.getfield 110, 3) := by decide +kernel
theorem dX12_ship_94 : decode cX12_ship 94 = .ok (.iload_n 3, 1) := by decide +kernel
theorem dX12_ship_95 : decode cX12_ship 95 = .ok (.iastore, 1) := by decide +kernel
theorem dX12_ship_96 : decode cX12_ship 96 = .ok (.aload_n 0, 1) := by decide +kernel
theorem dX12_ship_97 : decode cX12_ship 97 = .ok (.getfield 40, 3) := by decide +kernel
theorem dX12_ship_100 : decode cX12_ship 100 = .ok (.aload_n 0, 1) := by decide +kernel
theorem dX12_ship_101 : decode cX12_ship 101 = .ok (.getfield 110, 3) := by decide +kernel
theorem dX12_ship_104 : decode cX12_ship 104 = .ok (.iload 4, 2) := by decide +kernel
theorem dX12_ship_106 : decode cX12_ship 106 = .ok (.iastore, 1) := by decide +kernel
theorem dX12_ship_107 : decode cX12_ship 107 = .ok (.aload_n 0, 1) := by decide +kernel
theorem dX12_ship_108 : decode cX12_ship 108 = .ok (.dup, 1) := by decide +kernel
theorem dX12_ship_109 : decode cX12_ship 109 = .ok (.getfield 110, 3) := by decide +kernel
theorem dX12_ship_112 : decode cX12_ship 112 = .ok (.iconst 1, 1) := by decide +kernel
theorem dX12_ship_113 : decode cX12_ship 113 = .ok (.iadd, 1) := by decide +kernel
theorem dX12_ship_114 : decode cX12_ship 114 = .ok (.putfield 110, 3) := by decide +kernel
theorem dX12_ship_117 : decode cX12_ship 117 = .ok (.aload_n 0, 1) := by decide +kernel
theorem dX12_ship_118 : decode cX12_ship 118 = .ok (.getfield 110, 3) := by decide +kernel
theorem dX12_ship_121 : decode cX12_ship 121 = .ok (.iconst 1, 1) := by decide +kernel
theorem dX12_ship_122 : decode cX12_ship 122 = .ok (.isub, 1) := by decide +kernel
theorem dX12_ship_123 : decode cX12_ship 123 = .ok (.ireturn, 1) := by decide +kernel
theorem dX12_of_0 : decode cX12_of 0 = .ok (.aload_n 0, 1) := by decide +kernel
theorem dX12_of_1 : decode cX12_of 1 = .ok (.iconst 0, 1) := by decide +kernel
theorem dX12_of_2 : decode cX12_of 2 = .ok (.putfield 100, 3) := by decide +kernel
theorem dX12_of_5 : decode cX12_of 5 = .ok (.aload_n 0, 1) := by decide +kernel
theorem dX12_of_6 : decode cX12_of 6 = .ok (.iload_n 1, 1) := by decide +kernel
theorem dX12_of_7 : decode cX12_of 7 = .ok (.invokevirtual 259, 3) := by decide +kernel
theorem dX12_of_10 : decode cX12_of 10 = .ok (.ifCond .eq 5, 3) := by decide +kernel
theorem dX12_of_13 : decode cX12_of 13 = .ok (.iconst (-1), 1) := by decide +kernel
theorem dX12_of_14 : decode cX12_of 14 = .ok (.ireturn, 1) := by decide +kernel
theorem dX12_of_15 : decode cX12_of 15 = .ok (.iload_n 2, 1) := by decide +kernel
theorem dX12_of_16 : decode cX12_of 16 = .ok (.tableswitch 105 0 6 #[44, 51, 58, 65, 72, 87, 96], 44) := by decide +kernel
theorem dX12_of_60 : decode cX12_of 60 = .ok (.aload_n 0, 1) := by decide +kernel
theorem dX12_of_61 : decode cX12_of 61 = .ok (.getfield 31, 3) := by decide +kernel
theorem dX12_of_64 : decode cX12_of 64 = .ok (.iload_n 1, 1) := by decide +kernel
theorem dX12_of_65 : decode cX12_of 65 = .ok (.iaload, 1) := by decide +kernel
theorem dX12_of_66 : decode cX12_of 66 = .ok (.ireturn, 1) := by decide +kernel
theorem dX12_of_67 : decode cX12_of 67 = .ok (.aload_n 0, 1) := by decide +kernel
theorem dX12_of_68 : decode cX12_of 68 = .ok (.getfield 34, 3) := by decide +kernel
theorem dX12_of_71 : decode cX12_of 71 = .ok (.iload_n 1, 1) := by decide +kernel
theorem dX12_of_72 : decode cX12_of 72 = .ok (.iaload, 1) := by decide +kernel
theorem dX12_of_73 : decode cX12_of 73 = .ok (.ireturn, 1) := by decide +kernel
theorem dX12_of_74 : decode cX12_of 74 = .ok (.aload_n 0, 1) := by decide +kernel
theorem dX12_of_75 : decode cX12_of 75 = .ok (.getfield 37, 3) := by decide +kernel
theorem dX12_of_78 : decode cX12_of 78 = .ok (.iload_n 1, 1) := by decide +kernel
theorem dX12_of_79 : decode cX12_of 79 = .ok (.iaload, 1) := by decide +kernel
theorem dX12_of_80 : decode cX12_of 80 = .ok (.ireturn, 1) := by decide +kernel
theorem dX12_of_81 : decode cX12_of 81 = .ok (.aload_n 0, 1) := by decide +kernel
theorem dX12_of_82 : decode cX12_of 82 = .ok (.getfield 40, 3) := by decide +kernel
theorem dX12_of_85 : decode cX12_of 85 = .ok (.iload_n 1, 1) := by decide +kernel
theorem dX12_of_86 : decode cX12_of 86 = .ok (.iaload, 1) := by decide +kernel
theorem dX12_of_87 : decode cX12_of 87 = .ok (.ireturn, 1) := by decide +kernel
theorem dX12_of_88 : decode cX12_of 88 = .ok (.aload_n 0, 1) := by decide +kernel
theorem dX12_of_89 : decode cX12_of 89 = .ok (.getfield 43, 3) := by decide +kernel
theorem dX12_of_92 : decode cX12_of 92 = .ok (.iload_n 1, 1) := by decide +kernel
theorem dX12_of_93 : decode cX12_of 93 = .ok (.baload, 1) := by decide +kernel
theorem dX12_of_94 : decode cX12_of 94 = .ok (.ifCond .eq 7, 3) := by decide +kernel
theorem dX12_of_97 : decode cX12_of 97 = .ok (.iconst 0, 1) := by decide +kernel
theorem dX12_of_98 : decode cX12_of 98 = .ok (.goto 4, 3) := by decide +kernel
theorem dX12_of_101 : decode cX12_of 101 = .ok (.iconst 1, 1) := by decide +kernel
theorem dX12_of_102 : decode cX12_of 102 = .ok (.ireturn, 1) := by decide +kernel
theorem dX12_of_103 : decode cX12_of 103 = .ok (.aload_n 0, 1) := by decide +kernel
theorem dX12_of_104 : decode cX12_of 104 = .ok (.bipush 10, 2) := by decide +kernel
theorem dX12_of_106 : decode cX12_of 106 = .ok (.iload_n 1, 1) := by decide +kernel
theorem dX12_of_107 : decode cX12_of 107 = .ok (.iadd, 1) := by decide +kernel
theorem dX12_of_108 : decode cX12_of 108 = .ok (.invokevirtual 162, 3) := by decide +kernel
theorem dX12_of_111 : decode cX12_of 111 = .ok (.ireturn, 1) := by decide +kernel
theorem dX12_of_112 : decode cX12_of 112 = .ok (.aload_n 0, 1) := by decide +kernel
theorem dX12_of_113 : decode cX12_of 113 = .ok (.bipush 10, 2) := by decide +kernel
theorem dX12_of_115 : decode cX12_of 115 = .ok (.iload_n 1, 1) := by decide +kernel
theorem dX12_of_116 : decode cX12_of 116 = .ok (.iadd, 1) := by decide +kernel
theorem dX12_of_117 : decode cX12_of 117 = .ok (.invokevirtual 262, 3) := by decide +kernel
theorem dX12_of_120 : decode cX12_of 120 = .ok (.ireturn, 1) := by decide +kernel
theorem dX12_of_121 : decode cX12_of 121 = .ok (.bipush (-2), 2) := by decide +kernel
theorem dX12_of_123 : decode cX12_of 123 = .ok (.ireturn, 1) := by decide +kernel
theorem dX12_spared_0 : decode cX12_spared 0 = .ok (.aload_n 0, 1) := by decide +kernel
theorem dX12_spared_1 : decode cX12_spared 1 = .ok (.bipush 10, 2) := by decide +kernel
theorem dX12_spared_3 : decode cX12_spared 3 = .ok (.iload_n 1, 1) := by decide +kernel
theorem dX12_spared_4 : decode cX12_spared 4 = .ok (.iadd, 1) := by decide +kernel
theorem dX12_spared_5 : decode cX12_spared 5 = .ok (.invokevirtual 162, 3) := by decide +kernel
theorem dX12_spared_8 : decode cX12_spared 8 = .ok (.aload_n 0, 1) := by decide +kernel
theorem dX12_spared_9 : decode cX12_spared 9 = .ok (.getfield 40, 3) := by decide +kernel
theorem dX12_spared_12 : decode cX12_spared 12 = .ok (.iload_n 1, 1) := by decide +kernel
theorem dX12_spared_13 : decode cX12_spared 13 = .ok (.iaload, 1) := by decide +kernel
theorem dX12_spared_14 : decode cX12_spared 14 = .ok (.isub, 1) := by decide +kernel
theorem dX12_spared_15 : decode cX12_spared 15 = .ok (.iload_n 2, 1) := by decide +kernel
theorem dX12_spared_16 : decode cX12_spared 16 = .ok (.isub, 1) := by decide +kernel
theorem dX12_spared_17 : decode cX12_spared 17 = .ok (.istore_n 3, 1) := by decide +kernel
theorem dX12_spared_18 : decode cX12_spared 18 = .ok (.iload_n 3, 1) := by decide +kernel
theorem dX12_spared_19 : decode cX12_spared 19 = .ok (.ifCond .le 7, 3) := by decide +kernel
theorem dX12_spared_22 : decode cX12_spared 22 = .ok (.iload_n 3, 1) := by decide +kernel
theorem dX12_spared_23 : decode cX12_spared 23 = .ok (.goto 4, 3) := by decide +kernel
theorem dX12_spared_26 : decode cX12_spared 26 = .ok (.iconst 0, 1) := by decide +kernel
theorem dX12_spared_27 : decode cX12_spared 27 = .ok (.ireturn, 1) := by decide +kernel
theorem dX12_badWeather_0 : decode cX12_badWeather 0 = .ok (.iload_n 0, 1) := by decide +kernel
theorem dX12_badWeather_1 : decode cX12_badWeather 1 = .ok (.i2l, 1) := by decide +kernel
theorem dX12_badWeather_2 : decode cX12_badWeather 2 = .ok (.lconst 0, 1) := by decide +kernel
theorem dX12_badWeather_3 : decode cX12_badWeather 3 = .ok (.ldc2_w 131, 3) := by decide +kernel
theorem dX12_badWeather_6 : decode cX12_badWeather 6 = .ok (.invokestatic 103, 3) := by decide +kernel
theorem dX12_badWeather_9 : decode cX12_badWeather 9 = .ok (.ifCond .ne 7, 3) := by decide +kernel
theorem dX12_badWeather_12 : decode cX12_badWeather 12 = .ok (.iconst 1, 1) := by decide +kernel
theorem dX12_badWeather_13 : decode cX12_badWeather 13 = .ok (.goto 4, 3) := by decide +kernel
theorem dX12_badWeather_16 : decode cX12_badWeather 16 = .ok (.iconst 0, 1) := by decide +kernel
theorem dX12_badWeather_17 : decode cX12_badWeather 17 = .ok (.ireturn, 1) := by decide +kernel
theorem dX12_spare_0 : decode cX12_spare 0 = .ok (.aload_n 0, 1) := by decide +kernel
theorem dX12_spare_1 : decode cX12_spare 1 = .ok (.iconst 0, 1) := by decide +kernel
theorem dX12_spare_2 : decode cX12_spare 2 = .ok (.putfield 100, 3) := by decide +kernel
theorem dX12_spare_5 : decode cX12_spare 5 = .ok (.aload_n 0, 1) := by decide +kernel
theorem dX12_spare_6 : decode cX12_spare 6 = .ok (.iload_n 1, 1) := by decide +kernel
theorem dX12_spare_7 : decode cX12_spare 7 = .ok (.invokevirtual 259, 3) := by decide +kernel
theorem dX12_spare_10 : decode cX12_spare 10 = .ok (.ifCond .eq 5, 3) := by decide +kernel
theorem dX12_spare_13 : decode cX12_spare 13 = .ok (.iconst (-1), 1) := by decide +kernel
theorem dX12_spare_14 : decode cX12_spare 14 = .ok (.ireturn, 1) := by decide +kernel
theorem dX12_spare_15 : decode cX12_spare 15 = .ok (.iload_n 2, 1) := by decide +kernel
theorem dX12_spare_16 : decode cX12_spare 16 = .ok (.invokestatic 265, 3) := by decide +kernel
theorem dX12_spare_19 : decode cX12_spare 19 = .ok (.ifCond .eq 6, 3) := by decide +kernel
theorem dX12_spare_22 : decode cX12_spare 22 = .ok (.bipush (-2), 2) := by decide +kernel
theorem dX12_spare_24 : decode cX12_spare 24 = .ok (.ireturn, 1) := by decide +kernel
theorem dX12_spare_25 : decode cX12_spare 25 = .ok (.aload_n 0, 1) := by decide +kernel
theorem dX12_spare_26 : decode cX12_spare 26 = .ok (.getfield 31, 3) := by decide +kernel
theorem dX12_spare_29 : decode cX12_spare 29 = .ok (.iload_n 1, 1) := by decide +kernel
theorem dX12_spare_30 : decode cX12_spare 30 = .ok (.iaload, 1) := by decide +kernel
theorem dX12_spare_31 : decode cX12_spare 31 = .ok (.ifCond .ne 8, 3) := by decide +kernel
theorem dX12_spare_34 : decode cX12_spare 34 = .ok (.bipush (-3), 2) := by decide +kernel
theorem dX12_spare_36 : decode cX12_spare 36 = .ok (.goto 9, 3) := by decide +kernel
theorem dX12_spare_39 : decode cX12_spare 39 = .ok (.aload_n 0, 1) := by decide +kernel
theorem dX12_spare_40 : decode cX12_spare 40 = .ok (.iload_n 1, 1) := by decide +kernel
theorem dX12_spare_41 : decode cX12_spare 41 = .ok (.iload_n 2, 1) := by decide +kernel
theorem dX12_spare_42 : decode cX12_spare 42 = .ok (.invokevirtual 268, 3) := by decide +kernel
theorem dX12_spare_45 : decode cX12_spare 45 = .ok (.ireturn, 1) := by decide +kernel
theorem dX12_board_0 : decode cX12_board 0 = .ok (.aload_n 0, 1) := by decide +kernel
theorem dX12_board_1 : decode cX12_board 1 = .ok (.iconst 0, 1) := by decide +kernel
theorem dX12_board_2 : decode cX12_board 2 = .ok (.putfield 100, 3) := by decide +kernel
theorem dX12_board_5 : decode cX12_board 5 = .ok (.aload_n 0, 1) := by decide +kernel
theorem dX12_board_6 : decode cX12_board 6 = .ok (.iload_n 1, 1) := by decide +kernel
theorem dX12_board_7 : decode cX12_board 7 = .ok (.invokevirtual 144, 3) := by decide +kernel
theorem dX12_board_10 : decode cX12_board 10 = .ok (.ifCond .ne 11, 3) := by decide +kernel
theorem dX12_board_13 : decode cX12_board 13 = .ok (.aload_n 0, 1) := by decide +kernel
theorem dX12_board_14 : decode cX12_board 14 = .ok (.iload_n 2, 1) := by decide +kernel
theorem dX12_board_15 : decode cX12_board 15 = .ok (.invokevirtual 259, 3) := by decide +kernel
theorem dX12_board_18 : decode cX12_board 18 = .ok (.ifCond .eq 5, 3) := by decide +kernel
theorem dX12_board_21 : decode cX12_board 21 = .ok (.iconst (-1), 1) := by decide +kernel
theorem dX12_board_22 : decode cX12_board 22 = .ok (.ireturn, 1) := by decide +kernel
theorem dX12_board_23 : decode cX12_board 23 = .ok (.aload_n 0, 1) := by decide +kernel
theorem dX12_board_24 : decode cX12_board 24 = .ok (.iload_n 1, 1) := by decide +kernel
theorem dX12_board_25 : decode cX12_board 25 = .ok (.invokevirtual 154, 3) := by decide +kernel
theorem dX12_board_28 : decode cX12_board 28 = .ok (.invokestatic 171, 3) := by decide +kernel
theorem dX12_board_31 : decode cX12_board 31 = .ok (.ifCond .eq 12, 3) := by decide +kernel
theorem dX12_board_34 : decode cX12_board 34 = .ok (.aload_n 0, 1) := by decide +kernel
theorem dX12_board_35 : decode cX12_board 35 = .ok (.getfield 43, 3) := by decide +kernel
theorem dX12_board_38 : decode cX12_board 38 = .ok (.iload_n 2, 1) := by decide +kernel
theorem dX12_board_39 : decode cX12_board 39 = .ok (.baload, 1) := by decide +kernel
theorem dX12_board_40 : decode cX12_board 40 = .ok (.ifCond .eq 6, 3) := by decide +kernel
theorem dX12_board_43 : decode cX12_board 43 = .ok (.bipush (-3), 2) := by decide +kernel
theorem dX12_board_45 : decode cX12_board 45 = .ok (.ireturn, 1) := by decide +kernel
theorem dX12_board_46 : decode cX12_board 46 = .ok (.aload_n 0, 1) := by decide +kernel
theorem dX12_board_47 : decode cX12_board 47 = .ok (.bipush 10, 2) := by decide +kernel
theorem dX12_board_49 : decode cX12_board 49 = .ok (.iload_n 2, 1) := by decide +kernel
theorem dX12_board_50 : decode cX12_board 50 = .ok (.iadd, 1) := by decide +kernel
theorem dX12_board_51 : decode cX12_board 51 = .ok (.invokevirtual 162, 3) := by decide +kernel
theorem dX12_board_54 : decode cX12_board 54 = .ok (.iconst 2, 1) := by decide +kernel
theorem dX12_board_55 : decode cX12_board 55 = .ok (.aload_n 0, 1) := by decide +kernel
theorem dX12_board_56 : decode cX12_board 56 = .ok (.getfield 34, 3) := by decide +kernel
theorem dX12_board_59 : decode cX12_board 59 = .ok (.iload_n 2, 1) := by decide +kernel
theorem dX12_board_60 : decode cX12_board 60 = .ok (.iaload, 1) := by decide +kernel
theorem dX12_board_61 : decode cX12_board 61 = .ok (.imul, 1) := by decide +kernel
theorem dX12_board_62 : decode cX12_board 62 = .ok (.if_icmp .lt 6, 3) := by decide +kernel
theorem dX12_board_65 : decode cX12_board 65 = .ok (.bipush (-4), 2) := by decide +kernel
theorem dX12_board_67 : decode cX12_board 67 = .ok (.ireturn, 1) := by decide +kernel
theorem dX12_board_68 : decode cX12_board 68 = .ok (.aload_n 0, 1) := by decide +kernel
theorem dX12_board_69 : decode cX12_board 69 = .ok (.iload_n 1, 1) := by decide +kernel
theorem dX12_board_70 : decode cX12_board 70 = .ok (.bipush 10, 2) := by decide +kernel
theorem dX12_board_72 : decode cX12_board 72 = .ok (.iload_n 2, 1) := by decide +kernel
theorem dX12_board_73 : decode cX12_board 73 = .ok (.iadd, 1) := by decide +kernel
theorem dX12_board_74 : decode cX12_board 74 = .ok (.invokevirtual 177, 3) := by decide +kernel
theorem dX12_board_77 : decode cX12_board 77 = .ok (.aload_n 0, 1) := by decide +kernel
theorem dX12_board_78 : decode cX12_board 78 = .ok (.bipush 10, 2) := by decide +kernel
theorem dX12_board_80 : decode cX12_board 80 = .ok (.iload_n 2, 1) := by decide +kernel
theorem dX12_board_81 : decode cX12_board 81 = .ok (.iadd, 1) := by decide +kernel
theorem dX12_board_82 : decode cX12_board 82 = .ok (.invokevirtual 162, 3) := by decide +kernel
theorem dX12_board_85 : decode cX12_board 85 = .ok (.ireturn, 1) := by decide +kernel
theorem dX12_turn_0 : decode cX12_turn 0 = .ok (.aload_n 0, 1) := by decide +kernel
theorem dX12_turn_1 : decode cX12_turn 1 = .ok (.iconst 0, 1) := by decide +kernel
theorem dX12_turn_2 : decode cX12_turn 2 = .ok (.putfield 100, 3) := by decide +kernel
theorem dX12_turn_5 : decode cX12_turn 5 = .ok (.aload_n 0, 1) := by decide +kernel
theorem dX12_turn_6 : decode cX12_turn 6 = .ok (.iload_n 1, 1) := by decide +kernel
theorem dX12_turn_7 : decode cX12_turn 7 = .ok (.invokevirtual 144, 3) := by decide +kernel
theorem dX12_turn_10 : decode cX12_turn 10 = .ok (.ifCond .ne 11, 3) := by decide +kernel
theorem dX12_turn_13 : decode cX12_turn 13 = .ok (.aload_n 0, 1) := by decide +kernel
theorem dX12_turn_14 : decode cX12_turn 14 = .ok (.iload_n 2, 1) := by decide +kernel
theorem dX12_turn_15 : decode cX12_turn 15 = .ok (.invokevirtual 259, 3) := by decide +kernel
theorem dX12_turn_18 : decode cX12_turn 18 = .ok (.ifCond .eq 5, 3) := by decide +kernel
theorem dX12_turn_21 : decode cX12_turn 21 = .ok (.iconst (-1), 1) := by decide +kernel
theorem dX12_turn_22 : decode cX12_turn 22 = .ok (.ireturn, 1) := by decide +kernel
theorem dX12_turn_23 : decode cX12_turn 23 = .ok (.aload_n 0, 1) := by decide +kernel
theorem dX12_turn_24 : decode cX12_turn 24 = .ok (.iload_n 1, 1) := by decide +kernel
theorem dX12_turn_25 : decode cX12_turn 25 = .ok (.invokevirtual 154, 3) := by decide +kernel
theorem dX12_turn_28 : decode cX12_turn 28 = .ok (.istore_n 3, 1) := by decide +kernel
theorem dX12_turn_29 : decode cX12_turn 29 = .ok (.iload_n 3, 1) := by decide +kernel
theorem dX12_turn_30 : decode cX12_turn 30 = .ok (.bipush 20, 2) := by decide +kernel
theorem dX12_turn_32 : decode cX12_turn 32 = .ok (.if_icmp .eq 11, 3) := by decide +kernel
theorem dX12_turn_35 : decode cX12_turn 35 = .ok (.aload_n 0, 1) := by decide +kernel
theorem dX12_turn_36 : decode cX12_turn 36 = .ok (.iload_n 3, 1) := by decide +kernel
theorem dX12_turn_37 : decode cX12_turn 37 = .ok (.invokevirtual 236, 3) := by decide +kernel
theorem dX12_turn_40 : decode cX12_turn 40 = .ok (.ifCond .eq 20, 3) := by decide +kernel
theorem dX12_turn_43 : decode cX12_turn 43 = .ok (.iload_n 3, 1) := by decide +kernel
theorem dX12_turn_44 : decode cX12_turn 44 = .ok (.bipush 10, 2) := by decide +kernel
theorem dX12_turn_46 : decode cX12_turn 46 = .ok (.iload_n 2, 1) := by decide +kernel
theorem dX12_turn_47 : decode cX12_turn 47 = .ok (.iadd, 1) := by decide +kernel
theorem dX12_turn_48 : decode cX12_turn 48 = .ok (.if_icmp .eq 12, 3) := by decide +kernel
theorem dX12_turn_51 : decode cX12_turn 51 = .ok (.aload_n 0, 1) := by decide +kernel
theorem dX12_turn_52 : decode cX12_turn 52 = .ok (.getfield 43, 3) := by decide +kernel
theorem dX12_turn_55 : decode cX12_turn 55 = .ok (.iload_n 2, 1) := by decide +kernel
theorem dX12_turn_56 : decode cX12_turn 56 = .ok (.baload, 1) := by decide +kernel
theorem dX12_turn_57 : decode cX12_turn 57 = .ok (.ifCond .eq 6, 3) := by decide +kernel
theorem dX12_turn_60 : decode cX12_turn 60 = .ok (.bipush (-3), 2) := by decide +kernel
theorem dX12_turn_62 : decode cX12_turn 62 = .ok (.ireturn, 1) := by decide +kernel
theorem dX12_turn_63 : decode cX12_turn 63 = .ok (.aload_n 0, 1) := by decide +kernel
theorem dX12_turn_64 : decode cX12_turn 64 = .ok (.bipush 10, 2) := by decide +kernel
theorem dX12_turn_66 : decode cX12_turn 66 = .ok (.iload_n 2, 1) := by decide +kernel
theorem dX12_turn_67 : decode cX12_turn 67 = .ok (.iadd, 1) := by decide +kernel
theorem dX12_turn_68 : decode cX12_turn 68 = .ok (.invokevirtual 162, 3) := by decide +kernel
theorem dX12_turn_71 : decode cX12_turn 71 = .ok (.iconst 2, 1) := by decide +kernel
theorem dX12_turn_72 : decode cX12_turn 72 = .ok (.aload_n 0, 1) := by decide +kernel
theorem dX12_turn_73 : decode cX12_turn 73 = .ok (.getfield 34, 3) := by decide +kernel
theorem dX12_turn_76 : decode cX12_turn 76 = .ok (.iload_n 2, 1) := by decide +kernel
theorem dX12_turn_77 : decode cX12_turn 77 = .ok (.iaload, 1) := by decide +kernel
theorem dX12_turn_78 : decode cX12_turn 78 = .ok (.imul, 1) := by decide +kernel
theorem dX12_turn_79 : decode cX12_turn 79 = .ok (.if_icmp .lt 6, 3) := by decide +kernel
theorem dX12_turn_82 : decode cX12_turn 82 = .ok (.bipush (-4), 2) := by decide +kernel
theorem dX12_turn_84 : decode cX12_turn 84 = .ok (.ireturn, 1) := by decide +kernel
theorem dX12_turn_85 : decode cX12_turn 85 = .ok (.aload_n 0, 1) := by decide +kernel
theorem dX12_turn_86 : decode cX12_turn 86 = .ok (.iload_n 1, 1) := by decide +kernel
theorem dX12_turn_87 : decode cX12_turn 87 = .ok (.bipush 10, 2) := by decide +kernel
theorem dX12_turn_89 : decode cX12_turn 89 = .ok (.iload_n 2, 1) := by decide +kernel
theorem dX12_turn_90 : decode cX12_turn 90 = .ok (.iadd, 1) := by decide +kernel
theorem dX12_turn_91 : decode cX12_turn 91 = .ok (.invokevirtual 177, 3) := by decide +kernel
theorem dX12_turn_94 : decode cX12_turn 94 = .ok (.iload_n 3, 1) := by decide +kernel
theorem dX12_turn_95 : decode cX12_turn 95 = .ok (.ireturn, 1) := by decide +kernel
theorem dX12_notAshore_0 : decode cX12_notAshore 0 = .ok (.aload_n 0, 1) := by decide +kernel
theorem dX12_notAshore_1 : decode cX12_notAshore 1 = .ok (.iconst 0, 1) := by decide +kernel
theorem dX12_notAshore_2 : decode cX12_notAshore 2 = .ok (.putfield 100, 3) := by decide +kernel
theorem dX12_notAshore_5 : decode cX12_notAshore 5 = .ok (.aload_n 0, 1) := by decide +kernel
theorem dX12_notAshore_6 : decode cX12_notAshore 6 = .ok (.iload_n 1, 1) := by decide +kernel
theorem dX12_notAshore_7 : decode cX12_notAshore 7 = .ok (.invokevirtual 144, 3) := by decide +kernel
theorem dX12_notAshore_10 : decode cX12_notAshore 10 = .ok (.ifCond .eq 5, 3) := by decide +kernel
theorem dX12_notAshore_13 : decode cX12_notAshore 13 = .ok (.iconst (-1), 1) := by decide +kernel
theorem dX12_notAshore_14 : decode cX12_notAshore 14 = .ok (.ireturn, 1) := by decide +kernel
theorem dX12_notAshore_15 : decode cX12_notAshore 15 = .ok (.iload_n 2, 1) := by decide +kernel
theorem dX12_notAshore_16 : decode cX12_notAshore 16 = .ok (.i2l, 1) := by decide +kernel
theorem dX12_notAshore_17 : decode cX12_notAshore 17 = .ok (.lconst 0, 1) := by decide +kernel
theorem dX12_notAshore_18 : decode cX12_notAshore 18 = .ok (.aload_n 0, 1) := by decide +kernel
theorem dX12_notAshore_19 : decode cX12_notAshore 19 = .ok (.getfield 141, 3) := by decide +kernel
theorem dX12_notAshore_22 : decode cX12_notAshore 22 = .ok (.i2l, 1) := by decide +kernel
theorem dX12_notAshore_23 : decode cX12_notAshore 23 = .ok (.invokestatic 103, 3) := by decide +kernel
theorem dX12_notAshore_26 : decode cX12_notAshore 26 = .ok (.ifCond .ne 6, 3) := by decide +kernel
theorem dX12_notAshore_29 : decode cX12_notAshore 29 = .ok (.bipush (-2), 2) := by decide +kernel
theorem dX12_notAshore_31 : decode cX12_notAshore 31 = .ok (.ireturn, 1) := by decide +kernel
theorem dX12_notAshore_32 : decode cX12_notAshore 32 = .ok (.iload_n 2, 1) := by decide +kernel
theorem dX12_notAshore_33 : decode cX12_notAshore 33 = .ok (.istore_n 3, 1) := by decide +kernel
theorem dX12_notAshore_34 : decode cX12_notAshore 34 = .ok (.iload_n 3, 1) := by decide +kernel
theorem dX12_notAshore_35 : decode cX12_notAshore 35 = .ok (.ifCond .lt 42, 3) := by decide +kernel
theorem dX12_notAshore_38 : decode cX12_notAshore 38 = .ok (.aload_n 0, 1) := by decide +kernel
theorem dX12_notAshore_39 : decode cX12_notAshore 39 = .ok (.getfield 28, 3) := by decide +kernel
theorem dX12_notAshore_42 : decode cX12_notAshore 42 = .ok (.bipush 40, 2) := by decide +kernel
theorem dX12_notAshore_44 : decode cX12_notAshore 44 = .ok (.iload_n 3, 1) := by decide +kernel
theorem dX12_notAshore_45 : decode cX12_notAshore 45 = .ok (.imul, 1) := by decide +kernel
theorem dX12_notAshore_46 : decode cX12_notAshore 46 = .ok (.iload_n 1, 1) := by decide +kernel
theorem dX12_notAshore_47 : decode cX12_notAshore 47 = .ok (.iadd, 1) := by decide +kernel
theorem dX12_notAshore_48 : decode cX12_notAshore 48 = .ok (.iaload, 1) := by decide +kernel
theorem dX12_notAshore_49 : decode cX12_notAshore 49 = .ok (.invokestatic 171, 3) := by decide +kernel
theorem dX12_notAshore_52 : decode cX12_notAshore 52 = .ok (.ifCond .ne 25, 3) := by decide +kernel
theorem dX12_notAshore_55 : decode cX12_notAshore 55 = .ok (.aload_n 0, 1) := by decide +kernel
theorem dX12_notAshore_56 : decode cX12_notAshore 56 = .ok (.getfield 28, 3) := by decide +kernel
theorem dX12_notAshore_59 : decode cX12_notAshore 59 = .ok (.bipush 40, 2) := by decide +kernel
theorem dX12_notAshore_61 : decode cX12_notAshore 61 = .ok (.iload_n 3, 1) := by decide +kernel
theorem dX12_notAshore_62 : decode cX12_notAshore 62 = .ok (.imul, 1) := by decide +kernel
theorem dX12_notAshore_63 : decode cX12_notAshore 63 = .ok (.iload_n 1, 1) := by decide +kernel
theorem dX12_notAshore_64 : decode cX12_notAshore 64 = .ok (.iadd, 1) := by decide +kernel
theorem dX12_notAshore_65 : decode cX12_notAshore 65 = .ok (.iaload, 1) := by decide +kernel
theorem dX12_notAshore_66 : decode cX12_notAshore 66 = .ok (.bipush 22, 2) := by decide +kernel
theorem dX12_notAshore_68 : decode cX12_notAshore 68 = .ok (.if_icmp .eq 9, 3) := by decide +kernel
theorem dX12_notAshore_71 : decode cX12_notAshore 71 = .ok (.iinc 3 (-1), 3) := by decide +kernel
theorem dX12_notAshore_74 : decode cX12_notAshore 74 = .ok (.goto (-40), 3) := by decide +kernel
theorem dX12_notAshore_77 : decode cX12_notAshore 77 = .ok (.iload_n 2, 1) := by decide +kernel
theorem dX12_notAshore_78 : decode cX12_notAshore 78 = .ok (.iload_n 3, 1) := by decide +kernel
theorem dX12_notAshore_79 : decode cX12_notAshore 79 = .ok (.isub, 1) := by decide +kernel
theorem dX12_notAshore_80 : decode cX12_notAshore 80 = .ok (.ireturn, 1) := by decide +kernel
theorem dX12_mayGo_0 : decode cX12_mayGo 0 = .ok (.aload_n 0, 1) := by decide +kernel
theorem dX12_mayGo_1 : decode cX12_mayGo 1 = .ok (.getfield 31, 3) := by decide +kernel
theorem dX12_mayGo_4 : decode cX12_mayGo 4 = .ok (.iload_n 1, 1) := by decide +kernel
theorem dX12_mayGo_5 : decode cX12_mayGo 5 = .ok (.iaload, 1) := by decide +kernel
theorem dX12_mayGo_6 : decode cX12_mayGo 6 = .ok (.ifCond .ne 16, 3) := by decide +kernel
theorem dX12_mayGo_9 : decode cX12_mayGo 9 = .ok (.aload_n 0, 1) := by decide +kernel
theorem dX12_mayGo_10 : decode cX12_mayGo 10 = .ok (.getfield 43, 3) := by decide +kernel
theorem dX12_mayGo_13 : decode cX12_mayGo 13 = .ok (.iload_n 1, 1) := by decide +kernel
theorem dX12_mayGo_14 : decode cX12_mayGo 14 = .ok (.baload, 1) := by decide +kernel
theorem dX12_mayGo_15 : decode cX12_mayGo 15 = .ok (.ifCond .ne 7, 3) := by decide +kernel
theorem dX12_mayGo_18 : decode cX12_mayGo 18 = .ok (.iconst 1, 1) := by decide +kernel
theorem dX12_mayGo_19 : decode cX12_mayGo 19 = .ok (.goto 4, 3) := by decide +kernel
theorem dX12_mayGo_22 : decode cX12_mayGo 22 = .ok (.iconst 0, 1) := by decide +kernel
theorem dX12_mayGo_23 : decode cX12_mayGo 23 = .ok (.ireturn, 1) := by decide +kernel
theorem dX12_fewest_0 : decode cX12_fewest 0 = .ok (.aload_n 0, 1) := by decide +kernel
theorem dX12_fewest_1 : decode cX12_fewest 1 = .ok (.bipush 20, 2) := by decide +kernel
theorem dX12_fewest_3 : decode cX12_fewest 3 = .ok (.invokevirtual 162, 3) := by decide +kernel
theorem dX12_fewest_6 : decode cX12_fewest 6 = .ok (.ineg, 1) := by decide +kernel
theorem dX12_fewest_7 : decode cX12_fewest 7 = .ok (.istore_n 3, 1) := by decide +kernel
theorem dX12_fewest_8 : decode cX12_fewest 8 = .ok (.aload_n 0, 1) := by decide +kernel
theorem dX12_fewest_9 : decode cX12_fewest 9 = .ok (.bipush 20, 2) := by decide +kernel
theorem dX12_fewest_11 : decode cX12_fewest 11 = .ok (.invokevirtual 262, 3) := by decide +kernel
theorem dX12_fewest_14 : decode cX12_fewest 14 = .ok (.ineg, 1) := by decide +kernel
theorem dX12_fewest_15 : decode cX12_fewest 15 = .ok (.istore 4, 2) := by decide +kernel
theorem dX12_fewest_17 : decode cX12_fewest 17 = .ok (.iconst 0, 1) := by decide +kernel
theorem dX12_fewest_18 : decode cX12_fewest 18 = .ok (.istore 5, 2) := by decide +kernel
theorem dX12_fewest_20 : decode cX12_fewest 20 = .ok (.iconst 0, 1) := by decide +kernel
theorem dX12_fewest_21 : decode cX12_fewest 21 = .ok (.istore 6, 2) := by decide +kernel
theorem dX12_fewest_23 : decode cX12_fewest 23 = .ok (.iconst 0, 1) := by decide +kernel
theorem dX12_fewest_24 : decode cX12_fewest 24 = .ok (.istore 7, 2) := by decide +kernel
theorem dX12_fewest_26 : decode cX12_fewest 26 = .ok (.iload 7, 2) := by decide +kernel
theorem dX12_fewest_28 : decode cX12_fewest 28 = .ok (.aload_n 0, 1) := by decide +kernel
theorem dX12_fewest_29 : decode cX12_fewest 29 = .ok (.getfield 110, 3) := by decide +kernel
theorem dX12_fewest_32 : decode cX12_fewest 32 = .ok (.if_icmp .ge 164, 3) := by decide +kernel
theorem dX12_fewest_35 : decode cX12_fewest 35 = .ok (.aload_n 0, 1) := by decide +kernel
theorem dX12_fewest_36 : decode cX12_fewest 36 = .ok (.iload 7, 2) := by decide +kernel
theorem dX12_fewest_38 : decode cX12_fewest 38 = .ok (.invokevirtual 271, 3) := by decide +kernel
theorem dX12_fewest_41 : decode cX12_fewest 41 = .ok (.ifCond .eq 82, 3) := by decide +kernel
theorem dX12_fewest_44 : decode cX12_fewest 44 = .ok (.iload_n 3, 1) := by decide +kernel
theorem dX12_fewest_45 : decode cX12_fewest 45 = .ok (.aload_n 0, 1) := by decide +kernel
theorem dX12_fewest_46 : decode cX12_fewest 46 = .ok (.bipush 10, 2) := by decide +kernel
theorem dX12_fewest_48 : decode cX12_fewest 48 = .ok (.iload 7, 2) := by decide +kernel
theorem dX12_fewest_50 : decode cX12_fewest 50 = .ok (.iadd, 1) := by decide +kernel
theorem dX12_fewest_51 : decode cX12_fewest 51 = .ok (.invokevirtual 162, 3) := by decide +kernel
theorem dX12_fewest_54 : decode cX12_fewest 54 = .ok (.isub, 1) := by decide +kernel
theorem dX12_fewest_55 : decode cX12_fewest 55 = .ok (.istore_n 3, 1) := by decide +kernel
theorem dX12_fewest_56 : decode cX12_fewest 56 = .ok (.iload 4, 2) := by decide +kernel
theorem dX12_fewest_58 : decode cX12_fewest 58 = .ok (.aload_n 0, 1) := by decide +kernel
theorem dX12_fewest_59 : decode cX12_fewest 59 = .ok (.bipush 10, 2) := by decide +kernel
theorem dX12_fewest_61 : decode cX12_fewest 61 = .ok (.iload 7, 2) := by decide +kernel
theorem dX12_fewest_63 : decode cX12_fewest 63 = .ok (.iadd, 1) := by decide +kernel
theorem dX12_fewest_64 : decode cX12_fewest 64 = .ok (.invokevirtual 262, 3) := by decide +kernel
theorem dX12_fewest_67 : decode cX12_fewest 67 = .ok (.isub, 1) := by decide +kernel
theorem dX12_fewest_68 : decode cX12_fewest 68 = .ok (.istore 4, 2) := by decide +kernel
theorem dX12_fewest_70 : decode cX12_fewest 70 = .ok (.iload_n 3, 1) := by decide +kernel
theorem dX12_fewest_71 : decode cX12_fewest 71 = .ok (.iload_n 1, 1) := by decide +kernel
theorem dX12_fewest_72 : decode cX12_fewest 72 = .ok (.iload 7, 2) := by decide +kernel
theorem dX12_fewest_74 : decode cX12_fewest 74 = .ok (.ishr, 1) := by decide +kernel
theorem dX12_fewest_75 : decode cX12_fewest 75 = .ok (.iconst 1, 1) := by decide +kernel
theorem dX12_fewest_76 : decode cX12_fewest 76 = .ok (.iand, 1) := by decide +kernel
theorem dX12_fewest_77 : decode cX12_fewest 77 = .ok (.iconst 1, 1) := by decide +kernel
theorem dX12_fewest_78 : decode cX12_fewest 78 = .ok (.if_icmp .ne 13, 3) := by decide +kernel
theorem dX12_fewest_81 : decode cX12_fewest 81 = .ok (.aload_n 0, 1) := by decide +kernel
theorem dX12_fewest_82 : decode cX12_fewest 82 = .ok (.getfield 34, 3) := by decide +kernel
theorem dX12_fewest_85 : decode cX12_fewest 85 = .ok (.iload 7, 2) := by decide +kernel
theorem dX12_fewest_87 : decode cX12_fewest 87 = .ok (.iaload, 1) := by decide +kernel
theorem dX12_fewest_88 : decode cX12_fewest 88 = .ok (.goto 4, 3) := by decide +kernel
theorem dX12_fewest_91 : decode cX12_fewest 91 = .ok (.iconst 0, 1) := by decide +kernel
theorem dX12_fewest_92 : decode cX12_fewest 92 = .ok (.iadd, 1) := by decide +kernel
theorem dX12_fewest_93 : decode cX12_fewest 93 = .ok (.istore_n 3, 1) := by decide +kernel
theorem dX12_fewest_94 : decode cX12_fewest 94 = .ok (.iload 4, 2) := by decide +kernel
theorem dX12_fewest_96 : decode cX12_fewest 96 = .ok (.iload_n 1, 1) := by decide +kernel
theorem dX12_fewest_97 : decode cX12_fewest 97 = .ok (.iload 7, 2) := by decide +kernel
theorem dX12_fewest_99 : decode cX12_fewest 99 = .ok (.ishr, 1) := by decide +kernel
theorem dX12_fewest_100 : decode cX12_fewest 100 = .ok (.iconst 1, 1) := by decide +kernel
theorem dX12_fewest_101 : decode cX12_fewest 101 = .ok (.iand, 1) := by decide +kernel
theorem dX12_fewest_102 : decode cX12_fewest 102 = .ok (.iconst 1, 1) := by decide +kernel
theorem dX12_fewest_103 : decode cX12_fewest 103 = .ok (.if_icmp .ne 13, 3) := by decide +kernel
theorem dX12_fewest_106 : decode cX12_fewest 106 = .ok (.aload_n 0, 1) := by decide +kernel
theorem dX12_fewest_107 : decode cX12_fewest 107 = .ok (.getfield 37, 3) := by decide +kernel
theorem dX12_fewest_110 : decode cX12_fewest 110 = .ok (.iload 7, 2) := by decide +kernel
theorem dX12_fewest_112 : decode cX12_fewest 112 = .ok (.iaload, 1) := by decide +kernel
theorem dX12_fewest_113 : decode cX12_fewest 113 = .ok (.goto 4, 3) := by decide +kernel
theorem dX12_fewest_116 : decode cX12_fewest 116 = .ok (.iconst 0, 1) := by decide +kernel
theorem dX12_fewest_117 : decode cX12_fewest 117 = .ok (.iadd, 1) := by decide +kernel
theorem dX12_fewest_118 : decode cX12_fewest 118 = .ok (.istore 4, 2) := by decide +kernel
theorem dX12_fewest_120 : decode cX12_fewest 120 = .ok (.goto 70, 3) := by decide +kernel
theorem dX12_fewest_123 : decode cX12_fewest 123 = .ok (.aload_n 0, 1) := by decide +kernel
theorem dX12_fewest_124 : decode cX12_fewest 124 = .ok (.getfield 31, 3) := by decide +kernel
theorem dX12_fewest_127 : decode cX12_fewest 127 = .ok (.iload 7, 2) := by decide +kernel
theorem dX12_fewest_129 : decode cX12_fewest 129 = .ok (.iaload, 1) := by decide +kernel
theorem dX12_fewest_130 : decode cX12_fewest 130 = .ok (.iconst 1, 1) := by decide +kernel
theorem dX12_fewest_131 : decode cX12_fewest 131 = .ok (.if_icmp .ne 59, 3) := by decide +kernel
theorem dX12_fewest_134 : decode cX12_fewest 134 = .ok (.aload_n 0, 1) := by decide +kernel
theorem dX12_fewest_135 : decode cX12_fewest 135 = .ok (.getfield 43, 3) := by decide +kernel
theorem dX12_fewest_138 : decode cX12_fewest 138 = .ok (.iload 7, 2) := by decide +kernel
theorem dX12_fewest_140 : decode cX12_fewest 140 = .ok (.baload, 1) := by decide +kernel
theorem dX12_fewest_141 : decode cX12_fewest 141 = .ok (.ifCond .ne 49, 3) := by decide +kernel
theorem dX12_fewest_144 : decode cX12_fewest 144 = .ok (.aload_n 0, 1) := by decide +kernel
theorem dX12_fewest_145 : decode cX12_fewest 145 = .ok (.iload 7, 2) := by decide +kernel
theorem dX12_fewest_147 : decode cX12_fewest 147 = .ok (.iload_n 2, 1) := by decide +kernel
theorem dX12_fewest_148 : decode cX12_fewest 148 = .ok (.invokevirtual 268, 3) := by decide +kernel
theorem dX12_fewest_151 : decode cX12_fewest 151 = .ok (.istore 8, 2) := by decide +kernel
theorem dX12_fewest_153 : decode cX12_fewest 153 = .ok (.aload_n 0, 1) := by decide +kernel
theorem dX12_fewest_154 : decode cX12_fewest 154 = .ok (.bipush 10, 2) := by decide +kernel
theorem dX12_fewest_156 : decode cX12_fewest 156 = .ok (.iload 7, 2) := by decide +kernel
theorem dX12_fewest_158 : decode cX12_fewest 158 = .ok (.iadd, 1) := by decide +kernel
theorem dX12_fewest_159 : decode cX12_fewest 159 = .ok (.invokevirtual 262, 3) := by decide +kernel
theorem dX12_fewest_162 : decode cX12_fewest 162 = .ok (.istore 9, 2) := by decide +kernel
theorem dX12_fewest_164 : decode cX12_fewest 164 = .ok (.iload 5, 2) := by decide +kernel
theorem dX12_fewest_166 : decode cX12_fewest 166 = .ok (.iload 8, 2) := by decide +kernel
theorem dX12_fewest_168 : decode cX12_fewest 168 = .ok (.iadd, 1) := by decide +kernel
theorem dX12_fewest_169 : decode cX12_fewest 169 = .ok (.istore 5, 2) := by decide +kernel
theorem dX12_fewest_171 : decode cX12_fewest 171 = .ok (.iload 6, 2) := by decide +kernel
theorem dX12_fewest_173 : decode cX12_fewest 173 = .ok (.iload 8, 2) := by decide +kernel
theorem dX12_fewest_175 : decode cX12_fewest 175 = .ok (.iload 9, 2) := by decide +kernel
theorem dX12_fewest_177 : decode cX12_fewest 177 = .ok (.if_icmp .ge 8, 3) := by decide +kernel
theorem dX12_fewest_180 : decode cX12_fewest 180 = .ok (.iload 8, 2) := by decide +kernel
theorem dX12_fewest_182 : decode cX12_fewest 182 = .ok (.goto 5, 3) := by decide +kernel
theorem dX12_fewest_185 : decode cX12_fewest 185 = .ok (.iload 9, 2) := by decide +kernel
theorem dX12_fewest_187 : decode cX12_fewest 187 = .ok (.iadd, 1) := by decide +kernel
theorem dX12_fewest_188 : decode cX12_fewest 188 = .ok (.istore 6, 2) := by decide +kernel
theorem dX12_fewest_190 : decode cX12_fewest 190 = .ok (.iinc 7 1, 3) := by decide +kernel
theorem dX12_fewest_193 : decode cX12_fewest 193 = .ok (.goto (-167), 3) := by decide +kernel
theorem dX12_fewest_196 : decode cX12_fewest 196 = .ok (.iload_n 3, 1) := by decide +kernel
theorem dX12_fewest_197 : decode cX12_fewest 197 = .ok (.iload 4, 2) := by decide +kernel
theorem dX12_fewest_199 : decode cX12_fewest 199 = .ok (.if_icmp .le 7, 3) := by decide +kernel
theorem dX12_fewest_202 : decode cX12_fewest 202 = .ok (.iload_n 3, 1) := by decide +kernel
theorem dX12_fewest_203 : decode cX12_fewest 203 = .ok (.goto 5, 3) := by decide +kernel
theorem dX12_fewest_206 : decode cX12_fewest 206 = .ok (.iload 4, 2) := by decide +kernel
theorem dX12_fewest_208 : decode cX12_fewest 208 = .ok (.istore 7, 2) := by decide +kernel
theorem dX12_fewest_210 : decode cX12_fewest 210 = .ok (.iload 7, 2) := by decide +kernel
theorem dX12_fewest_212 : decode cX12_fewest 212 = .ok (.ifCond .le 8, 3) := by decide +kernel
theorem dX12_fewest_215 : decode cX12_fewest 215 = .ok (.iload 7, 2) := by decide +kernel
theorem dX12_fewest_217 : decode cX12_fewest 217 = .ok (.goto 4, 3) := by decide +kernel
theorem dX12_fewest_220 : decode cX12_fewest 220 = .ok (.iconst 0, 1) := by decide +kernel
theorem dX12_fewest_221 : decode cX12_fewest 221 = .ok (.istore 7, 2) := by decide +kernel
theorem dX12_fewest_223 : decode cX12_fewest 223 = .ok (.iload 7, 2) := by decide +kernel
theorem dX12_fewest_225 : decode cX12_fewest 225 = .ok (.iload 5, 2) := by decide +kernel
theorem dX12_fewest_227 : decode cX12_fewest 227 = .ok (.if_icmp .gt 15, 3) := by decide +kernel
theorem dX12_fewest_230 : decode cX12_fewest 230 = .ok (.iload 4, 2) := by decide +kernel
theorem dX12_fewest_232 : decode cX12_fewest 232 = .ok (.iload 6, 2) := by decide +kernel
theorem dX12_fewest_234 : decode cX12_fewest 234 = .ok (.if_icmp .gt 8, 3) := by decide +kernel
theorem dX12_fewest_237 : decode cX12_fewest 237 = .ok (.iload 7, 2) := by decide +kernel
theorem dX12_fewest_239 : decode cX12_fewest 239 = .ok (.goto 5, 3) := by decide +kernel
theorem dX12_fewest_242 : decode cX12_fewest 242 = .ok (.bipush (-9), 2) := by decide +kernel
theorem dX12_fewest_244 : decode cX12_fewest 244 = .ok (.ireturn, 1) := by decide +kernel
theorem dX12_taken_0 : decode cX12_taken 0 = .ok (.aload_n 0, 1) := by decide +kernel
theorem dX12_taken_1 : decode cX12_taken 1 = .ok (.iconst 0, 1) := by decide +kernel
theorem dX12_taken_2 : decode cX12_taken 2 = .ok (.putfield 100, 3) := by decide +kernel
theorem dX12_taken_5 : decode cX12_taken 5 = .ok (.iload_n 2, 1) := by decide +kernel
theorem dX12_taken_6 : decode cX12_taken 6 = .ok (.invokestatic 265, 3) := by decide +kernel
theorem dX12_taken_9 : decode cX12_taken 9 = .ok (.ifCond .ne 21, 3) := by decide +kernel
theorem dX12_taken_12 : decode cX12_taken 12 = .ok (.iload_n 1, 1) := by decide +kernel
theorem dX12_taken_13 : decode cX12_taken 13 = .ok (.i2l, 1) := by decide +kernel
theorem dX12_taken_14 : decode cX12_taken 14 = .ok (.lconst 0, 1) := by decide +kernel
theorem dX12_taken_15 : decode cX12_taken 15 = .ok (.iconst 1, 1) := by decide +kernel
theorem dX12_taken_16 : decode cX12_taken 16 = .ok (.aload_n 0, 1) := by decide +kernel
theorem dX12_taken_17 : decode cX12_taken 17 = .ok (.getfield 110, 3) := by decide +kernel
theorem dX12_taken_20 : decode cX12_taken 20 = .ok (.ishl, 1) := by decide +kernel
theorem dX12_taken_21 : decode cX12_taken 21 = .ok (.iconst 1, 1) := by decide +kernel
theorem dX12_taken_22 : decode cX12_taken 22 = .ok (.isub, 1) := by decide +kernel
theorem dX12_taken_23 : decode cX12_taken 23 = .ok (.i2l, 1) := by decide +kernel
theorem dX12_taken_24 : decode cX12_taken 24 = .ok (.invokestatic 103, 3) := by decide +kernel
theorem dX12_taken_27 : decode cX12_taken 27 = .ok (.ifCond .ne 6, 3) := by decide +kernel
theorem dX12_taken_30 : decode cX12_taken 30 = .ok (.bipush (-2), 2) := by decide +kernel
theorem dX12_taken_32 : decode cX12_taken 32 = .ok (.ireturn, 1) := by decide +kernel
theorem dX12_taken_33 : decode cX12_taken 33 = .ok (.iconst 0, 1) := by decide +kernel
theorem dX12_taken_34 : decode cX12_taken 34 = .ok (.istore_n 3, 1) := by decide +kernel
theorem dX12_taken_35 : decode cX12_taken 35 = .ok (.iload_n 3, 1) := by decide +kernel
theorem dX12_taken_36 : decode cX12_taken 36 = .ok (.aload_n 0, 1) := by decide +kernel
theorem dX12_taken_37 : decode cX12_taken 37 = .ok (.getfield 110, 3) := by decide +kernel
theorem dX12_taken_40 : decode cX12_taken 40 = .ok (.if_icmp .ge 29, 3) := by decide +kernel
theorem dX12_taken_43 : decode cX12_taken 43 = .ok (.iload_n 1, 1) := by decide +kernel
theorem dX12_taken_44 : decode cX12_taken 44 = .ok (.iload_n 3, 1) := by decide +kernel
theorem dX12_taken_45 : decode cX12_taken 45 = .ok (.ishr, 1) := by decide +kernel
theorem dX12_taken_46 : decode cX12_taken 46 = .ok (.iconst 1, 1) := by decide +kernel
theorem dX12_taken_47 : decode cX12_taken 47 = .ok (.iand, 1) := by decide +kernel
theorem dX12_taken_48 : decode cX12_taken 48 = .ok (.iconst 1, 1) := by decide +kernel
theorem dX12_taken_49 : decode cX12_taken 49 = .ok (.if_icmp .ne 14, 3) := by decide +kernel
theorem dX12_taken_52 : decode cX12_taken 52 = .ok (.aload_n 0, 1) := by decide +kernel
theorem dX12_taken_53 : decode cX12_taken 53 = .ok (.iload_n 3, 1) := by decide +kernel
theorem dX12_taken_54 : decode cX12_taken 54 = .ok (.invokevirtual 271, 3) := by decide +kernel
theorem dX12_taken_57 : decode cX12_taken 57 = .ok (.ifCond .ne 6, 3) := by decide +kernel
theorem dX12_taken_60 : decode cX12_taken 60 = .ok (.bipush (-2), 2) := by decide +kernel
theorem dX12_taken_62 : decode cX12_taken 62 = .ok (.ireturn, 1) := by decide +kernel
theorem dX12_taken_63 : decode cX12_taken 63 = .ok (.iinc 3 1, 3) := by decide +kernel
theorem dX12_taken_66 : decode cX12_taken 66 = .ok (.goto (-31), 3) := by decide +kernel
theorem dX12_taken_69 : decode cX12_taken 69 = .ok (.aload_n 0, 1) := by decide +kernel
theorem dX12_taken_70 : decode cX12_taken 70 = .ok (.iload_n 1, 1) := by decide +kernel
theorem dX12_taken_71 : decode cX12_taken 71 = .ok (.iload_n 2, 1) := by decide +kernel
theorem dX12_taken_72 : decode cX12_taken 72 = .ok (.invokevirtual 274, 3) := by decide +kernel
theorem dX12_taken_75 : decode cX12_taken 75 = .ok (.ireturn, 1) := by decide +kernel
theorem dX12_fleet_0 : decode cX12_fleet 0 = .ok (.aload_n 0, 1) := by decide +kernel
theorem dX12_fleet_1 : decode cX12_fleet 1 = .ok (.iconst 0, 1) := by decide +kernel
theorem dX12_fleet_2 : decode cX12_fleet 2 = .ok (.putfield 100, 3) := by decide +kernel
theorem dX12_fleet_5 : decode cX12_fleet 5 = .ok (.iload_n 1, 1) := by decide +kernel
theorem dX12_fleet_6 : decode cX12_fleet 6 = .ok (.invokestatic 265, 3) := by decide +kernel
theorem dX12_fleet_9 : decode cX12_fleet 9 = .ok (.ifCond .eq 6, 3) := by decide +kernel
theorem dX12_fleet_12 : decode cX12_fleet 12 = .ok (.bipush (-2), 2) := by decide +kernel
theorem dX12_fleet_14 : decode cX12_fleet 14 = .ok (.ireturn, 1) := by decide +kernel
theorem dX12_fleet_15 : decode cX12_fleet 15 = .ok (.iconst 0, 1) := by decide +kernel
theorem dX12_fleet_16 : decode cX12_fleet 16 = .ok (.istore_n 2, 1) := by decide +kernel
theorem dX12_fleet_17 : decode cX12_fleet 17 = .ok (.iconst 0, 1) := by decide +kernel
theorem dX12_fleet_18 : decode cX12_fleet 18 = .ok (.istore_n 3, 1) := by decide +kernel
theorem dX12_fleet_19 : decode cX12_fleet 19 = .ok (.iload_n 3, 1) := by decide +kernel
theorem dX12_fleet_20 : decode cX12_fleet 20 = .ok (.aload_n 0, 1) := by decide +kernel
theorem dX12_fleet_21 : decode cX12_fleet 21 = .ok (.getfield 110, 3) := by decide +kernel
theorem dX12_fleet_24 : decode cX12_fleet 24 = .ok (.if_icmp .ge 27, 3) := by decide +kernel
theorem dX12_fleet_27 : decode cX12_fleet 27 = .ok (.iload_n 2, 1) := by decide +kernel
theorem dX12_fleet_28 : decode cX12_fleet 28 = .ok (.aload_n 0, 1) := by decide +kernel
theorem dX12_fleet_29 : decode cX12_fleet 29 = .ok (.iload_n 3, 1) := by decide +kernel
theorem dX12_fleet_30 : decode cX12_fleet 30 = .ok (.invokevirtual 271, 3) := by decide +kernel
theorem dX12_fleet_33 : decode cX12_fleet 33 = .ok (.ifCond .eq 9, 3) := by decide +kernel
theorem dX12_fleet_36 : decode cX12_fleet 36 = .ok (.iconst 1, 1) := by decide +kernel
theorem dX12_fleet_37 : decode cX12_fleet 37 = .ok (.iload_n 3, 1) := by decide +kernel
theorem dX12_fleet_38 : decode cX12_fleet 38 = .ok (.ishl, 1) := by decide +kernel
theorem dX12_fleet_39 : decode cX12_fleet 39 = .ok (.goto 4, 3) := by decide +kernel
theorem dX12_fleet_42 : decode cX12_fleet 42 = .ok (.iconst 0, 1) := by decide +kernel
theorem dX12_fleet_43 : decode cX12_fleet 43 = .ok (.ior, 1) := by decide +kernel
theorem dX12_fleet_44 : decode cX12_fleet 44 = .ok (.istore_n 2, 1) := by decide +kernel
theorem dX12_fleet_45 : decode cX12_fleet 45 = .ok (.iinc 3 1, 3) := by decide +kernel
theorem dX12_fleet_48 : decode cX12_fleet 48 = .ok (.goto (-29), 3) := by decide +kernel
theorem dX12_fleet_51 : decode cX12_fleet 51 = .ok (.iconst 0, 1) := by decide +kernel
theorem dX12_fleet_52 : decode cX12_fleet 52 = .ok (.istore_n 3, 1) := by decide +kernel
theorem dX12_fleet_53 : decode cX12_fleet 53 = .ok (.iconst 0, 1) := by decide +kernel
theorem dX12_fleet_54 : decode cX12_fleet 54 = .ok (.istore 4, 2) := by decide +kernel
theorem dX12_fleet_56 : decode cX12_fleet 56 = .ok (.iconst 0, 1) := by decide +kernel
theorem dX12_fleet_57 : decode cX12_fleet 57 = .ok (.istore 5, 2) := by decide +kernel
theorem dX12_fleet_59 : decode cX12_fleet 59 = .ok (.iconst 1, 1) := by decide +kernel
theorem dX12_fleet_60 : decode cX12_fleet 60 = .ok (.istore 6, 2) := by decide +kernel
theorem dX12_fleet_62 : decode cX12_fleet 62 = .ok (.iload 6, 2) := by decide +kernel
theorem dX12_fleet_64 : decode cX12_fleet 64 = .ok (.iconst 1, 1) := by decide +kernel
theorem dX12_fleet_65 : decode cX12_fleet 65 = .ok (.aload_n 0, 1) := by decide +kernel
theorem dX12_fleet_66 : decode cX12_fleet 66 = .ok (.getfield 110, 3) := by decide +kernel
theorem dX12_fleet_69 : decode cX12_fleet 69 = .ok (.ishl, 1) := by decide +kernel
theorem dX12_fleet_70 : decode cX12_fleet 70 = .ok (.if_icmp .ge 104, 3) := by decide +kernel
theorem dX12_fleet_73 : decode cX12_fleet 73 = .ok (.iconst 0, 1) := by decide +kernel
theorem dX12_fleet_74 : decode cX12_fleet 74 = .ok (.istore 7, 2) := by decide +kernel
theorem dX12_fleet_76 : decode cX12_fleet 76 = .ok (.iconst 0, 1) := by decide +kernel
theorem dX12_fleet_77 : decode cX12_fleet 77 = .ok (.istore 8, 2) := by decide +kernel
theorem dX12_fleet_79 : decode cX12_fleet 79 = .ok (.iload 8, 2) := by decide +kernel
theorem dX12_fleet_81 : decode cX12_fleet 81 = .ok (.aload_n 0, 1) := by decide +kernel
theorem dX12_fleet_82 : decode cX12_fleet 82 = .ok (.getfield 110, 3) := by decide +kernel
theorem dX12_fleet_85 : decode cX12_fleet 85 = .ok (.if_icmp .ge 21, 3) := by decide +kernel
theorem dX12_fleet_88 : decode cX12_fleet 88 = .ok (.iload 7, 2) := by decide +kernel
theorem dX12_fleet_90 : decode cX12_fleet 90 = .ok (.iload 6, 2) := by decide +kernel
theorem dX12_fleet_92 : decode cX12_fleet 92 = .ok (.iload 8, 2) := by decide +kernel
theorem dX12_fleet_94 : decode cX12_fleet 94 = .ok (.ishr, 1) := by decide +kernel
theorem dX12_fleet_95 : decode cX12_fleet 95 = .ok (.iconst 1, 1) := by decide +kernel
theorem dX12_fleet_96 : decode cX12_fleet 96 = .ok (.iand, 1) := by decide +kernel
theorem dX12_fleet_97 : decode cX12_fleet 97 = .ok (.iadd, 1) := by decide +kernel
theorem dX12_fleet_98 : decode cX12_fleet 98 = .ok (.istore 7, 2) := by decide +kernel
theorem dX12_fleet_100 : decode cX12_fleet 100 = .ok (.iinc 8 1, 3) := by decide +kernel
theorem dX12_fleet_103 : decode cX12_fleet 103 = .ok (.goto (-24), 3) := by decide +kernel
theorem dX12_fleet_106 : decode cX12_fleet 106 = .ok (.iload 6, 2) := by decide +kernel
theorem dX12_fleet_108 : decode cX12_fleet 108 = .ok (.iload_n 2, 1) := by decide +kernel
theorem dX12_fleet_109 : decode cX12_fleet 109 = .ok (.iconst (-1), 1) := by decide +kernel
theorem dX12_fleet_110 : decode cX12_fleet 110 = .ok (.ixor, 1) := by decide +kernel
theorem dX12_fleet_111 : decode cX12_fleet 111 = .ok (.iand, 1) := by decide +kernel
theorem dX12_fleet_112 : decode cX12_fleet 112 = .ok (.ifCond .ne 20, 3) := by decide +kernel
theorem dX12_fleet_115 : decode cX12_fleet 115 = .ok (.iload 7, 2) := by decide +kernel
theorem dX12_fleet_117 : decode cX12_fleet 117 = .ok (.iload 4, 2) := by decide +kernel
theorem dX12_fleet_119 : decode cX12_fleet 119 = .ok (.if_icmp .lt 13, 3) := by decide +kernel
theorem dX12_fleet_122 : decode cX12_fleet 122 = .ok (.aload_n 0, 1) := by decide +kernel
theorem dX12_fleet_123 : decode cX12_fleet 123 = .ok (.iload 6, 2) := by decide +kernel
theorem dX12_fleet_125 : decode cX12_fleet 125 = .ok (.iload_n 1, 1) := by decide +kernel
theorem dX12_fleet_126 : decode cX12_fleet 126 = .ok (.invokevirtual 274, 3) := by decide +kernel
theorem dX12_fleet_129 : decode cX12_fleet 129 = .ok (.goto 5, 3) := by decide +kernel
theorem dX12_fleet_132 : decode cX12_fleet 132 = .ok (.bipush (-9), 2) := by decide +kernel
theorem dX12_fleet_134 : decode cX12_fleet 134 = .ok (.istore 8, 2) := by decide +kernel
theorem dX12_fleet_136 : decode cX12_fleet 136 = .ok (.iload 8, 2) := by decide +kernel
theorem dX12_fleet_138 : decode cX12_fleet 138 = .ok (.bipush (-9), 2) := by decide +kernel
theorem dX12_fleet_140 : decode cX12_fleet 140 = .ok (.if_icmp .eq 28, 3) := by decide +kernel
theorem dX12_fleet_143 : decode cX12_fleet 143 = .ok (.iload 7, 2) := by decide +kernel
theorem dX12_fleet_145 : decode cX12_fleet 145 = .ok (.iload 4, 2) := by decide +kernel
theorem dX12_fleet_147 : decode cX12_fleet 147 = .ok (.if_icmp .gt 10, 3) := by decide +kernel
theorem dX12_fleet_150 : decode cX12_fleet 150 = .ok (.iload 8, 2) := by decide +kernel
theorem dX12_fleet_152 : decode cX12_fleet 152 = .ok (.iload 5, 2) := by decide +kernel
theorem dX12_fleet_154 : decode cX12_fleet 154 = .ok (.if_icmp .ge 14, 3) := by decide +kernel
theorem dX12_fleet_157 : decode cX12_fleet 157 = .ok (.iload 6, 2) := by decide +kernel
theorem dX12_fleet_159 : decode cX12_fleet 159 = .ok (.istore_n 3, 1) := by decide +kernel
theorem dX12_fleet_160 : decode cX12_fleet 160 = .ok (.iload 7, 2) := by decide +kernel
theorem dX12_fleet_162 : decode cX12_fleet 162 = .ok (.istore 4, 2) := by decide +kernel
theorem dX12_fleet_164 : decode cX12_fleet 164 = .ok (.iload 8, 2) := by decide +kernel
theorem dX12_fleet_166 : decode cX12_fleet 166 = .ok (.istore 5, 2) := by decide +kernel
theorem dX12_fleet_168 : decode cX12_fleet 168 = .ok (.iinc 6 1, 3) := by decide +kernel
theorem dX12_fleet_171 : decode cX12_fleet 171 = .ok (.goto (-109), 3) := by decide +kernel
theorem dX12_fleet_174 : decode cX12_fleet 174 = .ok (.iload_n 3, 1) := by decide +kernel
theorem dX12_fleet_175 : decode cX12_fleet 175 = .ok (.ireturn, 1) := by decide +kernel
theorem dX12_sail_0 : decode cX12_sail 0 = .ok (.aload_n 0, 1) := by decide +kernel
theorem dX12_sail_1 : decode cX12_sail 1 = .ok (.iconst 0, 1) := by decide +kernel
theorem dX12_sail_2 : decode cX12_sail 2 = .ok (.putfield 100, 3) := by decide +kernel
theorem dX12_sail_5 : decode cX12_sail 5 = .ok (.aload_n 0, 1) := by decide +kernel
theorem dX12_sail_6 : decode cX12_sail 6 = .ok (.iload_n 1, 1) := by decide +kernel
theorem dX12_sail_7 : decode cX12_sail 7 = .ok (.invokevirtual 259, 3) := by decide +kernel
theorem dX12_sail_10 : decode cX12_sail 10 = .ok (.ifCond .eq 5, 3) := by decide +kernel
theorem dX12_sail_13 : decode cX12_sail 13 = .ok (.iconst (-1), 1) := by decide +kernel
theorem dX12_sail_14 : decode cX12_sail 14 = .ok (.ireturn, 1) := by decide +kernel
theorem dX12_sail_15 : decode cX12_sail 15 = .ok (.aload_n 0, 1) := by decide +kernel
theorem dX12_sail_16 : decode cX12_sail 16 = .ok (.getfield 43, 3) := by decide +kernel
theorem dX12_sail_19 : decode cX12_sail 19 = .ok (.iload_n 1, 1) := by decide +kernel
theorem dX12_sail_20 : decode cX12_sail 20 = .ok (.baload, 1) := by decide +kernel
theorem dX12_sail_21 : decode cX12_sail 21 = .ok (.ifCond .ne 37, 3) := by decide +kernel
theorem dX12_sail_24 : decode cX12_sail 24 = .ok (.aload_n 0, 1) := by decide +kernel
theorem dX12_sail_25 : decode cX12_sail 25 = .ok (.bipush 10, 2) := by decide +kernel
theorem dX12_sail_27 : decode cX12_sail 27 = .ok (.iload_n 1, 1) := by decide +kernel
theorem dX12_sail_28 : decode cX12_sail 28 = .ok (.iadd, 1) := by decide +kernel
theorem dX12_sail_29 : decode cX12_sail 29 = .ok (.invokevirtual 162, 3) := by decide +kernel
theorem dX12_sail_32 : decode cX12_sail 32 = .ok (.aload_n 0, 1) := by decide +kernel
theorem dX12_sail_33 : decode cX12_sail 33 = .ok (.getfield 34, 3) := by decide +kernel
theorem dX12_sail_36 : decode cX12_sail 36 = .ok (.iload_n 1, 1) := by decide +kernel
theorem dX12_sail_37 : decode cX12_sail 37 = .ok (.iaload, 1) := by decide +kernel
theorem dX12_sail_38 : decode cX12_sail 38 = .ok (.if_icmp .lt 20, 3) := by decide +kernel
theorem dX12_sail_41 : decode cX12_sail 41 = .ok (.aload_n 0, 1) := by decide +kernel
theorem dX12_sail_42 : decode cX12_sail 42 = .ok (.bipush 10, 2) := by decide +kernel
theorem dX12_sail_44 : decode cX12_sail 44 = .ok (.iload_n 1, 1) := by decide +kernel
theorem dX12_sail_45 : decode cX12_sail 45 = .ok (.iadd, 1) := by decide +kernel
theorem dX12_sail_46 : decode cX12_sail 46 = .ok (.invokevirtual 262, 3) := by decide +kernel
theorem dX12_sail_49 : decode cX12_sail 49 = .ok (.aload_n 0, 1) := by decide +kernel
theorem dX12_sail_50 : decode cX12_sail 50 = .ok (.getfield 37, 3) := by decide +kernel
theorem dX12_sail_53 : decode cX12_sail 53 = .ok (.iload_n 1, 1) := by decide +kernel
theorem dX12_sail_54 : decode cX12_sail 54 = .ok (.iaload, 1) := by decide +kernel
theorem dX12_sail_55 : decode cX12_sail 55 = .ok (.if_icmp .ge 6, 3) := by decide +kernel
theorem dX12_sail_58 : decode cX12_sail 58 = .ok (.bipush (-3), 2) := by decide +kernel
theorem dX12_sail_60 : decode cX12_sail 60 = .ok (.ireturn, 1) := by decide +kernel
theorem dX12_sail_61 : decode cX12_sail 61 = .ok (.aload_n 0, 1) := by decide +kernel
theorem dX12_sail_62 : decode cX12_sail 62 = .ok (.getfield 43, 3) := by decide +kernel
theorem dX12_sail_65 : decode cX12_sail 65 = .ok (.iload_n 1, 1) := by decide +kernel
theorem dX12_sail_66 : decode cX12_sail 66 = .ok (.iconst 1, 1) := by decide +kernel
theorem dX12_sail_67 : decode cX12_sail 67 = .ok (.bastore, 1) := by decide +kernel
theorem dX12_sail_68 : decode cX12_sail 68 = .ok (.aload_n 0, 1) := by decide +kernel
theorem dX12_sail_69 : decode cX12_sail 69 = .ok (.bipush 10, 2) := by decide +kernel
theorem dX12_sail_71 : decode cX12_sail 71 = .ok (.iload_n 1, 1) := by decide +kernel
theorem dX12_sail_72 : decode cX12_sail 72 = .ok (.iadd, 1) := by decide +kernel
theorem dX12_sail_73 : decode cX12_sail 73 = .ok (.invokevirtual 162, 3) := by decide +kernel
theorem dX12_sail_76 : decode cX12_sail 76 = .ok (.ireturn, 1) := by decide +kernel
theorem dX12_comeHome_0 : decode cX12_comeHome 0 = .ok (.aload_n 0, 1) := by decide +kernel
theorem dX12_comeHome_1 : decode cX12_comeHome 1 = .ok (.iconst 0, 1) := by decide +kernel
theorem dX12_comeHome_2 : decode cX12_comeHome 2 = .ok (.putfield 100, 3) := by decide +kernel
theorem dX12_comeHome_5 : decode cX12_comeHome 5 = .ok (.aload_n 0, 1) := by decide +kernel
theorem dX12_comeHome_6 : decode cX12_comeHome 6 = .ok (.iload_n 1, 1) := by decide +kernel
theorem dX12_comeHome_7 : decode cX12_comeHome 7 = .ok (.invokevirtual 259, 3) := by decide +kernel
theorem dX12_comeHome_10 : decode cX12_comeHome 10 = .ok (.ifCond .eq 5, 3) := by decide +kernel
theorem dX12_comeHome_13 : decode cX12_comeHome 13 = .ok (.iconst (-1), 1) := by decide +kernel
theorem dX12_comeHome_14 : decode cX12_comeHome 14 = .ok (.ireturn, 1) := by decide +kernel
theorem dX12_comeHome_15 : decode cX12_comeHome 15 = .ok (.aload_n 0, 1) := by decide +kernel
theorem dX12_comeHome_16 : decode cX12_comeHome 16 = .ok (.getfield 43, 3) := by decide +kernel
theorem dX12_comeHome_19 : decode cX12_comeHome 19 = .ok (.iload_n 1, 1) := by decide +kernel
theorem dX12_comeHome_20 : decode cX12_comeHome 20 = .ok (.baload, 1) := by decide +kernel
theorem dX12_comeHome_21 : decode cX12_comeHome 21 = .ok (.ifCond .ne 6, 3) := by decide +kernel
theorem dX12_comeHome_24 : decode cX12_comeHome 24 = .ok (.bipush (-3), 2) := by decide +kernel
theorem dX12_comeHome_26 : decode cX12_comeHome 26 = .ok (.ireturn, 1) := by decide +kernel
theorem dX12_comeHome_27 : decode cX12_comeHome 27 = .ok (.aload_n 0, 1) := by decide +kernel
theorem dX12_comeHome_28 : decode cX12_comeHome 28 = .ok (.getfield 43, 3) := by decide +kernel
theorem dX12_comeHome_31 : decode cX12_comeHome 31 = .ok (.iload_n 1, 1) := by decide +kernel
theorem dX12_comeHome_32 : decode cX12_comeHome 32 = .ok (.iconst 0, 1) := by decide +kernel
theorem dX12_comeHome_33 : decode cX12_comeHome 33 = .ok (.bastore, 1) := by decide +kernel
theorem dX12_comeHome_34 : decode cX12_comeHome 34 = .ok (.aload_n 0, 1) := by decide +kernel
theorem dX12_comeHome_35 : decode cX12_comeHome 35 = .ok (.bipush 10, 2) := by decide +kernel
theorem dX12_comeHome_37 : decode cX12_comeHome 37 = .ok (.iload_n 1, 1) := by decide +kernel
theorem dX12_comeHome_38 : decode cX12_comeHome 38 = .ok (.iadd, 1) := by decide +kernel
theorem dX12_comeHome_39 : decode cX12_comeHome 39 = .ok (.invokevirtual 162, 3) := by decide +kernel
theorem dX12_comeHome_42 : decode cX12_comeHome 42 = .ok (.ireturn, 1) := by decide +kernel
theorem dX12_noTicket_0 : decode cX12_noTicket 0 = .ok (.iload_n 1, 1) := by decide +kernel
theorem dX12_noTicket_1 : decode cX12_noTicket 1 = .ok (.i2l, 1) := by decide +kernel
theorem dX12_noTicket_2 : decode cX12_noTicket 2 = .ok (.lconst 0, 1) := by decide +kernel
theorem dX12_noTicket_3 : decode cX12_noTicket 3 = .ok (.aload_n 0, 1) := by decide +kernel
theorem dX12_noTicket_4 : decode cX12_noTicket 4 = .ok (.getfield 277, 3) := by decide +kernel
theorem dX12_noTicket_7 : decode cX12_noTicket 7 = .ok (.iconst 1, 1) := by decide +kernel
theorem dX12_noTicket_8 : decode cX12_noTicket 8 = .ok (.isub, 1) := by decide +kernel
theorem dX12_noTicket_9 : decode cX12_noTicket 9 = .ok (.i2l, 1) := by decide +kernel
theorem dX12_noTicket_10 : decode cX12_noTicket 10 = .ok (.invokestatic 103, 3) := by decide +kernel
theorem dX12_noTicket_13 : decode cX12_noTicket 13 = .ok (.ifCond .ne 7, 3) := by decide +kernel
theorem dX12_noTicket_16 : decode cX12_noTicket 16 = .ok (.iconst 1, 1) := by decide +kernel
theorem dX12_noTicket_17 : decode cX12_noTicket 17 = .ok (.goto 4, 3) := by decide +kernel
theorem dX12_noTicket_20 : decode cX12_noTicket 20 = .ok (.iconst 0, 1) := by decide +kernel
theorem dX12_noTicket_21 : decode cX12_noTicket 21 = .ok (.ireturn, 1) := by decide +kernel
theorem dX12_noHolder_0 : decode cX12_noHolder 0 = .ok (.iload_n 0, 1) := by decide +kernel
theorem dX12_noHolder_1 : decode cX12_noHolder 1 = .ok (.i2l, 1) := by decide +kernel
theorem dX12_noHolder_2 : decode cX12_noHolder 2 = .ok (.lconst 0, 1) := by decide +kernel
theorem dX12_noHolder_3 : decode cX12_noHolder 3 = .ok (.ldc2_w 280, 3) := by decide +kernel
theorem dX12_noHolder_6 : decode cX12_noHolder 6 = .ok (.invokestatic 103, 3) := by decide +kernel
theorem dX12_noHolder_9 : decode cX12_noHolder 9 = .ok (.ifCond .ne 7, 3) := by decide +kernel
theorem dX12_noHolder_12 : decode cX12_noHolder 12 = .ok (.iconst 1, 1) := by decide +kernel
theorem dX12_noHolder_13 : decode cX12_noHolder 13 = .ok (.goto 4, 3) := by decide +kernel
theorem dX12_noHolder_16 : decode cX12_noHolder 16 = .ok (.iconst 0, 1) := by decide +kernel
theorem dX12_noHolder_17 : decode cX12_noHolder 17 = .ok (.ireturn, 1) := by decide +kernel
theorem dX12_ticket_0 : decode cX12_ticket 0 = .ok (.aload_n 0, 1) := by decide +kernel
theorem dX12_ticket_1 : decode cX12_ticket 1 = .ok (.iconst 0, 1) := by decide +kernel
theorem dX12_ticket_2 : decode cX12_ticket 2 = .ok (.putfield 100, 3) := by decide +kernel
theorem dX12_ticket_5 : decode cX12_ticket 5 = .ok (.aload_n 0, 1) := by decide +kernel
theorem dX12_ticket_6 : decode cX12_ticket 6 = .ok (.iload_n 1, 1) := by decide +kernel
theorem dX12_ticket_7 : decode cX12_ticket 7 = .ok (.invokevirtual 144, 3) := by decide +kernel
theorem dX12_ticket_10 : decode cX12_ticket 10 = .ok (.ifCond .eq 5, 3) := by decide +kernel
theorem dX12_ticket_13 : decode cX12_ticket 13 = .ok (.iconst (-1), 1) := by decide +kernel
theorem dX12_ticket_14 : decode cX12_ticket 14 = .ok (.ireturn, 1) := by decide +kernel
theorem dX12_ticket_15 : decode cX12_ticket 15 = .ok (.iload_n 2, 1) := by decide +kernel
theorem dX12_ticket_16 : decode cX12_ticket 16 = .ok (.i2l, 1) := by decide +kernel
theorem dX12_ticket_17 : decode cX12_ticket 17 = .ok (.lconst 1, 1) := by decide +kernel
theorem dX12_ticket_18 : decode cX12_ticket 18 = .ok (.ldc2_w 282, 3) := by decide +kernel
theorem dX12_ticket_21 : decode cX12_ticket 21 = .ok (.invokestatic 103, 3) := by decide +kernel
theorem dX12_ticket_24 : decode cX12_ticket 24 = .ok (.ifCond .eq 15, 3) := by decide +kernel
theorem dX12_ticket_27 : decode cX12_ticket 27 = .ok (.iload_n 3, 1) := by decide +kernel
theorem dX12_ticket_28 : decode cX12_ticket 28 = .ok (.i2l, 1) := by decide +kernel
theorem dX12_ticket_29 : decode cX12_ticket 29 = .ok (.lconst 1, 1) := by decide +kernel
theorem dX12_ticket_30 : decode cX12_ticket 30 = .ok (.ldc2_w 133, 3) := by decide +kernel
theorem dX12_ticket_33 : decode cX12_ticket 33 = .ok (.invokestatic 103, 3) := by decide +kernel
theorem dX12_ticket_36 : decode cX12_ticket 36 = .ok (.ifCond .ne 6, 3) := by decide +kernel
theorem dX12_ticket_39 : decode cX12_ticket 39 = .ok (.bipush (-2), 2) := by decide +kernel
theorem dX12_ticket_41 : decode cX12_ticket 41 = .ok (.ireturn, 1) := by decide +kernel
theorem dX12_ticket_42 : decode cX12_ticket 42 = .ok (.aload_n 0, 1) := by decide +kernel
theorem dX12_ticket_43 : decode cX12_ticket 43 = .ok (.getfield 277, 3) := by decide +kernel
theorem dX12_ticket_46 : decode cX12_ticket 46 = .ok (.bipush 40, 2) := by decide +kernel
theorem dX12_ticket_48 : decode cX12_ticket 48 = .ok (.if_icmp .ne 6, 3) := by decide +kernel
theorem dX12_ticket_51 : decode cX12_ticket 51 = .ok (.bipush (-4), 2) := by decide +kernel
theorem dX12_ticket_53 : decode cX12_ticket 53 = .ok (.ireturn, 1) := by decide +kernel
theorem dX12_ticket_54 : decode cX12_ticket 54 = .ok (.aload_n 0, 1) := by decide +kernel
theorem dX12_ticket_55 : decode cX12_ticket 55 = .ok (.getfield 79, 3) := by decide +kernel
theorem dX12_ticket_58 : decode cX12_ticket 58 = .ok (.aload_n 0, 1) := by decide +kernel
theorem dX12_ticket_59 : decode cX12_ticket 59 = .ok (.getfield 277, 3) := by decide +kernel
theorem dX12_ticket_62 : decode cX12_ticket 62 = .ok (.iload_n 1, 1) := by decide +kernel
theorem dX12_ticket_63 : decode cX12_ticket 63 = .ok (.iastore, 1) := by decide +kernel
theorem dX12_ticket_64 : decode cX12_ticket 64 = .ok (.aload_n 0, 1) := by decide +kernel
theorem dX12_ticket_65 : decode cX12_ticket 65 = .ok (.getfield 82, 3) := by decide +kernel
theorem dX12_ticket_68 : decode cX12_ticket 68 = .ok (.aload_n 0, 1) := by decide +kernel
theorem dX12_ticket_69 : decode cX12_ticket 69 = .ok (.getfield 277, 3) := by decide +kernel
theorem dX12_ticket_72 : decode cX12_ticket 72 = .ok (.iload_n 2, 1) := by decide +kernel
theorem dX12_ticket_73 : decode cX12_ticket 73 = .ok (.iload_n 3, 1) := by decide +kernel
theorem dX12_ticket_74 : decode cX12_ticket 74 = .ok (.imul, 1) := by decide +kernel
theorem dX12_ticket_75 : decode cX12_ticket 75 = .ok (.iastore, 1) := by decide +kernel
theorem dX12_ticket_76 : decode cX12_ticket 76 = .ok (.aload_n 0, 1) := by decide +kernel
theorem dX12_ticket_77 : decode cX12_ticket 77 = .ok (.getfield 85, 3) := by decide +kernel
theorem dX12_ticket_80 : decode cX12_ticket 80 = .ok (.aload_n 0, 1) := by decide +kernel
theorem dX12_ticket_81 : decode cX12_ticket 81 = .ok (.getfield 277, 3) := by decide +kernel
theorem dX12_ticket_84 : decode cX12_ticket 84 = .ok (.bipush (-9), 2) := by decide +kernel
theorem dX12_ticket_86 : decode cX12_ticket 86 = .ok (.iastore, 1) := by decide +kernel
theorem dX12_ticket_87 : decode cX12_ticket 87 = .ok (.aload_n 0, 1) := by decide +kernel
theorem dX12_ticket_88 : decode cX12_ticket 88 = .ok (.dup, 1) := by decide +kernel
theorem dX12_ticket_89 : decode cX12_ticket 89 = .ok (.getfield 277, 3) := by decide +kernel
theorem dX12_ticket_92 : decode cX12_ticket 92 = .ok (.iconst 1, 1) := by decide +kernel
theorem dX12_ticket_93 : decode cX12_ticket 93 = .ok (.iadd, 1) := by decide +kernel
theorem dX12_ticket_94 : decode cX12_ticket 94 = .ok (.putfield 277, 3) := by decide +kernel
theorem dX12_ticket_97 : decode cX12_ticket 97 = .ok (.aload_n 0, 1) := by decide +kernel
theorem dX12_ticket_98 : decode cX12_ticket 98 = .ok (.getfield 277, 3) := by decide +kernel
theorem dX12_ticket_101 : decode cX12_ticket 101 = .ok (.iconst 1, 1) := by decide +kernel
theorem dX12_ticket_102 : decode cX12_ticket 102 = .ok (.isub, 1) := by decide +kernel
theorem dX12_ticket_103 : decode cX12_ticket 103 = .ok (.ireturn, 1) := by decide +kernel
theorem dX12_give_0 : decode cX12_give 0 = .ok (.iload_n 2, 1) := by decide +kernel
theorem dX12_give_1 : decode cX12_give 1 = .ok (.bipush (-9), 2) := by decide +kernel
theorem dX12_give_3 : decode cX12_give 3 = .ok (.if_icmp .ne 21, 3) := by decide +kernel
theorem dX12_give_6 : decode cX12_give 6 = .ok (.aload_n 0, 1) := by decide +kernel
theorem dX12_give_7 : decode cX12_give 7 = .ok (.getfield 97, 3) := by decide +kernel
theorem dX12_give_10 : decode cX12_give 10 = .ok (.aload_n 0, 1) := by decide +kernel
theorem dX12_give_11 : decode cX12_give 11 = .ok (.getfield 79, 3) := by decide +kernel
theorem dX12_give_14 : decode cX12_give 14 = .ok (.iload_n 1, 1) := by decide +kernel
theorem dX12_give_15 : decode cX12_give 15 = .ok (.iaload, 1) := by decide +kernel
theorem dX12_give_16 : decode cX12_give 16 = .ok (.dup2, 1) := by decide +kernel
theorem dX12_give_17 : decode cX12_give 17 = .ok (.iaload, 1) := by decide +kernel
theorem dX12_give_18 : decode cX12_give 18 = .ok (.iload_n 3, 1) := by decide +kernel
theorem dX12_give_19 : decode cX12_give 19 = .ok (.iadd, 1) := by decide +kernel
theorem dX12_give_20 : decode cX12_give 20 = .ok (.iastore, 1) := by decide +kernel
theorem dX12_give_21 : decode cX12_give 21 = .ok (.goto 13, 3) := by decide +kernel
theorem dX12_give_24 : decode cX12_give 24 = .ok (.aload_n 0, 1) := by decide +kernel
theorem dX12_give_25 : decode cX12_give 25 = .ok (.getfield 94, 3) := by decide +kernel
theorem dX12_give_28 : decode cX12_give 28 = .ok (.iload_n 2, 1) := by decide +kernel
theorem dX12_give_29 : decode cX12_give 29 = .ok (.dup2, 1) := by decide +kernel
theorem dX12_give_30 : decode cX12_give 30 = .ok (.iaload, 1) := by decide +kernel
theorem dX12_give_31 : decode cX12_give 31 = .ok (.iload_n 3, 1) := by decide +kernel
theorem dX12_give_32 : decode cX12_give 32 = .ok (.iadd, 1) := by decide +kernel
theorem dX12_give_33 : decode cX12_give 33 = .ok (.iastore, 1) := by decide +kernel
theorem dX12_give_34 : decode cX12_give 34 = .ok (.return_, 1) := by decide +kernel
theorem dX12_sell_0 : decode cX12_sell 0 = .ok (.aload_n 0, 1) := by decide +kernel
theorem dX12_sell_1 : decode cX12_sell 1 = .ok (.iconst 0, 1) := by decide +kernel
theorem dX12_sell_2 : decode cX12_sell 2 = .ok (.putfield 100, 3) := by decide +kernel
theorem dX12_sell_5 : decode cX12_sell 5 = .ok (.aload_n 0, 1) := by decide +kernel
theorem dX12_sell_6 : decode cX12_sell 6 = .ok (.iload_n 1, 1) := by decide +kernel
theorem dX12_sell_7 : decode cX12_sell 7 = .ok (.invokevirtual 284, 3) := by decide +kernel
theorem dX12_sell_10 : decode cX12_sell 10 = .ok (.ifCond .ne 10, 3) := by decide +kernel
theorem dX12_sell_13 : decode cX12_sell 13 = .ok (.iload_n 2, 1) := by decide +kernel
theorem dX12_sell_14 : decode cX12_sell 14 = .ok (.invokestatic 287, 3) := by decide +kernel
theorem dX12_sell_17 : decode cX12_sell 17 = .ok (.ifCond .eq 5, 3) := by decide +kernel
theorem dX12_sell_20 : decode cX12_sell 20 = .ok (.iconst (-1), 1) := by decide +kernel
theorem dX12_sell_21 : decode cX12_sell 21 = .ok (.ireturn, 1) := by decide +kernel
theorem dX12_sell_22 : decode cX12_sell 22 = .ok (.iload_n 3, 1) := by decide +kernel
theorem dX12_sell_23 : decode cX12_sell 23 = .ok (.i2l, 1) := by decide +kernel
theorem dX12_sell_24 : decode cX12_sell 24 = .ok (.lconst 1, 1) := by decide +kernel
theorem dX12_sell_25 : decode cX12_sell 25 = .ok (.ldc2_w 242, 3) := by decide +kernel
theorem dX12_sell_28 : decode cX12_sell 28 = .ok (.invokestatic 103, 3) := by decide +kernel
theorem dX12_sell_31 : decode cX12_sell 31 = .ok (.ifCond .ne 6, 3) := by decide +kernel
theorem dX12_sell_34 : decode cX12_sell 34 = .ok (.bipush (-2), 2) := by decide +kernel
theorem dX12_sell_36 : decode cX12_sell 36 = .ok (.ireturn, 1) := by decide +kernel
theorem dX12_sell_37 : decode cX12_sell 37 = .ok (.aload_n 0, 1) := by decide +kernel
theorem dX12_sell_38 : decode cX12_sell 38 = .ok (.getfield 88, 3) := by decide +kernel
theorem dX12_sell_41 : decode cX12_sell 41 = .ok (.iload_n 1, 1) := by decide +kernel
theorem dX12_sell_42 : decode cX12_sell 42 = .ok (.baload, 1) := by decide +kernel
theorem dX12_sell_43 : decode cX12_sell 43 = .ok (.ifCond .ne 13, 3) := by decide +kernel
theorem dX12_sell_46 : decode cX12_sell 46 = .ok (.aload_n 0, 1) := by decide +kernel
theorem dX12_sell_47 : decode cX12_sell 47 = .ok (.getfield 85, 3) := by decide +kernel
theorem dX12_sell_50 : decode cX12_sell 50 = .ok (.iload_n 1, 1) := by decide +kernel
theorem dX12_sell_51 : decode cX12_sell 51 = .ok (.iaload, 1) := by decide +kernel
theorem dX12_sell_52 : decode cX12_sell 52 = .ok (.iload_n 2, 1) := by decide +kernel
theorem dX12_sell_53 : decode cX12_sell 53 = .ok (.if_icmp .ne 6, 3) := by decide +kernel
theorem dX12_sell_56 : decode cX12_sell 56 = .ok (.bipush (-3), 2) := by decide +kernel
theorem dX12_sell_58 : decode cX12_sell 58 = .ok (.ireturn, 1) := by decide +kernel
theorem dX12_sell_59 : decode cX12_sell 59 = .ok (.aload_n 0, 1) := by decide +kernel
theorem dX12_sell_60 : decode cX12_sell 60 = .ok (.getfield 82, 3) := by decide +kernel
theorem dX12_sell_63 : decode cX12_sell 63 = .ok (.iload_n 1, 1) := by decide +kernel
theorem dX12_sell_64 : decode cX12_sell 64 = .ok (.iaload, 1) := by decide +kernel
theorem dX12_sell_65 : decode cX12_sell 65 = .ok (.iload_n 3, 1) := by decide +kernel
theorem dX12_sell_66 : decode cX12_sell 66 = .ok (.imul, 1) := by decide +kernel
theorem dX12_sell_67 : decode cX12_sell 67 = .ok (.bipush 100, 2) := by decide +kernel
theorem dX12_sell_69 : decode cX12_sell 69 = .ok (.idiv, 1) := by decide +kernel
theorem dX12_sell_70 : decode cX12_sell 70 = .ok (.istore 4, 2) := by decide +kernel
theorem dX12_sell_72 : decode cX12_sell 72 = .ok (.aload_n 0, 1) := by decide +kernel
theorem dX12_sell_73 : decode cX12_sell 73 = .ok (.iload_n 1, 1) := by decide +kernel
theorem dX12_sell_74 : decode cX12_sell 74 = .ok (.aload_n 0, 1) := by decide +kernel
theorem dX12_sell_75 : decode cX12_sell 75 = .ok (.getfield 85, 3) := by decide +kernel
theorem dX12_sell_78 : decode cX12_sell 78 = .ok (.iload_n 1, 1) := by decide +kernel
theorem dX12_sell_79 : decode cX12_sell 79 = .ok (.iaload, 1) := by decide +kernel
theorem dX12_sell_80 : decode cX12_sell 80 = .ok (.iload 4, 2) := by decide +kernel
theorem dX12_sell_82 : decode cX12_sell 82 = .ok (.invokevirtual 290, 3) := by decide +kernel
theorem dX12_sell_85 : decode cX12_sell 85 = .ok (.aload_n 0, 1) := by decide +kernel
theorem dX12_sell_86 : decode cX12_sell 86 = .ok (.iload_n 1, 1) := by decide +kernel
theorem dX12_sell_87 : decode cX12_sell 87 = .ok (.iload_n 2, 1) := by decide +kernel
theorem dX12_sell_88 : decode cX12_sell 88 = .ok (.iload 4, 2) := by decide +kernel
theorem dX12_sell_90 : decode cX12_sell 90 = .ok (.ineg, 1) := by decide +kernel
theorem dX12_sell_91 : decode cX12_sell 91 = .ok (.invokevirtual 290, 3) := by decide +kernel
theorem dX12_sell_94 : decode cX12_sell 94 = .ok (.aload_n 0, 1) := by decide +kernel
theorem dX12_sell_95 : decode cX12_sell 95 = .ok (.getfield 85, 3) := by decide +kernel
theorem dX12_sell_98 : decode cX12_sell 98 = .ok (.iload_n 1, 1) := by decide +kernel
theorem dX12_sell_99 : decode cX12_sell 99 = .ok (.iload_n 2, 1) := by decide +kernel
theorem dX12_sell_100 : decode cX12_sell 100 = .ok (.iastore, 1) := by decide +kernel
theorem dX12_sell_101 : decode cX12_sell 101 = .ok (.iload 4, 2) := by decide +kernel
theorem dX12_sell_103 : decode cX12_sell 103 = .ok (.ireturn, 1) := by decide +kernel
theorem dX12_pay_0 : decode cX12_pay 0 = .ok (.aload_n 0, 1) := by decide +kernel
theorem dX12_pay_1 : decode cX12_pay 1 = .ok (.iconst 0, 1) := by decide +kernel
theorem dX12_pay_2 : decode cX12_pay 2 = .ok (.putfield 100, 3) := by decide +kernel
theorem dX12_pay_5 : decode cX12_pay 5 = .ok (.aload_n 0, 1) := by decide +kernel
theorem dX12_pay_6 : decode cX12_pay 6 = .ok (.iload_n 1, 1) := by decide +kernel
theorem dX12_pay_7 : decode cX12_pay 7 = .ok (.invokevirtual 284, 3) := by decide +kernel
theorem dX12_pay_10 : decode cX12_pay 10 = .ok (.ifCond .ne 16, 3) := by decide +kernel
theorem dX12_pay_13 : decode cX12_pay 13 = .ok (.iload_n 2, 1) := by decide +kernel
theorem dX12_pay_14 : decode cX12_pay 14 = .ok (.bipush (-9), 2) := by decide +kernel
theorem dX12_pay_16 : decode cX12_pay 16 = .ok (.if_icmp .eq 12, 3) := by decide +kernel
theorem dX12_pay_19 : decode cX12_pay 19 = .ok (.iload_n 2, 1) := by decide +kernel
theorem dX12_pay_20 : decode cX12_pay 20 = .ok (.invokestatic 287, 3) := by decide +kernel
theorem dX12_pay_23 : decode cX12_pay 23 = .ok (.ifCond .eq 5, 3) := by decide +kernel
theorem dX12_pay_26 : decode cX12_pay 26 = .ok (.iconst (-1), 1) := by decide +kernel
theorem dX12_pay_27 : decode cX12_pay 27 = .ok (.ireturn, 1) := by decide +kernel
theorem dX12_pay_28 : decode cX12_pay 28 = .ok (.aload_n 0, 1) := by decide +kernel
theorem dX12_pay_29 : decode cX12_pay 29 = .ok (.getfield 88, 3) := by decide +kernel
theorem dX12_pay_32 : decode cX12_pay 32 = .ok (.iload_n 1, 1) := by decide +kernel
theorem dX12_pay_33 : decode cX12_pay 33 = .ok (.baload, 1) := by decide +kernel
theorem dX12_pay_34 : decode cX12_pay 34 = .ok (.ifCond .ne 13, 3) := by decide +kernel
theorem dX12_pay_37 : decode cX12_pay 37 = .ok (.aload_n 0, 1) := by decide +kernel
theorem dX12_pay_38 : decode cX12_pay 38 = .ok (.getfield 85, 3) := by decide +kernel
theorem dX12_pay_41 : decode cX12_pay 41 = .ok (.iload_n 1, 1) := by decide +kernel
theorem dX12_pay_42 : decode cX12_pay 42 = .ok (.iaload, 1) := by decide +kernel
theorem dX12_pay_43 : decode cX12_pay 43 = .ok (.iload_n 2, 1) := by decide +kernel
theorem dX12_pay_44 : decode cX12_pay 44 = .ok (.if_icmp .eq 16, 3) := by decide +kernel
theorem dX12_pay_47 : decode cX12_pay 47 = .ok (.aload_n 0, 1) := by decide +kernel
theorem dX12_pay_48 : decode cX12_pay 48 = .ok (.getfield 91, 3) := by decide +kernel
theorem dX12_pay_51 : decode cX12_pay 51 = .ok (.iload_n 1, 1) := by decide +kernel
theorem dX12_pay_52 : decode cX12_pay 52 = .ok (.dup2, 1) := by decide +kernel
theorem dX12_pay_53 : decode cX12_pay 53 = .ok (.iaload, 1) := by decide +kernel
theorem dX12_pay_54 : decode cX12_pay 54 = .ok (.iconst 1, 1) := by decide +kernel
theorem dX12_pay_55 : decode cX12_pay 55 = .ok (.iadd, 1) := by decide +kernel
theorem dX12_pay_56 : decode cX12_pay 56 = .ok (.iastore, 1) := by decide +kernel
theorem dX12_pay_57 : decode cX12_pay 57 = .ok (.goto 10, 3) := by decide +kernel
theorem dX12_pay_60 : decode cX12_pay 60 = .ok (.aload_n 0, 1) := by decide +kernel
theorem dX12_pay_61 : decode cX12_pay 61 = .ok (.getfield 88, 3) := by decide +kernel
theorem dX12_pay_64 : decode cX12_pay 64 = .ok (.iload_n 1, 1) := by decide +kernel
theorem dX12_pay_65 : decode cX12_pay 65 = .ok (.iconst 1, 1) := by decide +kernel
theorem dX12_pay_66 : decode cX12_pay 66 = .ok (.bastore, 1) := by decide +kernel
theorem dX12_pay_67 : decode cX12_pay 67 = .ok (.aload_n 0, 1) := by decide +kernel
theorem dX12_pay_68 : decode cX12_pay 68 = .ok (.iload_n 1, 1) := by decide +kernel
theorem dX12_pay_69 : decode cX12_pay 69 = .ok (.iload_n 2, 1) := by decide +kernel
theorem dX12_pay_70 : decode cX12_pay 70 = .ok (.aload_n 0, 1) := by decide +kernel
theorem dX12_pay_71 : decode cX12_pay 71 = .ok (.getfield 82, 3) := by decide +kernel
theorem dX12_pay_74 : decode cX12_pay 74 = .ok (.iload_n 1, 1) := by decide +kernel
theorem dX12_pay_75 : decode cX12_pay 75 = .ok (.iaload, 1) := by decide +kernel
theorem dX12_pay_76 : decode cX12_pay 76 = .ok (.invokevirtual 290, 3) := by decide +kernel
theorem dX12_pay_79 : decode cX12_pay 79 = .ok (.aload_n 0, 1) := by decide +kernel
theorem dX12_pay_80 : decode cX12_pay 80 = .ok (.getfield 82, 3) := by decide +kernel
theorem dX12_pay_83 : decode cX12_pay 83 = .ok (.iload_n 1, 1) := by decide +kernel
theorem dX12_pay_84 : decode cX12_pay 84 = .ok (.iaload, 1) := by decide +kernel
theorem dX12_pay_85 : decode cX12_pay 85 = .ok (.ireturn, 1) := by decide +kernel
theorem dX12_ticketOf_0 : decode cX12_ticketOf 0 = .ok (.aload_n 0, 1) := by decide +kernel
theorem dX12_ticketOf_1 : decode cX12_ticketOf 1 = .ok (.iconst 0, 1) := by decide +kernel
theorem dX12_ticketOf_2 : decode cX12_ticketOf 2 = .ok (.putfield 100, 3) := by decide +kernel
theorem dX12_ticketOf_5 : decode cX12_ticketOf 5 = .ok (.aload_n 0, 1) := by decide +kernel
theorem dX12_ticketOf_6 : decode cX12_ticketOf 6 = .ok (.iload_n 1, 1) := by decide +kernel
theorem dX12_ticketOf_7 : decode cX12_ticketOf 7 = .ok (.invokevirtual 284, 3) := by decide +kernel
theorem dX12_ticketOf_10 : decode cX12_ticketOf 10 = .ok (.ifCond .eq 5, 3) := by decide +kernel
theorem dX12_ticketOf_13 : decode cX12_ticketOf 13 = .ok (.iconst (-1), 1) := by decide +kernel
theorem dX12_ticketOf_14 : decode cX12_ticketOf 14 = .ok (.ireturn, 1) := by decide +kernel
theorem dX12_ticketOf_15 : decode cX12_ticketOf 15 = .ok (.iload_n 2, 1) := by decide +kernel
theorem dX12_ticketOf_16 : decode cX12_ticketOf 16 = .ok (.tableswitch 68 0 3 #[32, 39, 54, 61], 32) := by decide +kernel
theorem dX12_ticketOf_48 : decode cX12_ticketOf 48 = .ok (.aload_n 0, 1) := by decide +kernel
theorem dX12_ticketOf_49 : decode cX12_ticketOf 49 = .ok (.getfield 85, 3) := by decide +kernel
theorem dX12_ticketOf_52 : decode cX12_ticketOf 52 = .ok (.iload_n 1, 1) := by decide +kernel
theorem dX12_ticketOf_53 : decode cX12_ticketOf 53 = .ok (.iaload, 1) := by decide +kernel
theorem dX12_ticketOf_54 : decode cX12_ticketOf 54 = .ok (.ireturn, 1) := by decide +kernel
theorem dX12_ticketOf_55 : decode cX12_ticketOf 55 = .ok (.aload_n 0, 1) := by decide +kernel
theorem dX12_ticketOf_56 : decode cX12_ticketOf 56 = .ok (.getfield 88, 3) := by decide +kernel
theorem dX12_ticketOf_59 : decode cX12_ticketOf 59 = .ok (.iload_n 1, 1) := by decide +kernel
theorem dX12_ticketOf_60 : decode cX12_ticketOf 60 = .ok (.baload, 1) := by decide +kernel
theorem dX12_ticketOf_61 : decode cX12_ticketOf 61 = .ok (.ifCond .eq 7, 3) := by decide +kernel
theorem dX12_ticketOf_64 : decode cX12_ticketOf 64 = .ok (.iconst 1, 1) := by decide +kernel
theorem dX12_ticketOf_65 : decode cX12_ticketOf 65 = .ok (.goto 4, 3) := by decide +kernel
theorem dX12_ticketOf_68 : decode cX12_ticketOf 68 = .ok (.iconst 0, 1) := by decide +kernel
theorem dX12_ticketOf_69 : decode cX12_ticketOf 69 = .ok (.ireturn, 1) := by decide +kernel
theorem dX12_ticketOf_70 : decode cX12_ticketOf 70 = .ok (.aload_n 0, 1) := by decide +kernel
theorem dX12_ticketOf_71 : decode cX12_ticketOf 71 = .ok (.getfield 91, 3) := by decide +kernel
theorem dX12_ticketOf_74 : decode cX12_ticketOf 74 = .ok (.iload_n 1, 1) := by decide +kernel
theorem dX12_ticketOf_75 : decode cX12_ticketOf 75 = .ok (.iaload, 1) := by decide +kernel
theorem dX12_ticketOf_76 : decode cX12_ticketOf 76 = .ok (.ireturn, 1) := by decide +kernel
theorem dX12_ticketOf_77 : decode cX12_ticketOf 77 = .ok (.aload_n 0, 1) := by decide +kernel
theorem dX12_ticketOf_78 : decode cX12_ticketOf 78 = .ok (.getfield 82, 3) := by decide +kernel
theorem dX12_ticketOf_81 : decode cX12_ticketOf 81 = .ok (.iload_n 1, 1) := by decide +kernel
theorem dX12_ticketOf_82 : decode cX12_ticketOf 82 = .ok (.iaload, 1) := by decide +kernel
theorem dX12_ticketOf_83 : decode cX12_ticketOf 83 = .ok (.ireturn, 1) := by decide +kernel
theorem dX12_ticketOf_84 : decode cX12_ticketOf 84 = .ok (.bipush (-2), 2) := by decide +kernel
theorem dX12_ticketOf_86 : decode cX12_ticketOf 86 = .ok (.ireturn, 1) := by decide +kernel
theorem dX12_purse_0 : decode cX12_purse 0 = .ok (.aload_n 0, 1) := by decide +kernel
theorem dX12_purse_1 : decode cX12_purse 1 = .ok (.iconst 0, 1) := by decide +kernel
theorem dX12_purse_2 : decode cX12_purse 2 = .ok (.putfield 100, 3) := by decide +kernel
theorem dX12_purse_5 : decode cX12_purse 5 = .ok (.iload_n 1, 1) := by decide +kernel
theorem dX12_purse_6 : decode cX12_purse 6 = .ok (.invokestatic 287, 3) := by decide +kernel
theorem dX12_purse_9 : decode cX12_purse 9 = .ok (.ifCond .eq 7, 3) := by decide +kernel
theorem dX12_purse_12 : decode cX12_purse 12 = .ok (.iconst (-1), 1) := by decide +kernel
theorem dX12_purse_13 : decode cX12_purse 13 = .ok (.goto 13, 3) := by decide +kernel
theorem dX12_purse_16 : decode cX12_purse 16 = .ok (.aload_n 0, 1) := by decide +kernel
theorem dX12_purse_17 : decode cX12_purse 17 = .ok (.getfield 94, 3) := by decide +kernel
theorem dX12_purse_20 : decode cX12_purse 20 = .ok (.iload_n 1, 1) := by decide +kernel
theorem dX12_purse_21 : decode cX12_purse 21 = .ok (.iaload, 1) := by decide +kernel
theorem dX12_purse_22 : decode cX12_purse 22 = .ok (.ldc_w 294, 3) := by decide +kernel
theorem dX12_purse_25 : decode cX12_purse 25 = .ok (.iadd, 1) := by decide +kernel
theorem dX12_purse_26 : decode cX12_purse 26 = .ok (.ireturn, 1) := by decide +kernel
theorem dX12_wages_0 : decode cX12_wages 0 = .ok (.aload_n 0, 1) := by decide +kernel
theorem dX12_wages_1 : decode cX12_wages 1 = .ok (.iconst 0, 1) := by decide +kernel
theorem dX12_wages_2 : decode cX12_wages 2 = .ok (.putfield 100, 3) := by decide +kernel
theorem dX12_wages_5 : decode cX12_wages 5 = .ok (.aload_n 0, 1) := by decide +kernel
theorem dX12_wages_6 : decode cX12_wages 6 = .ok (.iload_n 1, 1) := by decide +kernel
theorem dX12_wages_7 : decode cX12_wages 7 = .ok (.invokevirtual 144, 3) := by decide +kernel
theorem dX12_wages_10 : decode cX12_wages 10 = .ok (.ifCond .eq 5, 3) := by decide +kernel
theorem dX12_wages_13 : decode cX12_wages 13 = .ok (.iconst (-1), 1) := by decide +kernel
theorem dX12_wages_14 : decode cX12_wages 14 = .ok (.ireturn, 1) := by decide +kernel
theorem dX12_wages_15 : decode cX12_wages 15 = .ok (.iload_n 2, 1) := by decide +kernel
theorem dX12_wages_16 : decode cX12_wages 16 = .ok (.ifCond .eq 7, 3) := by decide +kernel
theorem dX12_wages_19 : decode cX12_wages 19 = .ok (.iconst 0, 1) := by decide +kernel
theorem dX12_wages_20 : decode cX12_wages 20 = .ok (.goto 9, 3) := by decide +kernel
theorem dX12_wages_23 : decode cX12_wages 23 = .ok (.aload_n 0, 1) := by decide +kernel
theorem dX12_wages_24 : decode cX12_wages 24 = .ok (.getfield 97, 3) := by decide +kernel
theorem dX12_wages_27 : decode cX12_wages 27 = .ok (.iload_n 1, 1) := by decide +kernel
theorem dX12_wages_28 : decode cX12_wages 28 = .ok (.iaload, 1) := by decide +kernel
theorem dX12_wages_29 : decode cX12_wages 29 = .ok (.istore_n 3, 1) := by decide +kernel
theorem dX12_wages_30 : decode cX12_wages 30 = .ok (.iconst 0, 1) := by decide +kernel
theorem dX12_wages_31 : decode cX12_wages 31 = .ok (.istore 4, 2) := by decide +kernel
theorem dX12_wages_33 : decode cX12_wages 33 = .ok (.iload 4, 2) := by decide +kernel
theorem dX12_wages_35 : decode cX12_wages 35 = .ok (.aload_n 0, 1) := by decide +kernel
theorem dX12_wages_36 : decode cX12_wages 36 = .ok (.getfield 277, 3) := by decide +kernel
theorem dX12_wages_39 : decode cX12_wages 39 = .ok (.if_icmp .ge 60, 3) := by decide +kernel
theorem dX12_wages_42 : decode cX12_wages 42 = .ok (.iload_n 2, 1) := by decide +kernel
theorem dX12_wages_43 : decode cX12_wages 43 = .ok (.ifCond .eq 56, 3) := by decide +kernel
theorem dX12_wages_46 : decode cX12_wages 46 = .ok (.iload_n 3, 1) := by decide +kernel
theorem dX12_wages_47 : decode cX12_wages 47 = .ok (.aload_n 0, 1) := by decide +kernel
theorem dX12_wages_48 : decode cX12_wages 48 = .ok (.getfield 79, 3) := by decide +kernel
theorem dX12_wages_51 : decode cX12_wages 51 = .ok (.iload 4, 2) := by decide +kernel
theorem dX12_wages_53 : decode cX12_wages 53 = .ok (.iaload, 1) := by decide +kernel
theorem dX12_wages_54 : decode cX12_wages 54 = .ok (.iload_n 1, 1) := by decide +kernel
theorem dX12_wages_55 : decode cX12_wages 55 = .ok (.if_icmp .ne 35, 3) := by decide +kernel
theorem dX12_wages_58 : decode cX12_wages 58 = .ok (.aload_n 0, 1) := by decide +kernel
theorem dX12_wages_59 : decode cX12_wages 59 = .ok (.getfield 85, 3) := by decide +kernel
theorem dX12_wages_62 : decode cX12_wages 62 = .ok (.iload 4, 2) := by decide +kernel
theorem dX12_wages_64 : decode cX12_wages 64 = .ok (.iaload, 1) := by decide +kernel
theorem dX12_wages_65 : decode cX12_wages 65 = .ok (.bipush (-9), 2) := by decide +kernel
theorem dX12_wages_67 : decode cX12_wages 67 = .ok (.if_icmp .ne 23, 3) := by decide +kernel
theorem dX12_wages_70 : decode cX12_wages 70 = .ok (.aload_n 0, 1) := by decide +kernel
theorem dX12_wages_71 : decode cX12_wages 71 = .ok (.getfield 88, 3) := by decide +kernel
theorem dX12_wages_74 : decode cX12_wages 74 = .ok (.iload 4, 2) := by decide +kernel
theorem dX12_wages_76 : decode cX12_wages 76 = .ok (.baload, 1) := by decide +kernel
theorem dX12_wages_77 : decode cX12_wages 77 = .ok (.ifCond .ne 13, 3) := by decide +kernel
theorem dX12_wages_80 : decode cX12_wages 80 = .ok (.aload_n 0, 1) := by decide +kernel
theorem dX12_wages_81 : decode cX12_wages 81 = .ok (.getfield 82, 3) := by decide +kernel
theorem dX12_wages_84 : decode cX12_wages 84 = .ok (.iload 4, 2) := by decide +kernel
theorem dX12_wages_86 : decode cX12_wages 86 = .ok (.iaload, 1) := by decide +kernel
theorem dX12_wages_87 : decode cX12_wages 87 = .ok (.goto 4, 3) := by decide +kernel
theorem dX12_wages_90 : decode cX12_wages 90 = .ok (.iconst 0, 1) := by decide +kernel
theorem dX12_wages_91 : decode cX12_wages 91 = .ok (.iadd, 1) := by decide +kernel
theorem dX12_wages_92 : decode cX12_wages 92 = .ok (.istore_n 3, 1) := by decide +kernel
theorem dX12_wages_93 : decode cX12_wages 93 = .ok (.iinc 4 1, 3) := by decide +kernel
theorem dX12_wages_96 : decode cX12_wages 96 = .ok (.goto (-63), 3) := by decide +kernel
theorem dX12_wages_99 : decode cX12_wages 99 = .ok (.iload_n 3, 1) := by decide +kernel
theorem dX12_wages_100 : decode cX12_wages 100 = .ok (.ireturn, 1) := by decide +kernel
theorem dX12_count_0 : decode cX12_count 0 = .ok (.aload_n 0, 1) := by decide +kernel
theorem dX12_count_1 : decode cX12_count 1 = .ok (.iconst 0, 1) := by decide +kernel
theorem dX12_count_2 : decode cX12_count 2 = .ok (.putfield 100, 3) := by decide +kernel
theorem dX12_count_5 : decode cX12_count 5 = .ok (.iconst 0, 1) := by decide +kernel
theorem dX12_count_6 : decode cX12_count 6 = .ok (.istore_n 2, 1) := by decide +kernel
theorem dX12_count_7 : decode cX12_count 7 = .ok (.iconst 0, 1) := by decide +kernel
theorem dX12_count_8 : decode cX12_count 8 = .ok (.istore_n 3, 1) := by decide +kernel
theorem dX12_count_9 : decode cX12_count 9 = .ok (.iload_n 3, 1) := by decide +kernel
theorem dX12_count_10 : decode cX12_count 10 = .ok (.aload_n 0, 1) := by decide +kernel
theorem dX12_count_11 : decode cX12_count 11 = .ok (.getfield 107, 3) := by decide +kernel
theorem dX12_count_14 : decode cX12_count 14 = .ok (.if_icmp .ge 28, 3) := by decide +kernel
theorem dX12_count_17 : decode cX12_count 17 = .ok (.iload_n 2, 1) := by decide +kernel
theorem dX12_count_18 : decode cX12_count 18 = .ok (.aload_n 0, 1) := by decide +kernel
theorem dX12_count_19 : decode cX12_count 19 = .ok (.iload_n 3, 1) := by decide +kernel
theorem dX12_count_20 : decode cX12_count 20 = .ok (.invokevirtual 154, 3) := by decide +kernel
theorem dX12_count_23 : decode cX12_count 23 = .ok (.invokestatic 171, 3) := by decide +kernel
theorem dX12_count_26 : decode cX12_count 26 = .ok (.ifCond .eq 7, 3) := by decide +kernel
theorem dX12_count_29 : decode cX12_count 29 = .ok (.iconst 0, 1) := by decide +kernel
theorem dX12_count_30 : decode cX12_count 30 = .ok (.goto 4, 3) := by decide +kernel
theorem dX12_count_33 : decode cX12_count 33 = .ok (.iconst 1, 1) := by decide +kernel
theorem dX12_count_34 : decode cX12_count 34 = .ok (.iadd, 1) := by decide +kernel
theorem dX12_count_35 : decode cX12_count 35 = .ok (.istore_n 2, 1) := by decide +kernel
theorem dX12_count_36 : decode cX12_count 36 = .ok (.iinc 3 1, 3) := by decide +kernel
theorem dX12_count_39 : decode cX12_count 39 = .ok (.goto (-30), 3) := by decide +kernel
theorem dX12_count_42 : decode cX12_count 42 = .ok (.iload_n 1, 1) := by decide +kernel
theorem dX12_count_43 : decode cX12_count 43 = .ok (.tableswitch 82 0 7 #[45, 50, 55, 60, 65, 70, 75, 77], 45) := by decide +kernel
theorem dX12_count_88 : decode cX12_count 88 = .ok (.aload_n 0, 1) := by decide +kernel
theorem dX12_count_89 : decode cX12_count 89 = .ok (.getfield 107, 3) := by decide +kernel
theorem dX12_count_92 : decode cX12_count 92 = .ok (.ireturn, 1) := by decide +kernel
theorem dX12_count_93 : decode cX12_count 93 = .ok (.aload_n 0, 1) := by decide +kernel
theorem dX12_count_94 : decode cX12_count 94 = .ok (.getfield 110, 3) := by decide +kernel
theorem dX12_count_97 : decode cX12_count 97 = .ok (.ireturn, 1) := by decide +kernel
theorem dX12_count_98 : decode cX12_count 98 = .ok (.aload_n 0, 1) := by decide +kernel
theorem dX12_count_99 : decode cX12_count 99 = .ok (.getfield 113, 3) := by decide +kernel
theorem dX12_count_102 : decode cX12_count 102 = .ok (.ireturn, 1) := by decide +kernel
theorem dX12_count_103 : decode cX12_count 103 = .ok (.aload_n 0, 1) := by decide +kernel
theorem dX12_count_104 : decode cX12_count 104 = .ok (.getfield 201, 3) := by decide +kernel
theorem dX12_count_107 : decode cX12_count 107 = .ok (.ireturn, 1) := by decide +kernel
theorem dX12_count_108 : decode cX12_count 108 = .ok (.aload_n 0, 1) := by decide +kernel
theorem dX12_count_109 : decode cX12_count 109 = .ok (.getfield 168, 3) := by decide +kernel
theorem dX12_count_112 : decode cX12_count 112 = .ok (.ireturn, 1) := by decide +kernel
theorem dX12_count_113 : decode cX12_count 113 = .ok (.aload_n 0, 1) := by decide +kernel
theorem dX12_count_114 : decode cX12_count 114 = .ok (.getfield 277, 3) := by decide +kernel
theorem dX12_count_117 : decode cX12_count 117 = .ok (.ireturn, 1) := by decide +kernel
theorem dX12_count_118 : decode cX12_count 118 = .ok (.iload_n 2, 1) := by decide +kernel
theorem dX12_count_119 : decode cX12_count 119 = .ok (.ireturn, 1) := by decide +kernel
theorem dX12_count_120 : decode cX12_count 120 = .ok (.aload_n 0, 1) := by decide +kernel
theorem dX12_count_121 : decode cX12_count 121 = .ok (.getfield 7, 3) := by decide +kernel
theorem dX12_count_124 : decode cX12_count 124 = .ok (.ireturn, 1) := by decide +kernel
theorem dX12_count_125 : decode cX12_count 125 = .ok (.bipush (-2), 2) := by decide +kernel
theorem dX12_count_127 : decode cX12_count 127 = .ok (.ireturn, 1) := by decide +kernel
end
section
theorem dL_law_0 : decode cL_law 0 = .ok (.new 7, 3) := by decide +kernel
theorem dL_law_3 : decode cL_law 3 = .ok (.dup, 1) := by decide +kernel
theorem dL_law_4 : decode cL_law 4 = .ok (.invokespecial 9, 3) := by decide +kernel
theorem dL_law_7 : decode cL_law 7 = .ok (.astore_n 1, 1) := by decide +kernel
theorem dL_law_8 : decode cL_law 8 = .ok (.new 10, 3) := by decide +kernel
theorem dL_law_11 : decode cL_law 11 = .ok (.dup, 1) := by decide +kernel
theorem dL_law_12 : decode cL_law 12 = .ok (.invokespecial 12, 3) := by decide +kernel
theorem dL_law_15 : decode cL_law 15 = .ok (.astore_n 2, 1) := by decide +kernel
theorem dL_law_16 : decode cL_law 16 = .ok (.iconst 0, 1) := by decide +kernel
theorem dL_law_17 : decode cL_law 17 = .ok (.istore_n 3, 1) := by decide +kernel
theorem dL_law_18 : decode cL_law 18 = .ok (.iload_n 3, 1) := by decide +kernel
theorem dL_law_19 : decode cL_law 19 = .ok (.aload_n 0, 1) := by decide +kernel
theorem dL_law_20 : decode cL_law 20 = .ok (.arraylength, 1) := by decide +kernel
theorem dL_law_21 : decode cL_law 21 = .ok (.bipush 10, 2) := by decide +kernel
theorem dL_law_23 : decode cL_law 23 = .ok (.isub, 1) := by decide +kernel
theorem dL_law_24 : decode cL_law 24 = .ok (.if_icmp .gt 1883, 3) := by decide +kernel
theorem dL_law_27 : decode cL_law 27 = .ok (.aload_n 0, 1) := by decide +kernel
theorem dL_law_28 : decode cL_law 28 = .ok (.iload_n 3, 1) := by decide +kernel
theorem dL_law_29 : decode cL_law 29 = .ok (.iaload, 1) := by decide +kernel
theorem dL_law_30 : decode cL_law 30 = .ok (.bipush 63, 2) := by decide +kernel
theorem dL_law_32 : decode cL_law 32 = .ok (.iand, 1) := by decide +kernel
theorem dL_law_33 : decode cL_law 33 = .ok (.tableswitch 1868 0 48 #[211, 234, 293, 326, 413, 446, 495, 528, 551, 564, 587, 620, 643, 754, 797, 830, 863, 886, 919, 942, 965, 998, 1021, 1054, 1087, 1100, 1123, 1146, 1159, 1182, 1215, 1248, 1301, 1354, 1387, 1420, 1453, 1486, 1519, 1552, 1575, 1598, 1621, 1664, 1707, 1740, 1773, 1796, 1845], 211) := by decide +kernel
theorem dL_law_244 : decode cL_law 244 = .ok (.aload_n 1, 1) := by decide +kernel
theorem dL_law_245 : decode cL_law 245 = .ok (.aload_n 0, 1) := by decide +kernel
theorem dL_law_246 : decode cL_law 246 = .ok (.iload_n 3, 1) := by decide +kernel
theorem dL_law_247 : decode cL_law 247 = .ok (.iconst 1, 1) := by decide +kernel
theorem dL_law_248 : decode cL_law 248 = .ok (.iadd, 1) := by decide +kernel
theorem dL_law_249 : decode cL_law 249 = .ok (.iaload, 1) := by decide +kernel
theorem dL_law_250 : decode cL_law 250 = .ok (.invokevirtual 13, 3) := by decide +kernel
theorem dL_law_253 : decode cL_law 253 = .ok (.aload_n 2, 1) := by decide +kernel
theorem dL_law_254 : decode cL_law 254 = .ok (.aload_n 0, 1) := by decide +kernel
theorem dL_law_255 : decode cL_law 255 = .ok (.iload_n 3, 1) := by decide +kernel
theorem dL_law_256 : decode cL_law 256 = .ok (.iconst 1, 1) := by decide +kernel
theorem dL_law_257 : decode cL_law 257 = .ok (.iadd, 1) := by decide +kernel
theorem dL_law_258 : decode cL_law 258 = .ok (.iaload, 1) := by decide +kernel
theorem dL_law_259 : decode cL_law 259 = .ok (.invokevirtual 17, 3) := by decide +kernel
theorem dL_law_262 : decode cL_law 262 = .ok (.if_icmp .eq 1639, 3) := by decide +kernel
theorem dL_law_265 : decode cL_law 265 = .ok (.iconst 0, 1) := by decide +kernel
theorem dL_law_266 : decode cL_law 266 = .ok (.ireturn, 1) := by decide +kernel
theorem dL_law_267 : decode cL_law 267 = .ok (.aload_n 1, 1) := by decide +kernel
theorem dL_law_268 : decode cL_law 268 = .ok (.aload_n 0, 1) := by decide +kernel
theorem dL_law_269 : decode cL_law 269 = .ok (.iload_n 3, 1) := by decide +kernel
theorem dL_law_270 : decode cL_law 270 = .ok (.iconst 1, 1) := by decide +kernel
theorem dL_law_271 : decode cL_law 271 = .ok (.iadd, 1) := by decide +kernel
theorem dL_law_272 : decode cL_law 272 = .ok (.iaload, 1) := by decide +kernel
theorem dL_law_273 : decode cL_law 273 = .ok (.aload_n 0, 1) := by decide +kernel
theorem dL_law_274 : decode cL_law 274 = .ok (.iload_n 3, 1) := by decide +kernel
theorem dL_law_275 : decode cL_law 275 = .ok (.iconst 2, 1) := by decide +kernel
theorem dL_law_276 : decode cL_law 276 = .ok (.iadd, 1) := by decide +kernel
theorem dL_law_277 : decode cL_law 277 = .ok (.iaload, 1) := by decide +kernel
theorem dL_law_278 : decode cL_law 278 = .ok (.aload_n 0, 1) := by decide +kernel
theorem dL_law_279 : decode cL_law 279 = .ok (.iload_n 3, 1) := by decide +kernel
theorem dL_law_280 : decode cL_law 280 = .ok (.iconst 3, 1) := by decide +kernel
theorem dL_law_281 : decode cL_law 281 = .ok (.iadd, 1) := by decide +kernel
theorem dL_law_282 : decode cL_law 282 = .ok (.iaload, 1) := by decide +kernel
theorem dL_law_283 : decode cL_law 283 = .ok (.ifCond .eq 7, 3) := by decide +kernel
theorem dL_law_286 : decode cL_law 286 = .ok (.iconst 1, 1) := by decide +kernel
theorem dL_law_287 : decode cL_law 287 = .ok (.goto 4, 3) := by decide +kernel
theorem dL_law_290 : decode cL_law 290 = .ok (.iconst 0, 1) := by decide +kernel
theorem dL_law_291 : decode cL_law 291 = .ok (.invokevirtual 18, 3) := by decide +kernel
theorem dL_law_294 : decode cL_law 294 = .ok (.aload_n 2, 1) := by decide +kernel
theorem dL_law_295 : decode cL_law 295 = .ok (.aload_n 0, 1) := by decide +kernel
theorem dL_law_296 : decode cL_law 296 = .ok (.iload_n 3, 1) := by decide +kernel
theorem dL_law_297 : decode cL_law 297 = .ok (.iconst 1, 1) := by decide +kernel
theorem dL_law_298 : decode cL_law 298 = .ok (.iadd, 1) := by decide +kernel
theorem dL_law_299 : decode cL_law 299 = .ok (.iaload, 1) := by decide +kernel
theorem dL_law_300 : decode cL_law 300 = .ok (.aload_n 0, 1) := by decide +kernel
theorem dL_law_301 : decode cL_law 301 = .ok (.iload_n 3, 1) := by decide +kernel
theorem dL_law_302 : decode cL_law 302 = .ok (.iconst 2, 1) := by decide +kernel
theorem dL_law_303 : decode cL_law 303 = .ok (.iadd, 1) := by decide +kernel
theorem dL_law_304 : decode cL_law 304 = .ok (.iaload, 1) := by decide +kernel
theorem dL_law_305 : decode cL_law 305 = .ok (.aload_n 0, 1) := by decide +kernel
theorem dL_law_306 : decode cL_law 306 = .ok (.iload_n 3, 1) := by decide +kernel
theorem dL_law_307 : decode cL_law 307 = .ok (.iconst 3, 1) := by decide +kernel
theorem dL_law_308 : decode cL_law 308 = .ok (.iadd, 1) := by decide +kernel
theorem dL_law_309 : decode cL_law 309 = .ok (.iaload, 1) := by decide +kernel
theorem dL_law_310 : decode cL_law 310 = .ok (.ifCond .eq 7, 3) := by decide +kernel
theorem dL_law_313 : decode cL_law 313 = .ok (.iconst 1, 1) := by decide +kernel
theorem dL_law_314 : decode cL_law 314 = .ok (.goto 4, 3) := by decide +kernel
theorem dL_law_317 : decode cL_law 317 = .ok (.iconst 0, 1) := by decide +kernel
theorem dL_law_318 : decode cL_law 318 = .ok (.invokevirtual 22, 3) := by decide +kernel
theorem dL_law_321 : decode cL_law 321 = .ok (.if_icmp .eq 1580, 3) := by decide +kernel
theorem dL_law_324 : decode cL_law 324 = .ok (.iconst 0, 1) := by decide +kernel
theorem dL_law_325 : decode cL_law 325 = .ok (.ireturn, 1) := by decide +kernel
theorem dL_law_326 : decode cL_law 326 = .ok (.aload_n 1, 1) := by decide +kernel
theorem dL_law_327 : decode cL_law 327 = .ok (.aload_n 0, 1) := by decide +kernel
theorem dL_law_328 : decode cL_law 328 = .ok (.iload_n 3, 1) := by decide +kernel
theorem dL_law_329 : decode cL_law 329 = .ok (.iconst 1, 1) := by decide +kernel
theorem dL_law_330 : decode cL_law 330 = .ok (.iadd, 1) := by decide +kernel
theorem dL_law_331 : decode cL_law 331 = .ok (.iaload, 1) := by decide +kernel
theorem dL_law_332 : decode cL_law 332 = .ok (.aload_n 0, 1) := by decide +kernel
theorem dL_law_333 : decode cL_law 333 = .ok (.iload_n 3, 1) := by decide +kernel
theorem dL_law_334 : decode cL_law 334 = .ok (.iconst 2, 1) := by decide +kernel
theorem dL_law_335 : decode cL_law 335 = .ok (.iadd, 1) := by decide +kernel
theorem dL_law_336 : decode cL_law 336 = .ok (.iaload, 1) := by decide +kernel
theorem dL_law_337 : decode cL_law 337 = .ok (.invokevirtual 23, 3) := by decide +kernel
theorem dL_law_340 : decode cL_law 340 = .ok (.aload_n 2, 1) := by decide +kernel
theorem dL_law_341 : decode cL_law 341 = .ok (.aload_n 0, 1) := by decide +kernel
theorem dL_law_342 : decode cL_law 342 = .ok (.iload_n 3, 1) := by decide +kernel
theorem dL_law_343 : decode cL_law 343 = .ok (.iconst 1, 1) := by decide +kernel
theorem dL_law_344 : decode cL_law 344 = .ok (.iadd, 1) := by decide +kernel
theorem dL_law_345 : decode cL_law 345 = .ok (.iaload, 1) := by decide +kernel
theorem dL_law_346 : decode cL_law 346 = .ok (.aload_n 0, 1) := by decide +kernel
theorem dL_law_347 : decode cL_law 347 = .ok (.iload_n 3, 1) := by decide +kernel
theorem dL_law_348 : decode cL_law 348 = .ok (.iconst 2, 1) := by decide +kernel
theorem dL_law_349 : decode cL_law 349 = .ok (.iadd, 1) := by decide +kernel
theorem dL_law_350 : decode cL_law 350 = .ok (.iaload, 1) := by decide +kernel
theorem dL_law_351 : decode cL_law 351 = .ok (.invokevirtual 27, 3) := by decide +kernel
theorem dL_law_354 : decode cL_law 354 = .ok (.if_icmp .eq 1547, 3) := by decide +kernel
theorem dL_law_357 : decode cL_law 357 = .ok (.iconst 0, 1) := by decide +kernel
theorem dL_law_358 : decode cL_law 358 = .ok (.ireturn, 1) := by decide +kernel
theorem dL_law_359 : decode cL_law 359 = .ok (.aload_n 1, 1) := by decide +kernel
theorem dL_law_360 : decode cL_law 360 = .ok (.aload_n 0, 1) := by decide +kernel
theorem dL_law_361 : decode cL_law 361 = .ok (.iload_n 3, 1) := by decide +kernel
theorem dL_law_362 : decode cL_law 362 = .ok (.iconst 1, 1) := by decide +kernel
theorem dL_law_363 : decode cL_law 363 = .ok (.iadd, 1) := by decide +kernel
theorem dL_law_364 : decode cL_law 364 = .ok (.iaload, 1) := by decide +kernel
theorem dL_law_365 : decode cL_law 365 = .ok (.aload_n 0, 1) := by decide +kernel
theorem dL_law_366 : decode cL_law 366 = .ok (.iload_n 3, 1) := by decide +kernel
theorem dL_law_367 : decode cL_law 367 = .ok (.iconst 2, 1) := by decide +kernel
theorem dL_law_368 : decode cL_law 368 = .ok (.iadd, 1) := by decide +kernel
theorem dL_law_369 : decode cL_law 369 = .ok (.iaload, 1) := by decide +kernel
theorem dL_law_370 : decode cL_law 370 = .ok (.aload_n 0, 1) := by decide +kernel
theorem dL_law_371 : decode cL_law 371 = .ok (.iload_n 3, 1) := by decide +kernel
theorem dL_law_372 : decode cL_law 372 = .ok (.iconst 3, 1) := by decide +kernel
theorem dL_law_373 : decode cL_law 373 = .ok (.iadd, 1) := by decide +kernel
theorem dL_law_374 : decode cL_law 374 = .ok (.iaload, 1) := by decide +kernel
theorem dL_law_375 : decode cL_law 375 = .ok (.aload_n 0, 1) := by decide +kernel
theorem dL_law_376 : decode cL_law 376 = .ok (.iload_n 3, 1) := by decide +kernel
theorem dL_law_377 : decode cL_law 377 = .ok (.iconst 4, 1) := by decide +kernel
theorem dL_law_378 : decode cL_law 378 = .ok (.iadd, 1) := by decide +kernel
theorem dL_law_379 : decode cL_law 379 = .ok (.iaload, 1) := by decide +kernel
theorem dL_law_380 : decode cL_law 380 = .ok (.aload_n 0, 1) := by decide +kernel
theorem dL_law_381 : decode cL_law 381 = .ok (.iload_n 3, 1) := by decide +kernel
theorem dL_law_382 : decode cL_law 382 = .ok (.iconst 5, 1) := by decide +kernel
theorem dL_law_383 : decode cL_law 383 = .ok (.iadd, 1) := by decide +kernel
theorem dL_law_384 : decode cL_law 384 = .ok (.iaload, 1) := by decide +kernel
theorem dL_law_385 : decode cL_law 385 = .ok (.aload_n 0, 1) := by decide +kernel
theorem dL_law_386 : decode cL_law 386 = .ok (.iload_n 3, 1) := by decide +kernel
theorem dL_law_387 : decode cL_law 387 = .ok (.bipush 6, 2) := by decide +kernel
theorem dL_law_389 : decode cL_law 389 = .ok (.iadd, 1) := by decide +kernel
theorem dL_law_390 : decode cL_law 390 = .ok (.iaload, 1) := by decide +kernel
theorem dL_law_391 : decode cL_law 391 = .ok (.aload_n 0, 1) := by decide +kernel
theorem dL_law_392 : decode cL_law 392 = .ok (.iload_n 3, 1) := by decide +kernel
theorem dL_law_393 : decode cL_law 393 = .ok (.bipush 7, 2) := by decide +kernel
theorem dL_law_395 : decode cL_law 395 = .ok (.iadd, 1) := by decide +kernel
theorem dL_law_396 : decode cL_law 396 = .ok (.iaload, 1) := by decide +kernel
theorem dL_law_397 : decode cL_law 397 = .ok (.invokevirtual 28, 3) := by decide +kernel
theorem dL_law_400 : decode cL_law 400 = .ok (.aload_n 2, 1) := by decide +kernel
theorem dL_law_401 : decode cL_law 401 = .ok (.aload_n 0, 1) := by decide +kernel
theorem dL_law_402 : decode cL_law 402 = .ok (.iload_n 3, 1) := by decide +kernel
theorem dL_law_403 : decode cL_law 403 = .ok (.iconst 1, 1) := by decide +kernel
theorem dL_law_404 : decode cL_law 404 = .ok (.iadd, 1) := by decide +kernel
theorem dL_law_405 : decode cL_law 405 = .ok (.iaload, 1) := by decide +kernel
theorem dL_law_406 : decode cL_law 406 = .ok (.aload_n 0, 1) := by decide +kernel
theorem dL_law_407 : decode cL_law 407 = .ok (.iload_n 3, 1) := by decide +kernel
theorem dL_law_408 : decode cL_law 408 = .ok (.iconst 2, 1) := by decide +kernel
theorem dL_law_409 : decode cL_law 409 = .ok (.iadd, 1) := by decide +kernel
theorem dL_law_410 : decode cL_law 410 = .ok (.iaload, 1) := by decide +kernel
theorem dL_law_411 : decode cL_law 411 = .ok (.aload_n 0, 1) := by decide +kernel
theorem dL_law_412 : decode cL_law 412 = .ok (.iload_n 3, 1) := by decide +kernel
theorem dL_law_413 : decode cL_law 413 = .ok (.iconst 3, 1) := by decide +kernel
theorem dL_law_414 : decode cL_law 414 = .ok (.iadd, 1) := by decide +kernel
theorem dL_law_415 : decode cL_law 415 = .ok (.iaload, 1) := by decide +kernel
theorem dL_law_416 : decode cL_law 416 = .ok (.aload_n 0, 1) := by decide +kernel
theorem dL_law_417 : decode cL_law 417 = .ok (.iload_n 3, 1) := by decide +kernel
theorem dL_law_418 : decode cL_law 418 = .ok (.iconst 4, 1) := by decide +kernel
theorem dL_law_419 : decode cL_law 419 = .ok (.iadd, 1) := by decide +kernel
theorem dL_law_420 : decode cL_law 420 = .ok (.iaload, 1) := by decide +kernel
theorem dL_law_421 : decode cL_law 421 = .ok (.aload_n 0, 1) := by decide +kernel
theorem dL_law_422 : decode cL_law 422 = .ok (.iload_n 3, 1) := by decide +kernel
theorem dL_law_423 : decode cL_law 423 = .ok (.iconst 5, 1) := by decide +kernel
theorem dL_law_424 : decode cL_law 424 = .ok (.iadd, 1) := by decide +kernel
theorem dL_law_425 : decode cL_law 425 = .ok (.iaload, 1) := by decide +kernel
theorem dL_law_426 : decode cL_law 426 = .ok (.aload_n 0, 1) := by decide +kernel
theorem dL_law_427 : decode cL_law 427 = .ok (.iload_n 3, 1) := by decide +kernel
theorem dL_law_428 : decode cL_law 428 = .ok (.bipush 6, 2) := by decide +kernel
theorem dL_law_430 : decode cL_law 430 = .ok (.iadd, 1) := by decide +kernel
theorem dL_law_431 : decode cL_law 431 = .ok (.iaload, 1) := by decide +kernel
theorem dL_law_432 : decode cL_law 432 = .ok (.aload_n 0, 1) := by decide +kernel
theorem dL_law_433 : decode cL_law 433 = .ok (.iload_n 3, 1) := by decide +kernel
theorem dL_law_434 : decode cL_law 434 = .ok (.bipush 7, 2) := by decide +kernel
theorem dL_law_436 : decode cL_law 436 = .ok (.iadd, 1) := by decide +kernel
theorem dL_law_437 : decode cL_law 437 = .ok (.iaload, 1) := by decide +kernel
theorem dL_law_438 : decode cL_law 438 = .ok (.invokevirtual 32, 3) := by decide +kernel
theorem dL_law_441 : decode cL_law 441 = .ok (.if_icmp .eq 1460, 3) := by decide +kernel
theorem dL_law_444 : decode cL_law 444 = .ok (.iconst 0, 1) := by decide +kernel
theorem dL_law_445 : decode cL_law 445 = .ok (.ireturn, 1) := by decide +kernel
theorem dL_law_446 : decode cL_law 446 = .ok (.aload_n 1, 1) := by decide +kernel
theorem dL_law_447 : decode cL_law 447 = .ok (.aload_n 0, 1) := by decide +kernel
theorem dL_law_448 : decode cL_law 448 = .ok (.iload_n 3, 1) := by decide +kernel
theorem dL_law_449 : decode cL_law 449 = .ok (.iconst 1, 1) := by decide +kernel
theorem dL_law_450 : decode cL_law 450 = .ok (.iadd, 1) := by decide +kernel
theorem dL_law_451 : decode cL_law 451 = .ok (.iaload, 1) := by decide +kernel
theorem dL_law_452 : decode cL_law 452 = .ok (.aload_n 0, 1) := by decide +kernel
theorem dL_law_453 : decode cL_law 453 = .ok (.iload_n 3, 1) := by decide +kernel
theorem dL_law_454 : decode cL_law 454 = .ok (.iconst 2, 1) := by decide +kernel
theorem dL_law_455 : decode cL_law 455 = .ok (.iadd, 1) := by decide +kernel
theorem dL_law_456 : decode cL_law 456 = .ok (.iaload, 1) := by decide +kernel
theorem dL_law_457 : decode cL_law 457 = .ok (.invokevirtual 33, 3) := by decide +kernel
theorem dL_law_460 : decode cL_law 460 = .ok (.aload_n 2, 1) := by decide +kernel
theorem dL_law_461 : decode cL_law 461 = .ok (.aload_n 0, 1) := by decide +kernel
theorem dL_law_462 : decode cL_law 462 = .ok (.iload_n 3, 1) := by decide +kernel
theorem dL_law_463 : decode cL_law 463 = .ok (.iconst 1, 1) := by decide +kernel
theorem dL_law_464 : decode cL_law 464 = .ok (.iadd, 1) := by decide +kernel
theorem dL_law_465 : decode cL_law 465 = .ok (.iaload, 1) := by decide +kernel
theorem dL_law_466 : decode cL_law 466 = .ok (.aload_n 0, 1) := by decide +kernel
theorem dL_law_467 : decode cL_law 467 = .ok (.iload_n 3, 1) := by decide +kernel
theorem dL_law_468 : decode cL_law 468 = .ok (.iconst 2, 1) := by decide +kernel
theorem dL_law_469 : decode cL_law 469 = .ok (.iadd, 1) := by decide +kernel
theorem dL_law_470 : decode cL_law 470 = .ok (.iaload, 1) := by decide +kernel
theorem dL_law_471 : decode cL_law 471 = .ok (.invokevirtual 36, 3) := by decide +kernel
theorem dL_law_474 : decode cL_law 474 = .ok (.if_icmp .eq 1427, 3) := by decide +kernel
theorem dL_law_477 : decode cL_law 477 = .ok (.iconst 0, 1) := by decide +kernel
theorem dL_law_478 : decode cL_law 478 = .ok (.ireturn, 1) := by decide +kernel
theorem dL_law_479 : decode cL_law 479 = .ok (.aload_n 1, 1) := by decide +kernel
theorem dL_law_480 : decode cL_law 480 = .ok (.aload_n 0, 1) := by decide +kernel
theorem dL_law_481 : decode cL_law 481 = .ok (.iload_n 3, 1) := by decide +kernel
theorem dL_law_482 : decode cL_law 482 = .ok (.iconst 1, 1) := by decide +kernel
theorem dL_law_483 : decode cL_law 483 = .ok (.iadd, 1) := by decide +kernel
theorem dL_law_484 : decode cL_law 484 = .ok (.iaload, 1) := by decide +kernel
theorem dL_law_485 : decode cL_law 485 = .ok (.aload_n 0, 1) := by decide +kernel
theorem dL_law_486 : decode cL_law 486 = .ok (.iload_n 3, 1) := by decide +kernel
theorem dL_law_487 : decode cL_law 487 = .ok (.iconst 2, 1) := by decide +kernel
theorem dL_law_488 : decode cL_law 488 = .ok (.iadd, 1) := by decide +kernel
theorem dL_law_489 : decode cL_law 489 = .ok (.iaload, 1) := by decide +kernel
theorem dL_law_490 : decode cL_law 490 = .ok (.ifCond .eq 7, 3) := by decide +kernel
theorem dL_law_493 : decode cL_law 493 = .ok (.iconst 1, 1) := by decide +kernel
theorem dL_law_494 : decode cL_law 494 = .ok (.goto 4, 3) := by decide +kernel
theorem dL_law_497 : decode cL_law 497 = .ok (.iconst 0, 1) := by decide +kernel
theorem dL_law_498 : decode cL_law 498 = .ok (.invokevirtual 37, 3) := by decide +kernel
theorem dL_law_501 : decode cL_law 501 = .ok (.aload_n 2, 1) := by decide +kernel
theorem dL_law_502 : decode cL_law 502 = .ok (.aload_n 0, 1) := by decide +kernel
theorem dL_law_503 : decode cL_law 503 = .ok (.iload_n 3, 1) := by decide +kernel
theorem dL_law_504 : decode cL_law 504 = .ok (.iconst 1, 1) := by decide +kernel
theorem dL_law_505 : decode cL_law 505 = .ok (.iadd, 1) := by decide +kernel
theorem dL_law_506 : decode cL_law 506 = .ok (.iaload, 1) := by decide +kernel
theorem dL_law_507 : decode cL_law 507 = .ok (.aload_n 0, 1) := by decide +kernel
theorem dL_law_508 : decode cL_law 508 = .ok (.iload_n 3, 1) := by decide +kernel
theorem dL_law_509 : decode cL_law 509 = .ok (.iconst 2, 1) := by decide +kernel
theorem dL_law_510 : decode cL_law 510 = .ok (.iadd, 1) := by decide +kernel
theorem dL_law_511 : decode cL_law 511 = .ok (.iaload, 1) := by decide +kernel
theorem dL_law_512 : decode cL_law 512 = .ok (.ifCond .eq 7, 3) := by decide +kernel
theorem dL_law_515 : decode cL_law 515 = .ok (.iconst 1, 1) := by decide +kernel
theorem dL_law_516 : decode cL_law 516 = .ok (.goto 4, 3) := by decide +kernel
theorem dL_law_519 : decode cL_law 519 = .ok (.iconst 0, 1) := by decide +kernel
theorem dL_law_520 : decode cL_law 520 = .ok (.invokevirtual 41, 3) := by decide +kernel
theorem dL_law_523 : decode cL_law 523 = .ok (.if_icmp .eq 1378, 3) := by decide +kernel
theorem dL_law_526 : decode cL_law 526 = .ok (.iconst 0, 1) := by decide +kernel
theorem dL_law_527 : decode cL_law 527 = .ok (.ireturn, 1) := by decide +kernel
theorem dL_law_528 : decode cL_law 528 = .ok (.aload_n 1, 1) := by decide +kernel
theorem dL_law_529 : decode cL_law 529 = .ok (.aload_n 0, 1) := by decide +kernel
theorem dL_law_530 : decode cL_law 530 = .ok (.iload_n 3, 1) := by decide +kernel
theorem dL_law_531 : decode cL_law 531 = .ok (.iconst 1, 1) := by decide +kernel
theorem dL_law_532 : decode cL_law 532 = .ok (.iadd, 1) := by decide +kernel
theorem dL_law_533 : decode cL_law 533 = .ok (.iaload, 1) := by decide +kernel
theorem dL_law_534 : decode cL_law 534 = .ok (.aload_n 0, 1) := by decide +kernel
theorem dL_law_535 : decode cL_law 535 = .ok (.iload_n 3, 1) := by decide +kernel
theorem dL_law_536 : decode cL_law 536 = .ok (.iconst 2, 1) := by decide +kernel
theorem dL_law_537 : decode cL_law 537 = .ok (.iadd, 1) := by decide +kernel
theorem dL_law_538 : decode cL_law 538 = .ok (.iaload, 1) := by decide +kernel
theorem dL_law_539 : decode cL_law 539 = .ok (.invokevirtual 42, 3) := by decide +kernel
theorem dL_law_542 : decode cL_law 542 = .ok (.aload_n 2, 1) := by decide +kernel
theorem dL_law_543 : decode cL_law 543 = .ok (.aload_n 0, 1) := by decide +kernel
theorem dL_law_544 : decode cL_law 544 = .ok (.iload_n 3, 1) := by decide +kernel
theorem dL_law_545 : decode cL_law 545 = .ok (.iconst 1, 1) := by decide +kernel
theorem dL_law_546 : decode cL_law 546 = .ok (.iadd, 1) := by decide +kernel
theorem dL_law_547 : decode cL_law 547 = .ok (.iaload, 1) := by decide +kernel
theorem dL_law_548 : decode cL_law 548 = .ok (.aload_n 0, 1) := by decide +kernel
theorem dL_law_549 : decode cL_law 549 = .ok (.iload_n 3, 1) := by decide +kernel
theorem dL_law_550 : decode cL_law 550 = .ok (.iconst 2, 1) := by decide +kernel
theorem dL_law_551 : decode cL_law 551 = .ok (.iadd, 1) := by decide +kernel
theorem dL_law_552 : decode cL_law 552 = .ok (.iaload, 1) := by decide +kernel
theorem dL_law_553 : decode cL_law 553 = .ok (.invokevirtual 45, 3) := by decide +kernel
theorem dL_law_556 : decode cL_law 556 = .ok (.if_icmp .eq 1345, 3) := by decide +kernel
theorem dL_law_559 : decode cL_law 559 = .ok (.iconst 0, 1) := by decide +kernel
theorem dL_law_560 : decode cL_law 560 = .ok (.ireturn, 1) := by decide +kernel
theorem dL_law_561 : decode cL_law 561 = .ok (.aload_n 1, 1) := by decide +kernel
theorem dL_law_562 : decode cL_law 562 = .ok (.aload_n 0, 1) := by decide +kernel
theorem dL_law_563 : decode cL_law 563 = .ok (.iload_n 3, 1) := by decide +kernel
theorem dL_law_564 : decode cL_law 564 = .ok (.iconst 1, 1) := by decide +kernel
theorem dL_law_565 : decode cL_law 565 = .ok (.iadd, 1) := by decide +kernel
theorem dL_law_566 : decode cL_law 566 = .ok (.iaload, 1) := by decide +kernel
theorem dL_law_567 : decode cL_law 567 = .ok (.invokevirtual 46, 3) := by decide +kernel
theorem dL_law_570 : decode cL_law 570 = .ok (.aload_n 2, 1) := by decide +kernel
theorem dL_law_571 : decode cL_law 571 = .ok (.aload_n 0, 1) := by decide +kernel
theorem dL_law_572 : decode cL_law 572 = .ok (.iload_n 3, 1) := by decide +kernel
theorem dL_law_573 : decode cL_law 573 = .ok (.iconst 1, 1) := by decide +kernel
theorem dL_law_574 : decode cL_law 574 = .ok (.iadd, 1) := by decide +kernel
theorem dL_law_575 : decode cL_law 575 = .ok (.iaload, 1) := by decide +kernel
theorem dL_law_576 : decode cL_law 576 = .ok (.invokevirtual 49, 3) := by decide +kernel
theorem dL_law_579 : decode cL_law 579 = .ok (.if_icmp .eq 1322, 3) := by decide +kernel
theorem dL_law_582 : decode cL_law 582 = .ok (.iconst 0, 1) := by decide +kernel
theorem dL_law_583 : decode cL_law 583 = .ok (.ireturn, 1) := by decide +kernel
theorem dL_law_584 : decode cL_law 584 = .ok (.aload_n 1, 1) := by decide +kernel
theorem dL_law_585 : decode cL_law 585 = .ok (.invokevirtual 50, 3) := by decide +kernel
theorem dL_law_588 : decode cL_law 588 = .ok (.aload_n 2, 1) := by decide +kernel
theorem dL_law_589 : decode cL_law 589 = .ok (.invokevirtual 54, 3) := by decide +kernel
theorem dL_law_592 : decode cL_law 592 = .ok (.if_icmp .eq 1309, 3) := by decide +kernel
theorem dL_law_595 : decode cL_law 595 = .ok (.iconst 0, 1) := by decide +kernel
theorem dL_law_596 : decode cL_law 596 = .ok (.ireturn, 1) := by decide +kernel
theorem dL_law_597 : decode cL_law 597 = .ok (.aload_n 1, 1) := by decide +kernel
theorem dL_law_598 : decode cL_law 598 = .ok (.aload_n 0, 1) := by decide +kernel
theorem dL_law_599 : decode cL_law 599 = .ok (.iload_n 3, 1) := by decide +kernel
theorem dL_law_600 : decode cL_law 600 = .ok (.iconst 1, 1) := by decide +kernel
theorem dL_law_601 : decode cL_law 601 = .ok (.iadd, 1) := by decide +kernel
theorem dL_law_602 : decode cL_law 602 = .ok (.iaload, 1) := by decide +kernel
theorem dL_law_603 : decode cL_law 603 = .ok (.invokevirtual 55, 3) := by decide +kernel
theorem dL_law_606 : decode cL_law 606 = .ok (.aload_n 2, 1) := by decide +kernel
theorem dL_law_607 : decode cL_law 607 = .ok (.aload_n 0, 1) := by decide +kernel
theorem dL_law_608 : decode cL_law 608 = .ok (.iload_n 3, 1) := by decide +kernel
theorem dL_law_609 : decode cL_law 609 = .ok (.iconst 1, 1) := by decide +kernel
theorem dL_law_610 : decode cL_law 610 = .ok (.iadd, 1) := by decide +kernel
theorem dL_law_611 : decode cL_law 611 = .ok (.iaload, 1) := by decide +kernel
theorem dL_law_612 : decode cL_law 612 = .ok (.invokevirtual 58, 3) := by decide +kernel
theorem dL_law_615 : decode cL_law 615 = .ok (.if_icmp .eq 1286, 3) := by decide +kernel
theorem dL_law_618 : decode cL_law 618 = .ok (.iconst 0, 1) := by decide +kernel
theorem dL_law_619 : decode cL_law 619 = .ok (.ireturn, 1) := by decide +kernel
theorem dL_law_620 : decode cL_law 620 = .ok (.aload_n 1, 1) := by decide +kernel
theorem dL_law_621 : decode cL_law 621 = .ok (.aload_n 0, 1) := by decide +kernel
theorem dL_law_622 : decode cL_law 622 = .ok (.iload_n 3, 1) := by decide +kernel
theorem dL_law_623 : decode cL_law 623 = .ok (.iconst 1, 1) := by decide +kernel
theorem dL_law_624 : decode cL_law 624 = .ok (.iadd, 1) := by decide +kernel
theorem dL_law_625 : decode cL_law 625 = .ok (.iaload, 1) := by decide +kernel
theorem dL_law_626 : decode cL_law 626 = .ok (.aload_n 0, 1) := by decide +kernel
theorem dL_law_627 : decode cL_law 627 = .ok (.iload_n 3, 1) := by decide +kernel
theorem dL_law_628 : decode cL_law 628 = .ok (.iconst 2, 1) := by decide +kernel
theorem dL_law_629 : decode cL_law 629 = .ok (.iadd, 1) := by decide +kernel
theorem dL_law_630 : decode cL_law 630 = .ok (.iaload, 1) := by decide +kernel
theorem dL_law_631 : decode cL_law 631 = .ok (.invokevirtual 59, 3) := by decide +kernel
theorem dL_law_634 : decode cL_law 634 = .ok (.aload_n 2, 1) := by decide +kernel
theorem dL_law_635 : decode cL_law 635 = .ok (.aload_n 0, 1) := by decide +kernel
theorem dL_law_636 : decode cL_law 636 = .ok (.iload_n 3, 1) := by decide +kernel
theorem dL_law_637 : decode cL_law 637 = .ok (.iconst 1, 1) := by decide +kernel
theorem dL_law_638 : decode cL_law 638 = .ok (.iadd, 1) := by decide +kernel
theorem dL_law_639 : decode cL_law 639 = .ok (.iaload, 1) := by decide +kernel
theorem dL_law_640 : decode cL_law 640 = .ok (.aload_n 0, 1) := by decide +kernel
theorem dL_law_641 : decode cL_law 641 = .ok (.iload_n 3, 1) := by decide +kernel
theorem dL_law_642 : decode cL_law 642 = .ok (.iconst 2, 1) := by decide +kernel
theorem dL_law_643 : decode cL_law 643 = .ok (.iadd, 1) := by decide +kernel
theorem dL_law_644 : decode cL_law 644 = .ok (.iaload, 1) := by decide +kernel
theorem dL_law_645 : decode cL_law 645 = .ok (.invokevirtual 62, 3) := by decide +kernel
theorem dL_law_648 : decode cL_law 648 = .ok (.if_icmp .eq 1253, 3) := by decide +kernel
theorem dL_law_651 : decode cL_law 651 = .ok (.iconst 0, 1) := by decide +kernel
theorem dL_law_652 : decode cL_law 652 = .ok (.ireturn, 1) := by decide +kernel
theorem dL_law_653 : decode cL_law 653 = .ok (.aload_n 1, 1) := by decide +kernel
theorem dL_law_654 : decode cL_law 654 = .ok (.aload_n 0, 1) := by decide +kernel
theorem dL_law_655 : decode cL_law 655 = .ok (.iload_n 3, 1) := by decide +kernel
theorem dL_law_656 : decode cL_law 656 = .ok (.iconst 1, 1) := by decide +kernel
theorem dL_law_657 : decode cL_law 657 = .ok (.iadd, 1) := by decide +kernel
theorem dL_law_658 : decode cL_law 658 = .ok (.iaload, 1) := by decide +kernel
theorem dL_law_659 : decode cL_law 659 = .ok (.invokevirtual 63, 3) := by decide +kernel
theorem dL_law_662 : decode cL_law 662 = .ok (.aload_n 2, 1) := by decide +kernel
theorem dL_law_663 : decode cL_law 663 = .ok (.aload_n 0, 1) := by decide +kernel
theorem dL_law_664 : decode cL_law 664 = .ok (.iload_n 3, 1) := by decide +kernel
theorem dL_law_665 : decode cL_law 665 = .ok (.iconst 1, 1) := by decide +kernel
theorem dL_law_666 : decode cL_law 666 = .ok (.iadd, 1) := by decide +kernel
theorem dL_law_667 : decode cL_law 667 = .ok (.iaload, 1) := by decide +kernel
theorem dL_law_668 : decode cL_law 668 = .ok (.invokevirtual 66, 3) := by decide +kernel
theorem dL_law_671 : decode cL_law 671 = .ok (.if_icmp .eq 1230, 3) := by decide +kernel
theorem dL_law_674 : decode cL_law 674 = .ok (.iconst 0, 1) := by decide +kernel
theorem dL_law_675 : decode cL_law 675 = .ok (.ireturn, 1) := by decide +kernel
theorem dL_law_676 : decode cL_law 676 = .ok (.aload_n 1, 1) := by decide +kernel
theorem dL_law_677 : decode cL_law 677 = .ok (.aload_n 0, 1) := by decide +kernel
theorem dL_law_678 : decode cL_law 678 = .ok (.iload_n 3, 1) := by decide +kernel
theorem dL_law_679 : decode cL_law 679 = .ok (.iconst 1, 1) := by decide +kernel
theorem dL_law_680 : decode cL_law 680 = .ok (.iadd, 1) := by decide +kernel
theorem dL_law_681 : decode cL_law 681 = .ok (.iaload, 1) := by decide +kernel
theorem dL_law_682 : decode cL_law 682 = .ok (.aload_n 0, 1) := by decide +kernel
theorem dL_law_683 : decode cL_law 683 = .ok (.iload_n 3, 1) := by decide +kernel
theorem dL_law_684 : decode cL_law 684 = .ok (.iconst 2, 1) := by decide +kernel
theorem dL_law_685 : decode cL_law 685 = .ok (.iadd, 1) := by decide +kernel
theorem dL_law_686 : decode cL_law 686 = .ok (.iaload, 1) := by decide +kernel
theorem dL_law_687 : decode cL_law 687 = .ok (.aload_n 0, 1) := by decide +kernel
theorem dL_law_688 : decode cL_law 688 = .ok (.iload_n 3, 1) := by decide +kernel
theorem dL_law_689 : decode cL_law 689 = .ok (.iconst 3, 1) := by decide +kernel
theorem dL_law_690 : decode cL_law 690 = .ok (.iadd, 1) := by decide +kernel
theorem dL_law_691 : decode cL_law 691 = .ok (.iaload, 1) := by decide +kernel
theorem dL_law_692 : decode cL_law 692 = .ok (.aload_n 0, 1) := by decide +kernel
theorem dL_law_693 : decode cL_law 693 = .ok (.iload_n 3, 1) := by decide +kernel
theorem dL_law_694 : decode cL_law 694 = .ok (.iconst 4, 1) := by decide +kernel
theorem dL_law_695 : decode cL_law 695 = .ok (.iadd, 1) := by decide +kernel
theorem dL_law_696 : decode cL_law 696 = .ok (.iaload, 1) := by decide +kernel
theorem dL_law_697 : decode cL_law 697 = .ok (.aload_n 0, 1) := by decide +kernel
theorem dL_law_698 : decode cL_law 698 = .ok (.iload_n 3, 1) := by decide +kernel
theorem dL_law_699 : decode cL_law 699 = .ok (.iconst 5, 1) := by decide +kernel
theorem dL_law_700 : decode cL_law 700 = .ok (.iadd, 1) := by decide +kernel
theorem dL_law_701 : decode cL_law 701 = .ok (.iaload, 1) := by decide +kernel
theorem dL_law_702 : decode cL_law 702 = .ok (.aload_n 0, 1) := by decide +kernel
theorem dL_law_703 : decode cL_law 703 = .ok (.iload_n 3, 1) := by decide +kernel
theorem dL_law_704 : decode cL_law 704 = .ok (.bipush 6, 2) := by decide +kernel
theorem dL_law_706 : decode cL_law 706 = .ok (.iadd, 1) := by decide +kernel
theorem dL_law_707 : decode cL_law 707 = .ok (.iaload, 1) := by decide +kernel
theorem dL_law_708 : decode cL_law 708 = .ok (.aload_n 0, 1) := by decide +kernel
theorem dL_law_709 : decode cL_law 709 = .ok (.iload_n 3, 1) := by decide +kernel
theorem dL_law_710 : decode cL_law 710 = .ok (.bipush 7, 2) := by decide +kernel
theorem dL_law_712 : decode cL_law 712 = .ok (.iadd, 1) := by decide +kernel
theorem dL_law_713 : decode cL_law 713 = .ok (.iaload, 1) := by decide +kernel
theorem dL_law_714 : decode cL_law 714 = .ok (.aload_n 0, 1) := by decide +kernel
theorem dL_law_715 : decode cL_law 715 = .ok (.iload_n 3, 1) := by decide +kernel
theorem dL_law_716 : decode cL_law 716 = .ok (.bipush 8, 2) := by decide +kernel
theorem dL_law_718 : decode cL_law 718 = .ok (.iadd, 1) := by decide +kernel
theorem dL_law_719 : decode cL_law 719 = .ok (.iaload, 1) := by decide +kernel
theorem dL_law_720 : decode cL_law 720 = .ok (.aload_n 0, 1) := by decide +kernel
theorem dL_law_721 : decode cL_law 721 = .ok (.iload_n 3, 1) := by decide +kernel
theorem dL_law_722 : decode cL_law 722 = .ok (.bipush 9, 2) := by decide +kernel
theorem dL_law_724 : decode cL_law 724 = .ok (.iadd, 1) := by decide +kernel
theorem dL_law_725 : decode cL_law 725 = .ok (.iaload, 1) := by decide +kernel
theorem dL_law_726 : decode cL_law 726 = .ok (.invokevirtual 67, 3) := by decide +kernel
theorem dL_law_729 : decode cL_law 729 = .ok (.aload_n 2, 1) := by decide +kernel
theorem dL_law_730 : decode cL_law 730 = .ok (.aload_n 0, 1) := by decide +kernel
theorem dL_law_731 : decode cL_law 731 = .ok (.iload_n 3, 1) := by decide +kernel
theorem dL_law_732 : decode cL_law 732 = .ok (.iconst 1, 1) := by decide +kernel
theorem dL_law_733 : decode cL_law 733 = .ok (.iadd, 1) := by decide +kernel
theorem dL_law_734 : decode cL_law 734 = .ok (.iaload, 1) := by decide +kernel
theorem dL_law_735 : decode cL_law 735 = .ok (.aload_n 0, 1) := by decide +kernel
theorem dL_law_736 : decode cL_law 736 = .ok (.iload_n 3, 1) := by decide +kernel
theorem dL_law_737 : decode cL_law 737 = .ok (.iconst 2, 1) := by decide +kernel
theorem dL_law_738 : decode cL_law 738 = .ok (.iadd, 1) := by decide +kernel
theorem dL_law_739 : decode cL_law 739 = .ok (.iaload, 1) := by decide +kernel
theorem dL_law_740 : decode cL_law 740 = .ok (.aload_n 0, 1) := by decide +kernel
theorem dL_law_741 : decode cL_law 741 = .ok (.iload_n 3, 1) := by decide +kernel
theorem dL_law_742 : decode cL_law 742 = .ok (.iconst 3, 1) := by decide +kernel
theorem dL_law_743 : decode cL_law 743 = .ok (.iadd, 1) := by decide +kernel
theorem dL_law_744 : decode cL_law 744 = .ok (.iaload, 1) := by decide +kernel
theorem dL_law_745 : decode cL_law 745 = .ok (.aload_n 0, 1) := by decide +kernel
theorem dL_law_746 : decode cL_law 746 = .ok (.iload_n 3, 1) := by decide +kernel
theorem dL_law_747 : decode cL_law 747 = .ok (.iconst 4, 1) := by decide +kernel
theorem dL_law_748 : decode cL_law 748 = .ok (.iadd, 1) := by decide +kernel
theorem dL_law_749 : decode cL_law 749 = .ok (.iaload, 1) := by decide +kernel
theorem dL_law_750 : decode cL_law 750 = .ok (.aload_n 0, 1) := by decide +kernel
theorem dL_law_751 : decode cL_law 751 = .ok (.iload_n 3, 1) := by decide +kernel
theorem dL_law_752 : decode cL_law 752 = .ok (.iconst 5, 1) := by decide +kernel
theorem dL_law_753 : decode cL_law 753 = .ok (.iadd, 1) := by decide +kernel
theorem dL_law_754 : decode cL_law 754 = .ok (.iaload, 1) := by decide +kernel
theorem dL_law_755 : decode cL_law 755 = .ok (.aload_n 0, 1) := by decide +kernel
theorem dL_law_756 : decode cL_law 756 = .ok (.iload_n 3, 1) := by decide +kernel
theorem dL_law_757 : decode cL_law 757 = .ok (.bipush 6, 2) := by decide +kernel
theorem dL_law_759 : decode cL_law 759 = .ok (.iadd, 1) := by decide +kernel
theorem dL_law_760 : decode cL_law 760 = .ok (.iaload, 1) := by decide +kernel
theorem dL_law_761 : decode cL_law 761 = .ok (.aload_n 0, 1) := by decide +kernel
theorem dL_law_762 : decode cL_law 762 = .ok (.iload_n 3, 1) := by decide +kernel
theorem dL_law_763 : decode cL_law 763 = .ok (.bipush 7, 2) := by decide +kernel
theorem dL_law_765 : decode cL_law 765 = .ok (.iadd, 1) := by decide +kernel
theorem dL_law_766 : decode cL_law 766 = .ok (.iaload, 1) := by decide +kernel
theorem dL_law_767 : decode cL_law 767 = .ok (.aload_n 0, 1) := by decide +kernel
theorem dL_law_768 : decode cL_law 768 = .ok (.iload_n 3, 1) := by decide +kernel
theorem dL_law_769 : decode cL_law 769 = .ok (.bipush 8, 2) := by decide +kernel
theorem dL_law_771 : decode cL_law 771 = .ok (.iadd, 1) := by decide +kernel
theorem dL_law_772 : decode cL_law 772 = .ok (.iaload, 1) := by decide +kernel
theorem dL_law_773 : decode cL_law 773 = .ok (.aload_n 0, 1) := by decide +kernel
theorem dL_law_774 : decode cL_law 774 = .ok (.iload_n 3, 1) := by decide +kernel
theorem dL_law_775 : decode cL_law 775 = .ok (.bipush 9, 2) := by decide +kernel
theorem dL_law_777 : decode cL_law 777 = .ok (.iadd, 1) := by decide +kernel
theorem dL_law_778 : decode cL_law 778 = .ok (.iaload, 1) := by decide +kernel
theorem dL_law_779 : decode cL_law 779 = .ok (.invokevirtual 71, 3) := by decide +kernel
theorem dL_law_782 : decode cL_law 782 = .ok (.if_icmp .eq 1119, 3) := by decide +kernel
theorem dL_law_785 : decode cL_law 785 = .ok (.iconst 0, 1) := by decide +kernel
theorem dL_law_786 : decode cL_law 786 = .ok (.ireturn, 1) := by decide +kernel
theorem dL_law_787 : decode cL_law 787 = .ok (.aload_n 1, 1) := by decide +kernel
theorem dL_law_788 : decode cL_law 788 = .ok (.aload_n 0, 1) := by decide +kernel
theorem dL_law_789 : decode cL_law 789 = .ok (.iload_n 3, 1) := by decide +kernel
theorem dL_law_790 : decode cL_law 790 = .ok (.iconst 1, 1) := by decide +kernel
theorem dL_law_791 : decode cL_law 791 = .ok (.iadd, 1) := by decide +kernel
theorem dL_law_792 : decode cL_law 792 = .ok (.iaload, 1) := by decide +kernel
theorem dL_law_793 : decode cL_law 793 = .ok (.aload_n 0, 1) := by decide +kernel
theorem dL_law_794 : decode cL_law 794 = .ok (.iload_n 3, 1) := by decide +kernel
theorem dL_law_795 : decode cL_law 795 = .ok (.iconst 2, 1) := by decide +kernel
theorem dL_law_796 : decode cL_law 796 = .ok (.iadd, 1) := by decide +kernel
theorem dL_law_797 : decode cL_law 797 = .ok (.iaload, 1) := by decide +kernel
theorem dL_law_798 : decode cL_law 798 = .ok (.aload_n 0, 1) := by decide +kernel
theorem dL_law_799 : decode cL_law 799 = .ok (.iload_n 3, 1) := by decide +kernel
theorem dL_law_800 : decode cL_law 800 = .ok (.iconst 3, 1) := by decide +kernel
theorem dL_law_801 : decode cL_law 801 = .ok (.iadd, 1) := by decide +kernel
theorem dL_law_802 : decode cL_law 802 = .ok (.iaload, 1) := by decide +kernel
theorem dL_law_803 : decode cL_law 803 = .ok (.invokevirtual 72, 3) := by decide +kernel
theorem dL_law_806 : decode cL_law 806 = .ok (.aload_n 2, 1) := by decide +kernel
theorem dL_law_807 : decode cL_law 807 = .ok (.aload_n 0, 1) := by decide +kernel
theorem dL_law_808 : decode cL_law 808 = .ok (.iload_n 3, 1) := by decide +kernel
theorem dL_law_809 : decode cL_law 809 = .ok (.iconst 1, 1) := by decide +kernel
theorem dL_law_810 : decode cL_law 810 = .ok (.iadd, 1) := by decide +kernel
theorem dL_law_811 : decode cL_law 811 = .ok (.iaload, 1) := by decide +kernel
theorem dL_law_812 : decode cL_law 812 = .ok (.aload_n 0, 1) := by decide +kernel
theorem dL_law_813 : decode cL_law 813 = .ok (.iload_n 3, 1) := by decide +kernel
theorem dL_law_814 : decode cL_law 814 = .ok (.iconst 2, 1) := by decide +kernel
theorem dL_law_815 : decode cL_law 815 = .ok (.iadd, 1) := by decide +kernel
theorem dL_law_816 : decode cL_law 816 = .ok (.iaload, 1) := by decide +kernel
theorem dL_law_817 : decode cL_law 817 = .ok (.aload_n 0, 1) := by decide +kernel
theorem dL_law_818 : decode cL_law 818 = .ok (.iload_n 3, 1) := by decide +kernel
theorem dL_law_819 : decode cL_law 819 = .ok (.iconst 3, 1) := by decide +kernel
theorem dL_law_820 : decode cL_law 820 = .ok (.iadd, 1) := by decide +kernel
theorem dL_law_821 : decode cL_law 821 = .ok (.iaload, 1) := by decide +kernel
theorem dL_law_822 : decode cL_law 822 = .ok (.invokevirtual 76, 3) := by decide +kernel
theorem dL_law_825 : decode cL_law 825 = .ok (.if_icmp .eq 1076, 3) := by decide +kernel
theorem dL_law_828 : decode cL_law 828 = .ok (.iconst 0, 1) := by decide +kernel
theorem dL_law_829 : decode cL_law 829 = .ok (.ireturn, 1) := by decide +kernel
theorem dL_law_830 : decode cL_law 830 = .ok (.aload_n 1, 1) := by decide +kernel
theorem dL_law_831 : decode cL_law 831 = .ok (.aload_n 0, 1) := by decide +kernel
theorem dL_law_832 : decode cL_law 832 = .ok (.iload_n 3, 1) := by decide +kernel
theorem dL_law_833 : decode cL_law 833 = .ok (.iconst 1, 1) := by decide +kernel
theorem dL_law_834 : decode cL_law 834 = .ok (.iadd, 1) := by decide +kernel
theorem dL_law_835 : decode cL_law 835 = .ok (.iaload, 1) := by decide +kernel
theorem dL_law_836 : decode cL_law 836 = .ok (.aload_n 0, 1) := by decide +kernel
theorem dL_law_837 : decode cL_law 837 = .ok (.iload_n 3, 1) := by decide +kernel
theorem dL_law_838 : decode cL_law 838 = .ok (.iconst 2, 1) := by decide +kernel
theorem dL_law_839 : decode cL_law 839 = .ok (.iadd, 1) := by decide +kernel
theorem dL_law_840 : decode cL_law 840 = .ok (.iaload, 1) := by decide +kernel
theorem dL_law_841 : decode cL_law 841 = .ok (.invokevirtual 77, 3) := by decide +kernel
theorem dL_law_844 : decode cL_law 844 = .ok (.aload_n 2, 1) := by decide +kernel
theorem dL_law_845 : decode cL_law 845 = .ok (.aload_n 0, 1) := by decide +kernel
theorem dL_law_846 : decode cL_law 846 = .ok (.iload_n 3, 1) := by decide +kernel
theorem dL_law_847 : decode cL_law 847 = .ok (.iconst 1, 1) := by decide +kernel
theorem dL_law_848 : decode cL_law 848 = .ok (.iadd, 1) := by decide +kernel
theorem dL_law_849 : decode cL_law 849 = .ok (.iaload, 1) := by decide +kernel
theorem dL_law_850 : decode cL_law 850 = .ok (.aload_n 0, 1) := by decide +kernel
theorem dL_law_851 : decode cL_law 851 = .ok (.iload_n 3, 1) := by decide +kernel
theorem dL_law_852 : decode cL_law 852 = .ok (.iconst 2, 1) := by decide +kernel
theorem dL_law_853 : decode cL_law 853 = .ok (.iadd, 1) := by decide +kernel
theorem dL_law_854 : decode cL_law 854 = .ok (.iaload, 1) := by decide +kernel
theorem dL_law_855 : decode cL_law 855 = .ok (.invokevirtual 80, 3) := by decide +kernel
theorem dL_law_858 : decode cL_law 858 = .ok (.if_icmp .eq 1043, 3) := by decide +kernel
theorem dL_law_861 : decode cL_law 861 = .ok (.iconst 0, 1) := by decide +kernel
theorem dL_law_862 : decode cL_law 862 = .ok (.ireturn, 1) := by decide +kernel
theorem dL_law_863 : decode cL_law 863 = .ok (.aload_n 1, 1) := by decide +kernel
theorem dL_law_864 : decode cL_law 864 = .ok (.aload_n 0, 1) := by decide +kernel
theorem dL_law_865 : decode cL_law 865 = .ok (.iload_n 3, 1) := by decide +kernel
theorem dL_law_866 : decode cL_law 866 = .ok (.iconst 1, 1) := by decide +kernel
theorem dL_law_867 : decode cL_law 867 = .ok (.iadd, 1) := by decide +kernel
theorem dL_law_868 : decode cL_law 868 = .ok (.iaload, 1) := by decide +kernel
theorem dL_law_869 : decode cL_law 869 = .ok (.aload_n 0, 1) := by decide +kernel
theorem dL_law_870 : decode cL_law 870 = .ok (.iload_n 3, 1) := by decide +kernel
theorem dL_law_871 : decode cL_law 871 = .ok (.iconst 2, 1) := by decide +kernel
theorem dL_law_872 : decode cL_law 872 = .ok (.iadd, 1) := by decide +kernel
theorem dL_law_873 : decode cL_law 873 = .ok (.iaload, 1) := by decide +kernel
theorem dL_law_874 : decode cL_law 874 = .ok (.invokevirtual 81, 3) := by decide +kernel
theorem dL_law_877 : decode cL_law 877 = .ok (.aload_n 2, 1) := by decide +kernel
theorem dL_law_878 : decode cL_law 878 = .ok (.aload_n 0, 1) := by decide +kernel
theorem dL_law_879 : decode cL_law 879 = .ok (.iload_n 3, 1) := by decide +kernel
theorem dL_law_880 : decode cL_law 880 = .ok (.iconst 1, 1) := by decide +kernel
theorem dL_law_881 : decode cL_law 881 = .ok (.iadd, 1) := by decide +kernel
theorem dL_law_882 : decode cL_law 882 = .ok (.iaload, 1) := by decide +kernel
theorem dL_law_883 : decode cL_law 883 = .ok (.aload_n 0, 1) := by decide +kernel
theorem dL_law_884 : decode cL_law 884 = .ok (.iload_n 3, 1) := by decide +kernel
theorem dL_law_885 : decode cL_law 885 = .ok (.iconst 2, 1) := by decide +kernel
theorem dL_law_886 : decode cL_law 886 = .ok (.iadd, 1) := by decide +kernel
theorem dL_law_887 : decode cL_law 887 = .ok (.iaload, 1) := by decide +kernel
theorem dL_law_888 : decode cL_law 888 = .ok (.invokevirtual 84, 3) := by decide +kernel
theorem dL_law_891 : decode cL_law 891 = .ok (.if_icmp .eq 1010, 3) := by decide +kernel
theorem dL_law_894 : decode cL_law 894 = .ok (.iconst 0, 1) := by decide +kernel
theorem dL_law_895 : decode cL_law 895 = .ok (.ireturn, 1) := by decide +kernel
theorem dL_law_896 : decode cL_law 896 = .ok (.aload_n 1, 1) := by decide +kernel
theorem dL_law_897 : decode cL_law 897 = .ok (.aload_n 0, 1) := by decide +kernel
theorem dL_law_898 : decode cL_law 898 = .ok (.iload_n 3, 1) := by decide +kernel
theorem dL_law_899 : decode cL_law 899 = .ok (.iconst 1, 1) := by decide +kernel
theorem dL_law_900 : decode cL_law 900 = .ok (.iadd, 1) := by decide +kernel
theorem dL_law_901 : decode cL_law 901 = .ok (.iaload, 1) := by decide +kernel
theorem dL_law_902 : decode cL_law 902 = .ok (.invokevirtual 85, 3) := by decide +kernel
theorem dL_law_905 : decode cL_law 905 = .ok (.aload_n 2, 1) := by decide +kernel
theorem dL_law_906 : decode cL_law 906 = .ok (.aload_n 0, 1) := by decide +kernel
theorem dL_law_907 : decode cL_law 907 = .ok (.iload_n 3, 1) := by decide +kernel
theorem dL_law_908 : decode cL_law 908 = .ok (.iconst 1, 1) := by decide +kernel
theorem dL_law_909 : decode cL_law 909 = .ok (.iadd, 1) := by decide +kernel
theorem dL_law_910 : decode cL_law 910 = .ok (.iaload, 1) := by decide +kernel
theorem dL_law_911 : decode cL_law 911 = .ok (.invokevirtual 88, 3) := by decide +kernel
theorem dL_law_914 : decode cL_law 914 = .ok (.if_icmp .eq 987, 3) := by decide +kernel
theorem dL_law_917 : decode cL_law 917 = .ok (.iconst 0, 1) := by decide +kernel
theorem dL_law_918 : decode cL_law 918 = .ok (.ireturn, 1) := by decide +kernel
theorem dL_law_919 : decode cL_law 919 = .ok (.aload_n 1, 1) := by decide +kernel
theorem dL_law_920 : decode cL_law 920 = .ok (.aload_n 0, 1) := by decide +kernel
theorem dL_law_921 : decode cL_law 921 = .ok (.iload_n 3, 1) := by decide +kernel
theorem dL_law_922 : decode cL_law 922 = .ok (.iconst 1, 1) := by decide +kernel
theorem dL_law_923 : decode cL_law 923 = .ok (.iadd, 1) := by decide +kernel
theorem dL_law_924 : decode cL_law 924 = .ok (.iaload, 1) := by decide +kernel
theorem dL_law_925 : decode cL_law 925 = .ok (.aload_n 0, 1) := by decide +kernel
theorem dL_law_926 : decode cL_law 926 = .ok (.iload_n 3, 1) := by decide +kernel
theorem dL_law_927 : decode cL_law 927 = .ok (.iconst 2, 1) := by decide +kernel
theorem dL_law_928 : decode cL_law 928 = .ok (.iadd, 1) := by decide +kernel
theorem dL_law_929 : decode cL_law 929 = .ok (.iaload, 1) := by decide +kernel
theorem dL_law_930 : decode cL_law 930 = .ok (.invokevirtual 89, 3) := by decide +kernel
theorem dL_law_933 : decode cL_law 933 = .ok (.aload_n 2, 1) := by decide +kernel
theorem dL_law_934 : decode cL_law 934 = .ok (.aload_n 0, 1) := by decide +kernel
theorem dL_law_935 : decode cL_law 935 = .ok (.iload_n 3, 1) := by decide +kernel
theorem dL_law_936 : decode cL_law 936 = .ok (.iconst 1, 1) := by decide +kernel
theorem dL_law_937 : decode cL_law 937 = .ok (.iadd, 1) := by decide +kernel
theorem dL_law_938 : decode cL_law 938 = .ok (.iaload, 1) := by decide +kernel
theorem dL_law_939 : decode cL_law 939 = .ok (.aload_n 0, 1) := by decide +kernel
theorem dL_law_940 : decode cL_law 940 = .ok (.iload_n 3, 1) := by decide +kernel
theorem dL_law_941 : decode cL_law 941 = .ok (.iconst 2, 1) := by decide +kernel
theorem dL_law_942 : decode cL_law 942 = .ok (.iadd, 1) := by decide +kernel
theorem dL_law_943 : decode cL_law 943 = .ok (.iaload, 1) := by decide +kernel
theorem dL_law_944 : decode cL_law 944 = .ok (.invokevirtual 92, 3) := by decide +kernel
theorem dL_law_947 : decode cL_law 947 = .ok (.if_icmp .eq 954, 3) := by decide +kernel
theorem dL_law_950 : decode cL_law 950 = .ok (.iconst 0, 1) := by decide +kernel
theorem dL_law_951 : decode cL_law 951 = .ok (.ireturn, 1) := by decide +kernel
theorem dL_law_952 : decode cL_law 952 = .ok (.aload_n 1, 1) := by decide +kernel
theorem dL_law_953 : decode cL_law 953 = .ok (.aload_n 0, 1) := by decide +kernel
theorem dL_law_954 : decode cL_law 954 = .ok (.iload_n 3, 1) := by decide +kernel
theorem dL_law_955 : decode cL_law 955 = .ok (.iconst 1, 1) := by decide +kernel
theorem dL_law_956 : decode cL_law 956 = .ok (.iadd, 1) := by decide +kernel
theorem dL_law_957 : decode cL_law 957 = .ok (.iaload, 1) := by decide +kernel
theorem dL_law_958 : decode cL_law 958 = .ok (.invokevirtual 93, 3) := by decide +kernel
theorem dL_law_961 : decode cL_law 961 = .ok (.aload_n 2, 1) := by decide +kernel
theorem dL_law_962 : decode cL_law 962 = .ok (.aload_n 0, 1) := by decide +kernel
theorem dL_law_963 : decode cL_law 963 = .ok (.iload_n 3, 1) := by decide +kernel
theorem dL_law_964 : decode cL_law 964 = .ok (.iconst 1, 1) := by decide +kernel
theorem dL_law_965 : decode cL_law 965 = .ok (.iadd, 1) := by decide +kernel
theorem dL_law_966 : decode cL_law 966 = .ok (.iaload, 1) := by decide +kernel
theorem dL_law_967 : decode cL_law 967 = .ok (.invokevirtual 96, 3) := by decide +kernel
theorem dL_law_970 : decode cL_law 970 = .ok (.if_icmp .eq 931, 3) := by decide +kernel
theorem dL_law_973 : decode cL_law 973 = .ok (.iconst 0, 1) := by decide +kernel
theorem dL_law_974 : decode cL_law 974 = .ok (.ireturn, 1) := by decide +kernel
theorem dL_law_975 : decode cL_law 975 = .ok (.aload_n 1, 1) := by decide +kernel
theorem dL_law_976 : decode cL_law 976 = .ok (.aload_n 0, 1) := by decide +kernel
theorem dL_law_977 : decode cL_law 977 = .ok (.iload_n 3, 1) := by decide +kernel
theorem dL_law_978 : decode cL_law 978 = .ok (.iconst 1, 1) := by decide +kernel
theorem dL_law_979 : decode cL_law 979 = .ok (.iadd, 1) := by decide +kernel
theorem dL_law_980 : decode cL_law 980 = .ok (.iaload, 1) := by decide +kernel
theorem dL_law_981 : decode cL_law 981 = .ok (.invokevirtual 97, 3) := by decide +kernel
theorem dL_law_984 : decode cL_law 984 = .ok (.aload_n 2, 1) := by decide +kernel
theorem dL_law_985 : decode cL_law 985 = .ok (.aload_n 0, 1) := by decide +kernel
theorem dL_law_986 : decode cL_law 986 = .ok (.iload_n 3, 1) := by decide +kernel
theorem dL_law_987 : decode cL_law 987 = .ok (.iconst 1, 1) := by decide +kernel
theorem dL_law_988 : decode cL_law 988 = .ok (.iadd, 1) := by decide +kernel
theorem dL_law_989 : decode cL_law 989 = .ok (.iaload, 1) := by decide +kernel
theorem dL_law_990 : decode cL_law 990 = .ok (.invokevirtual 100, 3) := by decide +kernel
theorem dL_law_993 : decode cL_law 993 = .ok (.if_icmp .eq 908, 3) := by decide +kernel
theorem dL_law_996 : decode cL_law 996 = .ok (.iconst 0, 1) := by decide +kernel
theorem dL_law_997 : decode cL_law 997 = .ok (.ireturn, 1) := by decide +kernel
theorem dL_law_998 : decode cL_law 998 = .ok (.aload_n 1, 1) := by decide +kernel
theorem dL_law_999 : decode cL_law 999 = .ok (.aload_n 0, 1) := by decide +kernel
theorem dL_law_1000 : decode cL_law 1000 = .ok (.iload_n 3, 1) := by decide +kernel
theorem dL_law_1001 : decode cL_law 1001 = .ok (.iconst 1, 1) := by decide +kernel
theorem dL_law_1002 : decode cL_law 1002 = .ok (.iadd, 1) := by decide +kernel
theorem dL_law_1003 : decode cL_law 1003 = .ok (.iaload, 1) := by decide +kernel
theorem dL_law_1004 : decode cL_law 1004 = .ok (.aload_n 0, 1) := by decide +kernel
theorem dL_law_1005 : decode cL_law 1005 = .ok (.iload_n 3, 1) := by decide +kernel
theorem dL_law_1006 : decode cL_law 1006 = .ok (.iconst 2, 1) := by decide +kernel
theorem dL_law_1007 : decode cL_law 1007 = .ok (.iadd, 1) := by decide +kernel
theorem dL_law_1008 : decode cL_law 1008 = .ok (.iaload, 1) := by decide +kernel
theorem dL_law_1009 : decode cL_law 1009 = .ok (.invokevirtual 101, 3) := by decide +kernel
theorem dL_law_1012 : decode cL_law 1012 = .ok (.aload_n 2, 1) := by decide +kernel
theorem dL_law_1013 : decode cL_law 1013 = .ok (.aload_n 0, 1) := by decide +kernel
theorem dL_law_1014 : decode cL_law 1014 = .ok (.iload_n 3, 1) := by decide +kernel
theorem dL_law_1015 : decode cL_law 1015 = .ok (.iconst 1, 1) := by decide +kernel
theorem dL_law_1016 : decode cL_law 1016 = .ok (.iadd, 1) := by decide +kernel
theorem dL_law_1017 : decode cL_law 1017 = .ok (.iaload, 1) := by decide +kernel
theorem dL_law_1018 : decode cL_law 1018 = .ok (.aload_n 0, 1) := by decide +kernel
theorem dL_law_1019 : decode cL_law 1019 = .ok (.iload_n 3, 1) := by decide +kernel
theorem dL_law_1020 : decode cL_law 1020 = .ok (.iconst 2, 1) := by decide +kernel
theorem dL_law_1021 : decode cL_law 1021 = .ok (.iadd, 1) := by decide +kernel
theorem dL_law_1022 : decode cL_law 1022 = .ok (.iaload, 1) := by decide +kernel
theorem dL_law_1023 : decode cL_law 1023 = .ok (.invokevirtual 104, 3) := by decide +kernel
theorem dL_law_1026 : decode cL_law 1026 = .ok (.if_icmp .eq 875, 3) := by decide +kernel
theorem dL_law_1029 : decode cL_law 1029 = .ok (.iconst 0, 1) := by decide +kernel
theorem dL_law_1030 : decode cL_law 1030 = .ok (.ireturn, 1) := by decide +kernel
theorem dL_law_1031 : decode cL_law 1031 = .ok (.aload_n 1, 1) := by decide +kernel
theorem dL_law_1032 : decode cL_law 1032 = .ok (.aload_n 0, 1) := by decide +kernel
theorem dL_law_1033 : decode cL_law 1033 = .ok (.iload_n 3, 1) := by decide +kernel
theorem dL_law_1034 : decode cL_law 1034 = .ok (.iconst 1, 1) := by decide +kernel
theorem dL_law_1035 : decode cL_law 1035 = .ok (.iadd, 1) := by decide +kernel
theorem dL_law_1036 : decode cL_law 1036 = .ok (.iaload, 1) := by decide +kernel
theorem dL_law_1037 : decode cL_law 1037 = .ok (.invokevirtual 105, 3) := by decide +kernel
theorem dL_law_1040 : decode cL_law 1040 = .ok (.aload_n 2, 1) := by decide +kernel
theorem dL_law_1041 : decode cL_law 1041 = .ok (.aload_n 0, 1) := by decide +kernel
theorem dL_law_1042 : decode cL_law 1042 = .ok (.iload_n 3, 1) := by decide +kernel
theorem dL_law_1043 : decode cL_law 1043 = .ok (.iconst 1, 1) := by decide +kernel
theorem dL_law_1044 : decode cL_law 1044 = .ok (.iadd, 1) := by decide +kernel
theorem dL_law_1045 : decode cL_law 1045 = .ok (.iaload, 1) := by decide +kernel
theorem dL_law_1046 : decode cL_law 1046 = .ok (.invokevirtual 108, 3) := by decide +kernel
theorem dL_law_1049 : decode cL_law 1049 = .ok (.if_icmp .eq 852, 3) := by decide +kernel
theorem dL_law_1052 : decode cL_law 1052 = .ok (.iconst 0, 1) := by decide +kernel
theorem dL_law_1053 : decode cL_law 1053 = .ok (.ireturn, 1) := by decide +kernel
theorem dL_law_1054 : decode cL_law 1054 = .ok (.aload_n 1, 1) := by decide +kernel
theorem dL_law_1055 : decode cL_law 1055 = .ok (.aload_n 0, 1) := by decide +kernel
theorem dL_law_1056 : decode cL_law 1056 = .ok (.iload_n 3, 1) := by decide +kernel
theorem dL_law_1057 : decode cL_law 1057 = .ok (.iconst 1, 1) := by decide +kernel
theorem dL_law_1058 : decode cL_law 1058 = .ok (.iadd, 1) := by decide +kernel
theorem dL_law_1059 : decode cL_law 1059 = .ok (.iaload, 1) := by decide +kernel
theorem dL_law_1060 : decode cL_law 1060 = .ok (.aload_n 0, 1) := by decide +kernel
theorem dL_law_1061 : decode cL_law 1061 = .ok (.iload_n 3, 1) := by decide +kernel
theorem dL_law_1062 : decode cL_law 1062 = .ok (.iconst 2, 1) := by decide +kernel
theorem dL_law_1063 : decode cL_law 1063 = .ok (.iadd, 1) := by decide +kernel
theorem dL_law_1064 : decode cL_law 1064 = .ok (.iaload, 1) := by decide +kernel
theorem dL_law_1065 : decode cL_law 1065 = .ok (.invokevirtual 109, 3) := by decide +kernel
theorem dL_law_1068 : decode cL_law 1068 = .ok (.aload_n 2, 1) := by decide +kernel
theorem dL_law_1069 : decode cL_law 1069 = .ok (.aload_n 0, 1) := by decide +kernel
theorem dL_law_1070 : decode cL_law 1070 = .ok (.iload_n 3, 1) := by decide +kernel
theorem dL_law_1071 : decode cL_law 1071 = .ok (.iconst 1, 1) := by decide +kernel
theorem dL_law_1072 : decode cL_law 1072 = .ok (.iadd, 1) := by decide +kernel
theorem dL_law_1073 : decode cL_law 1073 = .ok (.iaload, 1) := by decide +kernel
theorem dL_law_1074 : decode cL_law 1074 = .ok (.aload_n 0, 1) := by decide +kernel
theorem dL_law_1075 : decode cL_law 1075 = .ok (.iload_n 3, 1) := by decide +kernel
theorem dL_law_1076 : decode cL_law 1076 = .ok (.iconst 2, 1) := by decide +kernel
theorem dL_law_1077 : decode cL_law 1077 = .ok (.iadd, 1) := by decide +kernel
theorem dL_law_1078 : decode cL_law 1078 = .ok (.iaload, 1) := by decide +kernel
theorem dL_law_1079 : decode cL_law 1079 = .ok (.invokevirtual 112, 3) := by decide +kernel
theorem dL_law_1082 : decode cL_law 1082 = .ok (.if_icmp .eq 819, 3) := by decide +kernel
theorem dL_law_1085 : decode cL_law 1085 = .ok (.iconst 0, 1) := by decide +kernel
theorem dL_law_1086 : decode cL_law 1086 = .ok (.ireturn, 1) := by decide +kernel
theorem dL_law_1087 : decode cL_law 1087 = .ok (.aload_n 1, 1) := by decide +kernel
theorem dL_law_1088 : decode cL_law 1088 = .ok (.aload_n 0, 1) := by decide +kernel
theorem dL_law_1089 : decode cL_law 1089 = .ok (.iload_n 3, 1) := by decide +kernel
theorem dL_law_1090 : decode cL_law 1090 = .ok (.iconst 1, 1) := by decide +kernel
theorem dL_law_1091 : decode cL_law 1091 = .ok (.iadd, 1) := by decide +kernel
theorem dL_law_1092 : decode cL_law 1092 = .ok (.iaload, 1) := by decide +kernel
theorem dL_law_1093 : decode cL_law 1093 = .ok (.aload_n 0, 1) := by decide +kernel
theorem dL_law_1094 : decode cL_law 1094 = .ok (.iload_n 3, 1) := by decide +kernel
theorem dL_law_1095 : decode cL_law 1095 = .ok (.iconst 2, 1) := by decide +kernel
theorem dL_law_1096 : decode cL_law 1096 = .ok (.iadd, 1) := by decide +kernel
theorem dL_law_1097 : decode cL_law 1097 = .ok (.iaload, 1) := by decide +kernel
theorem dL_law_1098 : decode cL_law 1098 = .ok (.invokevirtual 113, 3) := by decide +kernel
theorem dL_law_1101 : decode cL_law 1101 = .ok (.aload_n 2, 1) := by decide +kernel
theorem dL_law_1102 : decode cL_law 1102 = .ok (.aload_n 0, 1) := by decide +kernel
theorem dL_law_1103 : decode cL_law 1103 = .ok (.iload_n 3, 1) := by decide +kernel
theorem dL_law_1104 : decode cL_law 1104 = .ok (.iconst 1, 1) := by decide +kernel
theorem dL_law_1105 : decode cL_law 1105 = .ok (.iadd, 1) := by decide +kernel
theorem dL_law_1106 : decode cL_law 1106 = .ok (.iaload, 1) := by decide +kernel
theorem dL_law_1107 : decode cL_law 1107 = .ok (.aload_n 0, 1) := by decide +kernel
theorem dL_law_1108 : decode cL_law 1108 = .ok (.iload_n 3, 1) := by decide +kernel
theorem dL_law_1109 : decode cL_law 1109 = .ok (.iconst 2, 1) := by decide +kernel
theorem dL_law_1110 : decode cL_law 1110 = .ok (.iadd, 1) := by decide +kernel
theorem dL_law_1111 : decode cL_law 1111 = .ok (.iaload, 1) := by decide +kernel
theorem dL_law_1112 : decode cL_law 1112 = .ok (.invokevirtual 116, 3) := by decide +kernel
theorem dL_law_1115 : decode cL_law 1115 = .ok (.if_icmp .eq 786, 3) := by decide +kernel
theorem dL_law_1118 : decode cL_law 1118 = .ok (.iconst 0, 1) := by decide +kernel
theorem dL_law_1119 : decode cL_law 1119 = .ok (.ireturn, 1) := by decide +kernel
theorem dL_law_1120 : decode cL_law 1120 = .ok (.aload_n 1, 1) := by decide +kernel
theorem dL_law_1121 : decode cL_law 1121 = .ok (.invokevirtual 117, 3) := by decide +kernel
theorem dL_law_1124 : decode cL_law 1124 = .ok (.aload_n 2, 1) := by decide +kernel
theorem dL_law_1125 : decode cL_law 1125 = .ok (.invokevirtual 120, 3) := by decide +kernel
theorem dL_law_1128 : decode cL_law 1128 = .ok (.if_icmp .eq 773, 3) := by decide +kernel
theorem dL_law_1131 : decode cL_law 1131 = .ok (.iconst 0, 1) := by decide +kernel
theorem dL_law_1132 : decode cL_law 1132 = .ok (.ireturn, 1) := by decide +kernel
theorem dL_law_1133 : decode cL_law 1133 = .ok (.aload_n 1, 1) := by decide +kernel
theorem dL_law_1134 : decode cL_law 1134 = .ok (.aload_n 0, 1) := by decide +kernel
theorem dL_law_1135 : decode cL_law 1135 = .ok (.iload_n 3, 1) := by decide +kernel
theorem dL_law_1136 : decode cL_law 1136 = .ok (.iconst 1, 1) := by decide +kernel
theorem dL_law_1137 : decode cL_law 1137 = .ok (.iadd, 1) := by decide +kernel
theorem dL_law_1138 : decode cL_law 1138 = .ok (.iaload, 1) := by decide +kernel
theorem dL_law_1139 : decode cL_law 1139 = .ok (.invokevirtual 121, 3) := by decide +kernel
theorem dL_law_1142 : decode cL_law 1142 = .ok (.aload_n 2, 1) := by decide +kernel
theorem dL_law_1143 : decode cL_law 1143 = .ok (.aload_n 0, 1) := by decide +kernel
theorem dL_law_1144 : decode cL_law 1144 = .ok (.iload_n 3, 1) := by decide +kernel
theorem dL_law_1145 : decode cL_law 1145 = .ok (.iconst 1, 1) := by decide +kernel
theorem dL_law_1146 : decode cL_law 1146 = .ok (.iadd, 1) := by decide +kernel
theorem dL_law_1147 : decode cL_law 1147 = .ok (.iaload, 1) := by decide +kernel
theorem dL_law_1148 : decode cL_law 1148 = .ok (.invokevirtual 124, 3) := by decide +kernel
theorem dL_law_1151 : decode cL_law 1151 = .ok (.if_icmp .eq 750, 3) := by decide +kernel
theorem dL_law_1154 : decode cL_law 1154 = .ok (.iconst 0, 1) := by decide +kernel
theorem dL_law_1155 : decode cL_law 1155 = .ok (.ireturn, 1) := by decide +kernel
theorem dL_law_1156 : decode cL_law 1156 = .ok (.aload_n 1, 1) := by decide +kernel
theorem dL_law_1157 : decode cL_law 1157 = .ok (.aload_n 0, 1) := by decide +kernel
theorem dL_law_1158 : decode cL_law 1158 = .ok (.iload_n 3, 1) := by decide +kernel
theorem dL_law_1159 : decode cL_law 1159 = .ok (.iconst 1, 1) := by decide +kernel
theorem dL_law_1160 : decode cL_law 1160 = .ok (.iadd, 1) := by decide +kernel
theorem dL_law_1161 : decode cL_law 1161 = .ok (.iaload, 1) := by decide +kernel
theorem dL_law_1162 : decode cL_law 1162 = .ok (.invokevirtual 125, 3) := by decide +kernel
theorem dL_law_1165 : decode cL_law 1165 = .ok (.aload_n 2, 1) := by decide +kernel
theorem dL_law_1166 : decode cL_law 1166 = .ok (.aload_n 0, 1) := by decide +kernel
theorem dL_law_1167 : decode cL_law 1167 = .ok (.iload_n 3, 1) := by decide +kernel
theorem dL_law_1168 : decode cL_law 1168 = .ok (.iconst 1, 1) := by decide +kernel
theorem dL_law_1169 : decode cL_law 1169 = .ok (.iadd, 1) := by decide +kernel
theorem dL_law_1170 : decode cL_law 1170 = .ok (.iaload, 1) := by decide +kernel
theorem dL_law_1171 : decode cL_law 1171 = .ok (.invokevirtual 128, 3) := by decide +kernel
theorem dL_law_1174 : decode cL_law 1174 = .ok (.if_icmp .eq 727, 3) := by decide +kernel
theorem dL_law_1177 : decode cL_law 1177 = .ok (.iconst 0, 1) := by decide +kernel
theorem dL_law_1178 : decode cL_law 1178 = .ok (.ireturn, 1) := by decide +kernel
theorem dL_law_1179 : decode cL_law 1179 = .ok (.aload_n 1, 1) := by decide +kernel
theorem dL_law_1180 : decode cL_law 1180 = .ok (.invokevirtual 129, 3) := by decide +kernel
theorem dL_law_1183 : decode cL_law 1183 = .ok (.aload_n 2, 1) := by decide +kernel
theorem dL_law_1184 : decode cL_law 1184 = .ok (.invokevirtual 132, 3) := by decide +kernel
theorem dL_law_1187 : decode cL_law 1187 = .ok (.if_icmp .eq 714, 3) := by decide +kernel
theorem dL_law_1190 : decode cL_law 1190 = .ok (.iconst 0, 1) := by decide +kernel
theorem dL_law_1191 : decode cL_law 1191 = .ok (.ireturn, 1) := by decide +kernel
theorem dL_law_1192 : decode cL_law 1192 = .ok (.aload_n 1, 1) := by decide +kernel
theorem dL_law_1193 : decode cL_law 1193 = .ok (.aload_n 0, 1) := by decide +kernel
theorem dL_law_1194 : decode cL_law 1194 = .ok (.iload_n 3, 1) := by decide +kernel
theorem dL_law_1195 : decode cL_law 1195 = .ok (.iconst 1, 1) := by decide +kernel
theorem dL_law_1196 : decode cL_law 1196 = .ok (.iadd, 1) := by decide +kernel
theorem dL_law_1197 : decode cL_law 1197 = .ok (.iaload, 1) := by decide +kernel
theorem dL_law_1198 : decode cL_law 1198 = .ok (.invokevirtual 133, 3) := by decide +kernel
theorem dL_law_1201 : decode cL_law 1201 = .ok (.aload_n 2, 1) := by decide +kernel
theorem dL_law_1202 : decode cL_law 1202 = .ok (.aload_n 0, 1) := by decide +kernel
theorem dL_law_1203 : decode cL_law 1203 = .ok (.iload_n 3, 1) := by decide +kernel
theorem dL_law_1204 : decode cL_law 1204 = .ok (.iconst 1, 1) := by decide +kernel
theorem dL_law_1205 : decode cL_law 1205 = .ok (.iadd, 1) := by decide +kernel
theorem dL_law_1206 : decode cL_law 1206 = .ok (.iaload, 1) := by decide +kernel
theorem dL_law_1207 : decode cL_law 1207 = .ok (.invokevirtual 136, 3) := by decide +kernel
theorem dL_law_1210 : decode cL_law 1210 = .ok (.if_icmp .eq 691, 3) := by decide +kernel
theorem dL_law_1213 : decode cL_law 1213 = .ok (.iconst 0, 1) := by decide +kernel
theorem dL_law_1214 : decode cL_law 1214 = .ok (.ireturn, 1) := by decide +kernel
theorem dL_law_1215 : decode cL_law 1215 = .ok (.aload_n 1, 1) := by decide +kernel
theorem dL_law_1216 : decode cL_law 1216 = .ok (.aload_n 0, 1) := by decide +kernel
theorem dL_law_1217 : decode cL_law 1217 = .ok (.iload_n 3, 1) := by decide +kernel
theorem dL_law_1218 : decode cL_law 1218 = .ok (.iconst 1, 1) := by decide +kernel
theorem dL_law_1219 : decode cL_law 1219 = .ok (.iadd, 1) := by decide +kernel
theorem dL_law_1220 : decode cL_law 1220 = .ok (.iaload, 1) := by decide +kernel
theorem dL_law_1221 : decode cL_law 1221 = .ok (.aload_n 0, 1) := by decide +kernel
theorem dL_law_1222 : decode cL_law 1222 = .ok (.iload_n 3, 1) := by decide +kernel
theorem dL_law_1223 : decode cL_law 1223 = .ok (.iconst 2, 1) := by decide +kernel
theorem dL_law_1224 : decode cL_law 1224 = .ok (.iadd, 1) := by decide +kernel
theorem dL_law_1225 : decode cL_law 1225 = .ok (.iaload, 1) := by decide +kernel
theorem dL_law_1226 : decode cL_law 1226 = .ok (.invokevirtual 137, 3) := by decide +kernel
theorem dL_law_1229 : decode cL_law 1229 = .ok (.aload_n 2, 1) := by decide +kernel
theorem dL_law_1230 : decode cL_law 1230 = .ok (.aload_n 0, 1) := by decide +kernel
theorem dL_law_1231 : decode cL_law 1231 = .ok (.iload_n 3, 1) := by decide +kernel
theorem dL_law_1232 : decode cL_law 1232 = .ok (.iconst 1, 1) := by decide +kernel
theorem dL_law_1233 : decode cL_law 1233 = .ok (.iadd, 1) := by decide +kernel
theorem dL_law_1234 : decode cL_law 1234 = .ok (.iaload, 1) := by decide +kernel
theorem dL_law_1235 : decode cL_law 1235 = .ok (.aload_n 0, 1) := by decide +kernel
theorem dL_law_1236 : decode cL_law 1236 = .ok (.iload_n 3, 1) := by decide +kernel
theorem dL_law_1237 : decode cL_law 1237 = .ok (.iconst 2, 1) := by decide +kernel
theorem dL_law_1238 : decode cL_law 1238 = .ok (.iadd, 1) := by decide +kernel
theorem dL_law_1239 : decode cL_law 1239 = .ok (.iaload, 1) := by decide +kernel
theorem dL_law_1240 : decode cL_law 1240 = .ok (.invokevirtual 140, 3) := by decide +kernel
theorem dL_law_1243 : decode cL_law 1243 = .ok (.if_icmp .eq 658, 3) := by decide +kernel
theorem dL_law_1246 : decode cL_law 1246 = .ok (.iconst 0, 1) := by decide +kernel
theorem dL_law_1247 : decode cL_law 1247 = .ok (.ireturn, 1) := by decide +kernel
theorem dL_law_1248 : decode cL_law 1248 = .ok (.aload_n 1, 1) := by decide +kernel
theorem dL_law_1249 : decode cL_law 1249 = .ok (.aload_n 0, 1) := by decide +kernel
theorem dL_law_1250 : decode cL_law 1250 = .ok (.iload_n 3, 1) := by decide +kernel
theorem dL_law_1251 : decode cL_law 1251 = .ok (.iconst 1, 1) := by decide +kernel
theorem dL_law_1252 : decode cL_law 1252 = .ok (.iadd, 1) := by decide +kernel
theorem dL_law_1253 : decode cL_law 1253 = .ok (.iaload, 1) := by decide +kernel
theorem dL_law_1254 : decode cL_law 1254 = .ok (.aload_n 0, 1) := by decide +kernel
theorem dL_law_1255 : decode cL_law 1255 = .ok (.iload_n 3, 1) := by decide +kernel
theorem dL_law_1256 : decode cL_law 1256 = .ok (.iconst 2, 1) := by decide +kernel
theorem dL_law_1257 : decode cL_law 1257 = .ok (.iadd, 1) := by decide +kernel
theorem dL_law_1258 : decode cL_law 1258 = .ok (.iaload, 1) := by decide +kernel
theorem dL_law_1259 : decode cL_law 1259 = .ok (.invokevirtual 141, 3) := by decide +kernel
theorem dL_law_1262 : decode cL_law 1262 = .ok (.aload_n 2, 1) := by decide +kernel
theorem dL_law_1263 : decode cL_law 1263 = .ok (.aload_n 0, 1) := by decide +kernel
theorem dL_law_1264 : decode cL_law 1264 = .ok (.iload_n 3, 1) := by decide +kernel
theorem dL_law_1265 : decode cL_law 1265 = .ok (.iconst 1, 1) := by decide +kernel
theorem dL_law_1266 : decode cL_law 1266 = .ok (.iadd, 1) := by decide +kernel
theorem dL_law_1267 : decode cL_law 1267 = .ok (.iaload, 1) := by decide +kernel
theorem dL_law_1268 : decode cL_law 1268 = .ok (.aload_n 0, 1) := by decide +kernel
theorem dL_law_1269 : decode cL_law 1269 = .ok (.iload_n 3, 1) := by decide +kernel
theorem dL_law_1270 : decode cL_law 1270 = .ok (.iconst 2, 1) := by decide +kernel
theorem dL_law_1271 : decode cL_law 1271 = .ok (.iadd, 1) := by decide +kernel
theorem dL_law_1272 : decode cL_law 1272 = .ok (.iaload, 1) := by decide +kernel
theorem dL_law_1273 : decode cL_law 1273 = .ok (.invokevirtual 144, 3) := by decide +kernel
theorem dL_law_1276 : decode cL_law 1276 = .ok (.if_icmp .eq 625, 3) := by decide +kernel
theorem dL_law_1279 : decode cL_law 1279 = .ok (.iconst 0, 1) := by decide +kernel
theorem dL_law_1280 : decode cL_law 1280 = .ok (.ireturn, 1) := by decide +kernel
theorem dL_law_1281 : decode cL_law 1281 = .ok (.aload_n 1, 1) := by decide +kernel
theorem dL_law_1282 : decode cL_law 1282 = .ok (.aload_n 0, 1) := by decide +kernel
theorem dL_law_1283 : decode cL_law 1283 = .ok (.iload_n 3, 1) := by decide +kernel
theorem dL_law_1284 : decode cL_law 1284 = .ok (.iconst 1, 1) := by decide +kernel
theorem dL_law_1285 : decode cL_law 1285 = .ok (.iadd, 1) := by decide +kernel
theorem dL_law_1286 : decode cL_law 1286 = .ok (.iaload, 1) := by decide +kernel
theorem dL_law_1287 : decode cL_law 1287 = .ok (.aload_n 0, 1) := by decide +kernel
theorem dL_law_1288 : decode cL_law 1288 = .ok (.iload_n 3, 1) := by decide +kernel
theorem dL_law_1289 : decode cL_law 1289 = .ok (.iconst 2, 1) := by decide +kernel
theorem dL_law_1290 : decode cL_law 1290 = .ok (.iadd, 1) := by decide +kernel
theorem dL_law_1291 : decode cL_law 1291 = .ok (.iaload, 1) := by decide +kernel
theorem dL_law_1292 : decode cL_law 1292 = .ok (.aload_n 0, 1) := by decide +kernel
theorem dL_law_1293 : decode cL_law 1293 = .ok (.iload_n 3, 1) := by decide +kernel
theorem dL_law_1294 : decode cL_law 1294 = .ok (.iconst 3, 1) := by decide +kernel
theorem dL_law_1295 : decode cL_law 1295 = .ok (.iadd, 1) := by decide +kernel
theorem dL_law_1296 : decode cL_law 1296 = .ok (.iaload, 1) := by decide +kernel
theorem dL_law_1297 : decode cL_law 1297 = .ok (.aload_n 0, 1) := by decide +kernel
theorem dL_law_1298 : decode cL_law 1298 = .ok (.iload_n 3, 1) := by decide +kernel
theorem dL_law_1299 : decode cL_law 1299 = .ok (.iconst 4, 1) := by decide +kernel
theorem dL_law_1300 : decode cL_law 1300 = .ok (.iadd, 1) := by decide +kernel
theorem dL_law_1301 : decode cL_law 1301 = .ok (.iaload, 1) := by decide +kernel
theorem dL_law_1302 : decode cL_law 1302 = .ok (.invokevirtual 145, 3) := by decide +kernel
theorem dL_law_1305 : decode cL_law 1305 = .ok (.aload_n 2, 1) := by decide +kernel
theorem dL_law_1306 : decode cL_law 1306 = .ok (.aload_n 0, 1) := by decide +kernel
theorem dL_law_1307 : decode cL_law 1307 = .ok (.iload_n 3, 1) := by decide +kernel
theorem dL_law_1308 : decode cL_law 1308 = .ok (.iconst 1, 1) := by decide +kernel
theorem dL_law_1309 : decode cL_law 1309 = .ok (.iadd, 1) := by decide +kernel
theorem dL_law_1310 : decode cL_law 1310 = .ok (.iaload, 1) := by decide +kernel
theorem dL_law_1311 : decode cL_law 1311 = .ok (.aload_n 0, 1) := by decide +kernel
theorem dL_law_1312 : decode cL_law 1312 = .ok (.iload_n 3, 1) := by decide +kernel
theorem dL_law_1313 : decode cL_law 1313 = .ok (.iconst 2, 1) := by decide +kernel
theorem dL_law_1314 : decode cL_law 1314 = .ok (.iadd, 1) := by decide +kernel
theorem dL_law_1315 : decode cL_law 1315 = .ok (.iaload, 1) := by decide +kernel
theorem dL_law_1316 : decode cL_law 1316 = .ok (.aload_n 0, 1) := by decide +kernel
theorem dL_law_1317 : decode cL_law 1317 = .ok (.iload_n 3, 1) := by decide +kernel
theorem dL_law_1318 : decode cL_law 1318 = .ok (.iconst 3, 1) := by decide +kernel
theorem dL_law_1319 : decode cL_law 1319 = .ok (.iadd, 1) := by decide +kernel
theorem dL_law_1320 : decode cL_law 1320 = .ok (.iaload, 1) := by decide +kernel
theorem dL_law_1321 : decode cL_law 1321 = .ok (.aload_n 0, 1) := by decide +kernel
theorem dL_law_1322 : decode cL_law 1322 = .ok (.iload_n 3, 1) := by decide +kernel
theorem dL_law_1323 : decode cL_law 1323 = .ok (.iconst 4, 1) := by decide +kernel
theorem dL_law_1324 : decode cL_law 1324 = .ok (.iadd, 1) := by decide +kernel
theorem dL_law_1325 : decode cL_law 1325 = .ok (.iaload, 1) := by decide +kernel
theorem dL_law_1326 : decode cL_law 1326 = .ok (.invokevirtual 149, 3) := by decide +kernel
theorem dL_law_1329 : decode cL_law 1329 = .ok (.if_icmp .eq 572, 3) := by decide +kernel
theorem dL_law_1332 : decode cL_law 1332 = .ok (.iconst 0, 1) := by decide +kernel
theorem dL_law_1333 : decode cL_law 1333 = .ok (.ireturn, 1) := by decide +kernel
theorem dL_law_1334 : decode cL_law 1334 = .ok (.aload_n 1, 1) := by decide +kernel
theorem dL_law_1335 : decode cL_law 1335 = .ok (.aload_n 0, 1) := by decide +kernel
theorem dL_law_1336 : decode cL_law 1336 = .ok (.iload_n 3, 1) := by decide +kernel
theorem dL_law_1337 : decode cL_law 1337 = .ok (.iconst 1, 1) := by decide +kernel
theorem dL_law_1338 : decode cL_law 1338 = .ok (.iadd, 1) := by decide +kernel
theorem dL_law_1339 : decode cL_law 1339 = .ok (.iaload, 1) := by decide +kernel
theorem dL_law_1340 : decode cL_law 1340 = .ok (.aload_n 0, 1) := by decide +kernel
theorem dL_law_1341 : decode cL_law 1341 = .ok (.iload_n 3, 1) := by decide +kernel
theorem dL_law_1342 : decode cL_law 1342 = .ok (.iconst 2, 1) := by decide +kernel
theorem dL_law_1343 : decode cL_law 1343 = .ok (.iadd, 1) := by decide +kernel
theorem dL_law_1344 : decode cL_law 1344 = .ok (.iaload, 1) := by decide +kernel
theorem dL_law_1345 : decode cL_law 1345 = .ok (.aload_n 0, 1) := by decide +kernel
theorem dL_law_1346 : decode cL_law 1346 = .ok (.iload_n 3, 1) := by decide +kernel
theorem dL_law_1347 : decode cL_law 1347 = .ok (.iconst 3, 1) := by decide +kernel
theorem dL_law_1348 : decode cL_law 1348 = .ok (.iadd, 1) := by decide +kernel
theorem dL_law_1349 : decode cL_law 1349 = .ok (.iaload, 1) := by decide +kernel
theorem dL_law_1350 : decode cL_law 1350 = .ok (.aload_n 0, 1) := by decide +kernel
theorem dL_law_1351 : decode cL_law 1351 = .ok (.iload_n 3, 1) := by decide +kernel
theorem dL_law_1352 : decode cL_law 1352 = .ok (.iconst 4, 1) := by decide +kernel
theorem dL_law_1353 : decode cL_law 1353 = .ok (.iadd, 1) := by decide +kernel
theorem dL_law_1354 : decode cL_law 1354 = .ok (.iaload, 1) := by decide +kernel
theorem dL_law_1355 : decode cL_law 1355 = .ok (.invokevirtual 150, 3) := by decide +kernel
theorem dL_law_1358 : decode cL_law 1358 = .ok (.aload_n 2, 1) := by decide +kernel
theorem dL_law_1359 : decode cL_law 1359 = .ok (.aload_n 0, 1) := by decide +kernel
theorem dL_law_1360 : decode cL_law 1360 = .ok (.iload_n 3, 1) := by decide +kernel
theorem dL_law_1361 : decode cL_law 1361 = .ok (.iconst 1, 1) := by decide +kernel
theorem dL_law_1362 : decode cL_law 1362 = .ok (.iadd, 1) := by decide +kernel
theorem dL_law_1363 : decode cL_law 1363 = .ok (.iaload, 1) := by decide +kernel
theorem dL_law_1364 : decode cL_law 1364 = .ok (.aload_n 0, 1) := by decide +kernel
theorem dL_law_1365 : decode cL_law 1365 = .ok (.iload_n 3, 1) := by decide +kernel
theorem dL_law_1366 : decode cL_law 1366 = .ok (.iconst 2, 1) := by decide +kernel
theorem dL_law_1367 : decode cL_law 1367 = .ok (.iadd, 1) := by decide +kernel
theorem dL_law_1368 : decode cL_law 1368 = .ok (.iaload, 1) := by decide +kernel
theorem dL_law_1369 : decode cL_law 1369 = .ok (.aload_n 0, 1) := by decide +kernel
theorem dL_law_1370 : decode cL_law 1370 = .ok (.iload_n 3, 1) := by decide +kernel
theorem dL_law_1371 : decode cL_law 1371 = .ok (.iconst 3, 1) := by decide +kernel
theorem dL_law_1372 : decode cL_law 1372 = .ok (.iadd, 1) := by decide +kernel
theorem dL_law_1373 : decode cL_law 1373 = .ok (.iaload, 1) := by decide +kernel
theorem dL_law_1374 : decode cL_law 1374 = .ok (.aload_n 0, 1) := by decide +kernel
theorem dL_law_1375 : decode cL_law 1375 = .ok (.iload_n 3, 1) := by decide +kernel
theorem dL_law_1376 : decode cL_law 1376 = .ok (.iconst 4, 1) := by decide +kernel
theorem dL_law_1377 : decode cL_law 1377 = .ok (.iadd, 1) := by decide +kernel
theorem dL_law_1378 : decode cL_law 1378 = .ok (.iaload, 1) := by decide +kernel
theorem dL_law_1379 : decode cL_law 1379 = .ok (.invokevirtual 153, 3) := by decide +kernel
theorem dL_law_1382 : decode cL_law 1382 = .ok (.if_icmp .eq 519, 3) := by decide +kernel
theorem dL_law_1385 : decode cL_law 1385 = .ok (.iconst 0, 1) := by decide +kernel
theorem dL_law_1386 : decode cL_law 1386 = .ok (.ireturn, 1) := by decide +kernel
theorem dL_law_1387 : decode cL_law 1387 = .ok (.aload_n 1, 1) := by decide +kernel
theorem dL_law_1388 : decode cL_law 1388 = .ok (.aload_n 0, 1) := by decide +kernel
theorem dL_law_1389 : decode cL_law 1389 = .ok (.iload_n 3, 1) := by decide +kernel
theorem dL_law_1390 : decode cL_law 1390 = .ok (.iconst 1, 1) := by decide +kernel
theorem dL_law_1391 : decode cL_law 1391 = .ok (.iadd, 1) := by decide +kernel
theorem dL_law_1392 : decode cL_law 1392 = .ok (.iaload, 1) := by decide +kernel
theorem dL_law_1393 : decode cL_law 1393 = .ok (.aload_n 0, 1) := by decide +kernel
theorem dL_law_1394 : decode cL_law 1394 = .ok (.iload_n 3, 1) := by decide +kernel
theorem dL_law_1395 : decode cL_law 1395 = .ok (.iconst 2, 1) := by decide +kernel
theorem dL_law_1396 : decode cL_law 1396 = .ok (.iadd, 1) := by decide +kernel
theorem dL_law_1397 : decode cL_law 1397 = .ok (.iaload, 1) := by decide +kernel
theorem dL_law_1398 : decode cL_law 1398 = .ok (.invokevirtual 154, 3) := by decide +kernel
theorem dL_law_1401 : decode cL_law 1401 = .ok (.aload_n 2, 1) := by decide +kernel
theorem dL_law_1402 : decode cL_law 1402 = .ok (.aload_n 0, 1) := by decide +kernel
theorem dL_law_1403 : decode cL_law 1403 = .ok (.iload_n 3, 1) := by decide +kernel
theorem dL_law_1404 : decode cL_law 1404 = .ok (.iconst 1, 1) := by decide +kernel
theorem dL_law_1405 : decode cL_law 1405 = .ok (.iadd, 1) := by decide +kernel
theorem dL_law_1406 : decode cL_law 1406 = .ok (.iaload, 1) := by decide +kernel
theorem dL_law_1407 : decode cL_law 1407 = .ok (.aload_n 0, 1) := by decide +kernel
theorem dL_law_1408 : decode cL_law 1408 = .ok (.iload_n 3, 1) := by decide +kernel
theorem dL_law_1409 : decode cL_law 1409 = .ok (.iconst 2, 1) := by decide +kernel
theorem dL_law_1410 : decode cL_law 1410 = .ok (.iadd, 1) := by decide +kernel
theorem dL_law_1411 : decode cL_law 1411 = .ok (.iaload, 1) := by decide +kernel
theorem dL_law_1412 : decode cL_law 1412 = .ok (.invokevirtual 157, 3) := by decide +kernel
theorem dL_law_1415 : decode cL_law 1415 = .ok (.if_icmp .eq 486, 3) := by decide +kernel
theorem dL_law_1418 : decode cL_law 1418 = .ok (.iconst 0, 1) := by decide +kernel
theorem dL_law_1419 : decode cL_law 1419 = .ok (.ireturn, 1) := by decide +kernel
theorem dL_law_1420 : decode cL_law 1420 = .ok (.aload_n 1, 1) := by decide +kernel
theorem dL_law_1421 : decode cL_law 1421 = .ok (.aload_n 0, 1) := by decide +kernel
theorem dL_law_1422 : decode cL_law 1422 = .ok (.iload_n 3, 1) := by decide +kernel
theorem dL_law_1423 : decode cL_law 1423 = .ok (.iconst 1, 1) := by decide +kernel
theorem dL_law_1424 : decode cL_law 1424 = .ok (.iadd, 1) := by decide +kernel
theorem dL_law_1425 : decode cL_law 1425 = .ok (.iaload, 1) := by decide +kernel
theorem dL_law_1426 : decode cL_law 1426 = .ok (.aload_n 0, 1) := by decide +kernel
theorem dL_law_1427 : decode cL_law 1427 = .ok (.iload_n 3, 1) := by decide +kernel
theorem dL_law_1428 : decode cL_law 1428 = .ok (.iconst 2, 1) := by decide +kernel
theorem dL_law_1429 : decode cL_law 1429 = .ok (.iadd, 1) := by decide +kernel
theorem dL_law_1430 : decode cL_law 1430 = .ok (.iaload, 1) := by decide +kernel
theorem dL_law_1431 : decode cL_law 1431 = .ok (.invokevirtual 158, 3) := by decide +kernel
theorem dL_law_1434 : decode cL_law 1434 = .ok (.aload_n 2, 1) := by decide +kernel
theorem dL_law_1435 : decode cL_law 1435 = .ok (.aload_n 0, 1) := by decide +kernel
theorem dL_law_1436 : decode cL_law 1436 = .ok (.iload_n 3, 1) := by decide +kernel
theorem dL_law_1437 : decode cL_law 1437 = .ok (.iconst 1, 1) := by decide +kernel
theorem dL_law_1438 : decode cL_law 1438 = .ok (.iadd, 1) := by decide +kernel
theorem dL_law_1439 : decode cL_law 1439 = .ok (.iaload, 1) := by decide +kernel
theorem dL_law_1440 : decode cL_law 1440 = .ok (.aload_n 0, 1) := by decide +kernel
theorem dL_law_1441 : decode cL_law 1441 = .ok (.iload_n 3, 1) := by decide +kernel
theorem dL_law_1442 : decode cL_law 1442 = .ok (.iconst 2, 1) := by decide +kernel
theorem dL_law_1443 : decode cL_law 1443 = .ok (.iadd, 1) := by decide +kernel
theorem dL_law_1444 : decode cL_law 1444 = .ok (.iaload, 1) := by decide +kernel
theorem dL_law_1445 : decode cL_law 1445 = .ok (.invokevirtual 161, 3) := by decide +kernel
theorem dL_law_1448 : decode cL_law 1448 = .ok (.if_icmp .eq 453, 3) := by decide +kernel
theorem dL_law_1451 : decode cL_law 1451 = .ok (.iconst 0, 1) := by decide +kernel
theorem dL_law_1452 : decode cL_law 1452 = .ok (.ireturn, 1) := by decide +kernel
theorem dL_law_1453 : decode cL_law 1453 = .ok (.aload_n 1, 1) := by decide +kernel
theorem dL_law_1454 : decode cL_law 1454 = .ok (.aload_n 0, 1) := by decide +kernel
theorem dL_law_1455 : decode cL_law 1455 = .ok (.iload_n 3, 1) := by decide +kernel
theorem dL_law_1456 : decode cL_law 1456 = .ok (.iconst 1, 1) := by decide +kernel
theorem dL_law_1457 : decode cL_law 1457 = .ok (.iadd, 1) := by decide +kernel
theorem dL_law_1458 : decode cL_law 1458 = .ok (.iaload, 1) := by decide +kernel
theorem dL_law_1459 : decode cL_law 1459 = .ok (.aload_n 0, 1) := by decide +kernel
theorem dL_law_1460 : decode cL_law 1460 = .ok (.iload_n 3, 1) := by decide +kernel
theorem dL_law_1461 : decode cL_law 1461 = .ok (.iconst 2, 1) := by decide +kernel
theorem dL_law_1462 : decode cL_law 1462 = .ok (.iadd, 1) := by decide +kernel
theorem dL_law_1463 : decode cL_law 1463 = .ok (.iaload, 1) := by decide +kernel
theorem dL_law_1464 : decode cL_law 1464 = .ok (.invokevirtual 162, 3) := by decide +kernel
theorem dL_law_1467 : decode cL_law 1467 = .ok (.aload_n 2, 1) := by decide +kernel
theorem dL_law_1468 : decode cL_law 1468 = .ok (.aload_n 0, 1) := by decide +kernel
theorem dL_law_1469 : decode cL_law 1469 = .ok (.iload_n 3, 1) := by decide +kernel
theorem dL_law_1470 : decode cL_law 1470 = .ok (.iconst 1, 1) := by decide +kernel
theorem dL_law_1471 : decode cL_law 1471 = .ok (.iadd, 1) := by decide +kernel
theorem dL_law_1472 : decode cL_law 1472 = .ok (.iaload, 1) := by decide +kernel
theorem dL_law_1473 : decode cL_law 1473 = .ok (.aload_n 0, 1) := by decide +kernel
theorem dL_law_1474 : decode cL_law 1474 = .ok (.iload_n 3, 1) := by decide +kernel
theorem dL_law_1475 : decode cL_law 1475 = .ok (.iconst 2, 1) := by decide +kernel
theorem dL_law_1476 : decode cL_law 1476 = .ok (.iadd, 1) := by decide +kernel
theorem dL_law_1477 : decode cL_law 1477 = .ok (.iaload, 1) := by decide +kernel
theorem dL_law_1478 : decode cL_law 1478 = .ok (.invokevirtual 165, 3) := by decide +kernel
theorem dL_law_1481 : decode cL_law 1481 = .ok (.if_icmp .eq 420, 3) := by decide +kernel
theorem dL_law_1484 : decode cL_law 1484 = .ok (.iconst 0, 1) := by decide +kernel
theorem dL_law_1485 : decode cL_law 1485 = .ok (.ireturn, 1) := by decide +kernel
theorem dL_law_1486 : decode cL_law 1486 = .ok (.aload_n 1, 1) := by decide +kernel
theorem dL_law_1487 : decode cL_law 1487 = .ok (.aload_n 0, 1) := by decide +kernel
theorem dL_law_1488 : decode cL_law 1488 = .ok (.iload_n 3, 1) := by decide +kernel
theorem dL_law_1489 : decode cL_law 1489 = .ok (.iconst 1, 1) := by decide +kernel
theorem dL_law_1490 : decode cL_law 1490 = .ok (.iadd, 1) := by decide +kernel
theorem dL_law_1491 : decode cL_law 1491 = .ok (.iaload, 1) := by decide +kernel
theorem dL_law_1492 : decode cL_law 1492 = .ok (.aload_n 0, 1) := by decide +kernel
theorem dL_law_1493 : decode cL_law 1493 = .ok (.iload_n 3, 1) := by decide +kernel
theorem dL_law_1494 : decode cL_law 1494 = .ok (.iconst 2, 1) := by decide +kernel
theorem dL_law_1495 : decode cL_law 1495 = .ok (.iadd, 1) := by decide +kernel
theorem dL_law_1496 : decode cL_law 1496 = .ok (.iaload, 1) := by decide +kernel
theorem dL_law_1497 : decode cL_law 1497 = .ok (.invokevirtual 166, 3) := by decide +kernel
theorem dL_law_1500 : decode cL_law 1500 = .ok (.aload_n 2, 1) := by decide +kernel
theorem dL_law_1501 : decode cL_law 1501 = .ok (.aload_n 0, 1) := by decide +kernel
theorem dL_law_1502 : decode cL_law 1502 = .ok (.iload_n 3, 1) := by decide +kernel
theorem dL_law_1503 : decode cL_law 1503 = .ok (.iconst 1, 1) := by decide +kernel
theorem dL_law_1504 : decode cL_law 1504 = .ok (.iadd, 1) := by decide +kernel
theorem dL_law_1505 : decode cL_law 1505 = .ok (.iaload, 1) := by decide +kernel
theorem dL_law_1506 : decode cL_law 1506 = .ok (.aload_n 0, 1) := by decide +kernel
theorem dL_law_1507 : decode cL_law 1507 = .ok (.iload_n 3, 1) := by decide +kernel
theorem dL_law_1508 : decode cL_law 1508 = .ok (.iconst 2, 1) := by decide +kernel
theorem dL_law_1509 : decode cL_law 1509 = .ok (.iadd, 1) := by decide +kernel
theorem dL_law_1510 : decode cL_law 1510 = .ok (.iaload, 1) := by decide +kernel
theorem dL_law_1511 : decode cL_law 1511 = .ok (.invokevirtual 169, 3) := by decide +kernel
theorem dL_law_1514 : decode cL_law 1514 = .ok (.if_icmp .eq 387, 3) := by decide +kernel
theorem dL_law_1517 : decode cL_law 1517 = .ok (.iconst 0, 1) := by decide +kernel
theorem dL_law_1518 : decode cL_law 1518 = .ok (.ireturn, 1) := by decide +kernel
theorem dL_law_1519 : decode cL_law 1519 = .ok (.aload_n 1, 1) := by decide +kernel
theorem dL_law_1520 : decode cL_law 1520 = .ok (.aload_n 0, 1) := by decide +kernel
theorem dL_law_1521 : decode cL_law 1521 = .ok (.iload_n 3, 1) := by decide +kernel
theorem dL_law_1522 : decode cL_law 1522 = .ok (.iconst 1, 1) := by decide +kernel
theorem dL_law_1523 : decode cL_law 1523 = .ok (.iadd, 1) := by decide +kernel
theorem dL_law_1524 : decode cL_law 1524 = .ok (.iaload, 1) := by decide +kernel
theorem dL_law_1525 : decode cL_law 1525 = .ok (.aload_n 0, 1) := by decide +kernel
theorem dL_law_1526 : decode cL_law 1526 = .ok (.iload_n 3, 1) := by decide +kernel
theorem dL_law_1527 : decode cL_law 1527 = .ok (.iconst 2, 1) := by decide +kernel
theorem dL_law_1528 : decode cL_law 1528 = .ok (.iadd, 1) := by decide +kernel
theorem dL_law_1529 : decode cL_law 1529 = .ok (.iaload, 1) := by decide +kernel
theorem dL_law_1530 : decode cL_law 1530 = .ok (.invokevirtual 170, 3) := by decide +kernel
theorem dL_law_1533 : decode cL_law 1533 = .ok (.aload_n 2, 1) := by decide +kernel
theorem dL_law_1534 : decode cL_law 1534 = .ok (.aload_n 0, 1) := by decide +kernel
theorem dL_law_1535 : decode cL_law 1535 = .ok (.iload_n 3, 1) := by decide +kernel
theorem dL_law_1536 : decode cL_law 1536 = .ok (.iconst 1, 1) := by decide +kernel
theorem dL_law_1537 : decode cL_law 1537 = .ok (.iadd, 1) := by decide +kernel
theorem dL_law_1538 : decode cL_law 1538 = .ok (.iaload, 1) := by decide +kernel
theorem dL_law_1539 : decode cL_law 1539 = .ok (.aload_n 0, 1) := by decide +kernel
theorem dL_law_1540 : decode cL_law 1540 = .ok (.iload_n 3, 1) := by decide +kernel
theorem dL_law_1541 : decode cL_law 1541 = .ok (.iconst 2, 1) := by decide +kernel
theorem dL_law_1542 : decode cL_law 1542 = .ok (.iadd, 1) := by decide +kernel
theorem dL_law_1543 : decode cL_law 1543 = .ok (.iaload, 1) := by decide +kernel
theorem dL_law_1544 : decode cL_law 1544 = .ok (.invokevirtual 173, 3) := by decide +kernel
theorem dL_law_1547 : decode cL_law 1547 = .ok (.if_icmp .eq 354, 3) := by decide +kernel
theorem dL_law_1550 : decode cL_law 1550 = .ok (.iconst 0, 1) := by decide +kernel
theorem dL_law_1551 : decode cL_law 1551 = .ok (.ireturn, 1) := by decide +kernel
theorem dL_law_1552 : decode cL_law 1552 = .ok (.aload_n 1, 1) := by decide +kernel
theorem dL_law_1553 : decode cL_law 1553 = .ok (.aload_n 0, 1) := by decide +kernel
theorem dL_law_1554 : decode cL_law 1554 = .ok (.iload_n 3, 1) := by decide +kernel
theorem dL_law_1555 : decode cL_law 1555 = .ok (.iconst 1, 1) := by decide +kernel
theorem dL_law_1556 : decode cL_law 1556 = .ok (.iadd, 1) := by decide +kernel
theorem dL_law_1557 : decode cL_law 1557 = .ok (.iaload, 1) := by decide +kernel
theorem dL_law_1558 : decode cL_law 1558 = .ok (.aload_n 0, 1) := by decide +kernel
theorem dL_law_1559 : decode cL_law 1559 = .ok (.iload_n 3, 1) := by decide +kernel
theorem dL_law_1560 : decode cL_law 1560 = .ok (.iconst 2, 1) := by decide +kernel
theorem dL_law_1561 : decode cL_law 1561 = .ok (.iadd, 1) := by decide +kernel
theorem dL_law_1562 : decode cL_law 1562 = .ok (.iaload, 1) := by decide +kernel
theorem dL_law_1563 : decode cL_law 1563 = .ok (.invokevirtual 174, 3) := by decide +kernel
theorem dL_law_1566 : decode cL_law 1566 = .ok (.aload_n 2, 1) := by decide +kernel
theorem dL_law_1567 : decode cL_law 1567 = .ok (.aload_n 0, 1) := by decide +kernel
theorem dL_law_1568 : decode cL_law 1568 = .ok (.iload_n 3, 1) := by decide +kernel
theorem dL_law_1569 : decode cL_law 1569 = .ok (.iconst 1, 1) := by decide +kernel
theorem dL_law_1570 : decode cL_law 1570 = .ok (.iadd, 1) := by decide +kernel
theorem dL_law_1571 : decode cL_law 1571 = .ok (.iaload, 1) := by decide +kernel
theorem dL_law_1572 : decode cL_law 1572 = .ok (.aload_n 0, 1) := by decide +kernel
theorem dL_law_1573 : decode cL_law 1573 = .ok (.iload_n 3, 1) := by decide +kernel
theorem dL_law_1574 : decode cL_law 1574 = .ok (.iconst 2, 1) := by decide +kernel
theorem dL_law_1575 : decode cL_law 1575 = .ok (.iadd, 1) := by decide +kernel
theorem dL_law_1576 : decode cL_law 1576 = .ok (.iaload, 1) := by decide +kernel
theorem dL_law_1577 : decode cL_law 1577 = .ok (.invokevirtual 177, 3) := by decide +kernel
theorem dL_law_1580 : decode cL_law 1580 = .ok (.if_icmp .eq 321, 3) := by decide +kernel
theorem dL_law_1583 : decode cL_law 1583 = .ok (.iconst 0, 1) := by decide +kernel
theorem dL_law_1584 : decode cL_law 1584 = .ok (.ireturn, 1) := by decide +kernel
theorem dL_law_1585 : decode cL_law 1585 = .ok (.aload_n 1, 1) := by decide +kernel
theorem dL_law_1586 : decode cL_law 1586 = .ok (.aload_n 0, 1) := by decide +kernel
theorem dL_law_1587 : decode cL_law 1587 = .ok (.iload_n 3, 1) := by decide +kernel
theorem dL_law_1588 : decode cL_law 1588 = .ok (.iconst 1, 1) := by decide +kernel
theorem dL_law_1589 : decode cL_law 1589 = .ok (.iadd, 1) := by decide +kernel
theorem dL_law_1590 : decode cL_law 1590 = .ok (.iaload, 1) := by decide +kernel
theorem dL_law_1591 : decode cL_law 1591 = .ok (.invokevirtual 178, 3) := by decide +kernel
theorem dL_law_1594 : decode cL_law 1594 = .ok (.aload_n 2, 1) := by decide +kernel
theorem dL_law_1595 : decode cL_law 1595 = .ok (.aload_n 0, 1) := by decide +kernel
theorem dL_law_1596 : decode cL_law 1596 = .ok (.iload_n 3, 1) := by decide +kernel
theorem dL_law_1597 : decode cL_law 1597 = .ok (.iconst 1, 1) := by decide +kernel
theorem dL_law_1598 : decode cL_law 1598 = .ok (.iadd, 1) := by decide +kernel
theorem dL_law_1599 : decode cL_law 1599 = .ok (.iaload, 1) := by decide +kernel
theorem dL_law_1600 : decode cL_law 1600 = .ok (.invokevirtual 181, 3) := by decide +kernel
theorem dL_law_1603 : decode cL_law 1603 = .ok (.if_icmp .eq 298, 3) := by decide +kernel
theorem dL_law_1606 : decode cL_law 1606 = .ok (.iconst 0, 1) := by decide +kernel
theorem dL_law_1607 : decode cL_law 1607 = .ok (.ireturn, 1) := by decide +kernel
theorem dL_law_1608 : decode cL_law 1608 = .ok (.aload_n 1, 1) := by decide +kernel
theorem dL_law_1609 : decode cL_law 1609 = .ok (.aload_n 0, 1) := by decide +kernel
theorem dL_law_1610 : decode cL_law 1610 = .ok (.iload_n 3, 1) := by decide +kernel
theorem dL_law_1611 : decode cL_law 1611 = .ok (.iconst 1, 1) := by decide +kernel
theorem dL_law_1612 : decode cL_law 1612 = .ok (.iadd, 1) := by decide +kernel
theorem dL_law_1613 : decode cL_law 1613 = .ok (.iaload, 1) := by decide +kernel
theorem dL_law_1614 : decode cL_law 1614 = .ok (.invokevirtual 182, 3) := by decide +kernel
theorem dL_law_1617 : decode cL_law 1617 = .ok (.aload_n 2, 1) := by decide +kernel
theorem dL_law_1618 : decode cL_law 1618 = .ok (.aload_n 0, 1) := by decide +kernel
theorem dL_law_1619 : decode cL_law 1619 = .ok (.iload_n 3, 1) := by decide +kernel
theorem dL_law_1620 : decode cL_law 1620 = .ok (.iconst 1, 1) := by decide +kernel
theorem dL_law_1621 : decode cL_law 1621 = .ok (.iadd, 1) := by decide +kernel
theorem dL_law_1622 : decode cL_law 1622 = .ok (.iaload, 1) := by decide +kernel
theorem dL_law_1623 : decode cL_law 1623 = .ok (.invokevirtual 185, 3) := by decide +kernel
theorem dL_law_1626 : decode cL_law 1626 = .ok (.if_icmp .eq 275, 3) := by decide +kernel
theorem dL_law_1629 : decode cL_law 1629 = .ok (.iconst 0, 1) := by decide +kernel
theorem dL_law_1630 : decode cL_law 1630 = .ok (.ireturn, 1) := by decide +kernel
theorem dL_law_1631 : decode cL_law 1631 = .ok (.aload_n 1, 1) := by decide +kernel
theorem dL_law_1632 : decode cL_law 1632 = .ok (.aload_n 0, 1) := by decide +kernel
theorem dL_law_1633 : decode cL_law 1633 = .ok (.iload_n 3, 1) := by decide +kernel
theorem dL_law_1634 : decode cL_law 1634 = .ok (.iconst 1, 1) := by decide +kernel
theorem dL_law_1635 : decode cL_law 1635 = .ok (.iadd, 1) := by decide +kernel
theorem dL_law_1636 : decode cL_law 1636 = .ok (.iaload, 1) := by decide +kernel
theorem dL_law_1637 : decode cL_law 1637 = .ok (.invokevirtual 186, 3) := by decide +kernel
theorem dL_law_1640 : decode cL_law 1640 = .ok (.aload_n 2, 1) := by decide +kernel
theorem dL_law_1641 : decode cL_law 1641 = .ok (.aload_n 0, 1) := by decide +kernel
theorem dL_law_1642 : decode cL_law 1642 = .ok (.iload_n 3, 1) := by decide +kernel
theorem dL_law_1643 : decode cL_law 1643 = .ok (.iconst 1, 1) := by decide +kernel
theorem dL_law_1644 : decode cL_law 1644 = .ok (.iadd, 1) := by decide +kernel
theorem dL_law_1645 : decode cL_law 1645 = .ok (.iaload, 1) := by decide +kernel
theorem dL_law_1646 : decode cL_law 1646 = .ok (.invokevirtual 189, 3) := by decide +kernel
theorem dL_law_1649 : decode cL_law 1649 = .ok (.if_icmp .eq 252, 3) := by decide +kernel
theorem dL_law_1652 : decode cL_law 1652 = .ok (.iconst 0, 1) := by decide +kernel
theorem dL_law_1653 : decode cL_law 1653 = .ok (.ireturn, 1) := by decide +kernel
theorem dL_law_1654 : decode cL_law 1654 = .ok (.aload_n 1, 1) := by decide +kernel
theorem dL_law_1655 : decode cL_law 1655 = .ok (.aload_n 0, 1) := by decide +kernel
theorem dL_law_1656 : decode cL_law 1656 = .ok (.iload_n 3, 1) := by decide +kernel
theorem dL_law_1657 : decode cL_law 1657 = .ok (.iconst 1, 1) := by decide +kernel
theorem dL_law_1658 : decode cL_law 1658 = .ok (.iadd, 1) := by decide +kernel
theorem dL_law_1659 : decode cL_law 1659 = .ok (.iaload, 1) := by decide +kernel
theorem dL_law_1660 : decode cL_law 1660 = .ok (.aload_n 0, 1) := by decide +kernel
theorem dL_law_1661 : decode cL_law 1661 = .ok (.iload_n 3, 1) := by decide +kernel
theorem dL_law_1662 : decode cL_law 1662 = .ok (.iconst 2, 1) := by decide +kernel
theorem dL_law_1663 : decode cL_law 1663 = .ok (.iadd, 1) := by decide +kernel
theorem dL_law_1664 : decode cL_law 1664 = .ok (.iaload, 1) := by decide +kernel
theorem dL_law_1665 : decode cL_law 1665 = .ok (.aload_n 0, 1) := by decide +kernel
theorem dL_law_1666 : decode cL_law 1666 = .ok (.iload_n 3, 1) := by decide +kernel
theorem dL_law_1667 : decode cL_law 1667 = .ok (.iconst 3, 1) := by decide +kernel
theorem dL_law_1668 : decode cL_law 1668 = .ok (.iadd, 1) := by decide +kernel
theorem dL_law_1669 : decode cL_law 1669 = .ok (.iaload, 1) := by decide +kernel
theorem dL_law_1670 : decode cL_law 1670 = .ok (.invokevirtual 190, 3) := by decide +kernel
theorem dL_law_1673 : decode cL_law 1673 = .ok (.aload_n 2, 1) := by decide +kernel
theorem dL_law_1674 : decode cL_law 1674 = .ok (.aload_n 0, 1) := by decide +kernel
theorem dL_law_1675 : decode cL_law 1675 = .ok (.iload_n 3, 1) := by decide +kernel
theorem dL_law_1676 : decode cL_law 1676 = .ok (.iconst 1, 1) := by decide +kernel
theorem dL_law_1677 : decode cL_law 1677 = .ok (.iadd, 1) := by decide +kernel
theorem dL_law_1678 : decode cL_law 1678 = .ok (.iaload, 1) := by decide +kernel
theorem dL_law_1679 : decode cL_law 1679 = .ok (.aload_n 0, 1) := by decide +kernel
theorem dL_law_1680 : decode cL_law 1680 = .ok (.iload_n 3, 1) := by decide +kernel
theorem dL_law_1681 : decode cL_law 1681 = .ok (.iconst 2, 1) := by decide +kernel
theorem dL_law_1682 : decode cL_law 1682 = .ok (.iadd, 1) := by decide +kernel
theorem dL_law_1683 : decode cL_law 1683 = .ok (.iaload, 1) := by decide +kernel
theorem dL_law_1684 : decode cL_law 1684 = .ok (.aload_n 0, 1) := by decide +kernel
theorem dL_law_1685 : decode cL_law 1685 = .ok (.iload_n 3, 1) := by decide +kernel
theorem dL_law_1686 : decode cL_law 1686 = .ok (.iconst 3, 1) := by decide +kernel
theorem dL_law_1687 : decode cL_law 1687 = .ok (.iadd, 1) := by decide +kernel
theorem dL_law_1688 : decode cL_law 1688 = .ok (.iaload, 1) := by decide +kernel
theorem dL_law_1689 : decode cL_law 1689 = .ok (.invokevirtual 193, 3) := by decide +kernel
theorem dL_law_1692 : decode cL_law 1692 = .ok (.if_icmp .eq 209, 3) := by decide +kernel
theorem dL_law_1695 : decode cL_law 1695 = .ok (.iconst 0, 1) := by decide +kernel
theorem dL_law_1696 : decode cL_law 1696 = .ok (.ireturn, 1) := by decide +kernel
theorem dL_law_1697 : decode cL_law 1697 = .ok (.aload_n 1, 1) := by decide +kernel
theorem dL_law_1698 : decode cL_law 1698 = .ok (.aload_n 0, 1) := by decide +kernel
theorem dL_law_1699 : decode cL_law 1699 = .ok (.iload_n 3, 1) := by decide +kernel
theorem dL_law_1700 : decode cL_law 1700 = .ok (.iconst 1, 1) := by decide +kernel
theorem dL_law_1701 : decode cL_law 1701 = .ok (.iadd, 1) := by decide +kernel
theorem dL_law_1702 : decode cL_law 1702 = .ok (.iaload, 1) := by decide +kernel
theorem dL_law_1703 : decode cL_law 1703 = .ok (.aload_n 0, 1) := by decide +kernel
theorem dL_law_1704 : decode cL_law 1704 = .ok (.iload_n 3, 1) := by decide +kernel
theorem dL_law_1705 : decode cL_law 1705 = .ok (.iconst 2, 1) := by decide +kernel
theorem dL_law_1706 : decode cL_law 1706 = .ok (.iadd, 1) := by decide +kernel
theorem dL_law_1707 : decode cL_law 1707 = .ok (.iaload, 1) := by decide +kernel
theorem dL_law_1708 : decode cL_law 1708 = .ok (.aload_n 0, 1) := by decide +kernel
theorem dL_law_1709 : decode cL_law 1709 = .ok (.iload_n 3, 1) := by decide +kernel
theorem dL_law_1710 : decode cL_law 1710 = .ok (.iconst 3, 1) := by decide +kernel
theorem dL_law_1711 : decode cL_law 1711 = .ok (.iadd, 1) := by decide +kernel
theorem dL_law_1712 : decode cL_law 1712 = .ok (.iaload, 1) := by decide +kernel
theorem dL_law_1713 : decode cL_law 1713 = .ok (.invokevirtual 194, 3) := by decide +kernel
theorem dL_law_1716 : decode cL_law 1716 = .ok (.aload_n 2, 1) := by decide +kernel
theorem dL_law_1717 : decode cL_law 1717 = .ok (.aload_n 0, 1) := by decide +kernel
theorem dL_law_1718 : decode cL_law 1718 = .ok (.iload_n 3, 1) := by decide +kernel
theorem dL_law_1719 : decode cL_law 1719 = .ok (.iconst 1, 1) := by decide +kernel
theorem dL_law_1720 : decode cL_law 1720 = .ok (.iadd, 1) := by decide +kernel
theorem dL_law_1721 : decode cL_law 1721 = .ok (.iaload, 1) := by decide +kernel
theorem dL_law_1722 : decode cL_law 1722 = .ok (.aload_n 0, 1) := by decide +kernel
theorem dL_law_1723 : decode cL_law 1723 = .ok (.iload_n 3, 1) := by decide +kernel
theorem dL_law_1724 : decode cL_law 1724 = .ok (.iconst 2, 1) := by decide +kernel
theorem dL_law_1725 : decode cL_law 1725 = .ok (.iadd, 1) := by decide +kernel
theorem dL_law_1726 : decode cL_law 1726 = .ok (.iaload, 1) := by decide +kernel
theorem dL_law_1727 : decode cL_law 1727 = .ok (.aload_n 0, 1) := by decide +kernel
theorem dL_law_1728 : decode cL_law 1728 = .ok (.iload_n 3, 1) := by decide +kernel
theorem dL_law_1729 : decode cL_law 1729 = .ok (.iconst 3, 1) := by decide +kernel
theorem dL_law_1730 : decode cL_law 1730 = .ok (.iadd, 1) := by decide +kernel
theorem dL_law_1731 : decode cL_law 1731 = .ok (.iaload, 1) := by decide +kernel
theorem dL_law_1732 : decode cL_law 1732 = .ok (.invokevirtual 197, 3) := by decide +kernel
theorem dL_law_1735 : decode cL_law 1735 = .ok (.if_icmp .eq 166, 3) := by decide +kernel
theorem dL_law_1738 : decode cL_law 1738 = .ok (.iconst 0, 1) := by decide +kernel
theorem dL_law_1739 : decode cL_law 1739 = .ok (.ireturn, 1) := by decide +kernel
theorem dL_law_1740 : decode cL_law 1740 = .ok (.aload_n 1, 1) := by decide +kernel
theorem dL_law_1741 : decode cL_law 1741 = .ok (.aload_n 0, 1) := by decide +kernel
theorem dL_law_1742 : decode cL_law 1742 = .ok (.iload_n 3, 1) := by decide +kernel
theorem dL_law_1743 : decode cL_law 1743 = .ok (.iconst 1, 1) := by decide +kernel
theorem dL_law_1744 : decode cL_law 1744 = .ok (.iadd, 1) := by decide +kernel
theorem dL_law_1745 : decode cL_law 1745 = .ok (.iaload, 1) := by decide +kernel
theorem dL_law_1746 : decode cL_law 1746 = .ok (.aload_n 0, 1) := by decide +kernel
theorem dL_law_1747 : decode cL_law 1747 = .ok (.iload_n 3, 1) := by decide +kernel
theorem dL_law_1748 : decode cL_law 1748 = .ok (.iconst 2, 1) := by decide +kernel
theorem dL_law_1749 : decode cL_law 1749 = .ok (.iadd, 1) := by decide +kernel
theorem dL_law_1750 : decode cL_law 1750 = .ok (.iaload, 1) := by decide +kernel
theorem dL_law_1751 : decode cL_law 1751 = .ok (.invokevirtual 198, 3) := by decide +kernel
theorem dL_law_1754 : decode cL_law 1754 = .ok (.aload_n 2, 1) := by decide +kernel
theorem dL_law_1755 : decode cL_law 1755 = .ok (.aload_n 0, 1) := by decide +kernel
theorem dL_law_1756 : decode cL_law 1756 = .ok (.iload_n 3, 1) := by decide +kernel
theorem dL_law_1757 : decode cL_law 1757 = .ok (.iconst 1, 1) := by decide +kernel
theorem dL_law_1758 : decode cL_law 1758 = .ok (.iadd, 1) := by decide +kernel
theorem dL_law_1759 : decode cL_law 1759 = .ok (.iaload, 1) := by decide +kernel
theorem dL_law_1760 : decode cL_law 1760 = .ok (.aload_n 0, 1) := by decide +kernel
theorem dL_law_1761 : decode cL_law 1761 = .ok (.iload_n 3, 1) := by decide +kernel
theorem dL_law_1762 : decode cL_law 1762 = .ok (.iconst 2, 1) := by decide +kernel
theorem dL_law_1763 : decode cL_law 1763 = .ok (.iadd, 1) := by decide +kernel
theorem dL_law_1764 : decode cL_law 1764 = .ok (.iaload, 1) := by decide +kernel
theorem dL_law_1765 : decode cL_law 1765 = .ok (.invokevirtual 201, 3) := by decide +kernel
theorem dL_law_1768 : decode cL_law 1768 = .ok (.if_icmp .eq 133, 3) := by decide +kernel
theorem dL_law_1771 : decode cL_law 1771 = .ok (.iconst 0, 1) := by decide +kernel
theorem dL_law_1772 : decode cL_law 1772 = .ok (.ireturn, 1) := by decide +kernel
theorem dL_law_1773 : decode cL_law 1773 = .ok (.aload_n 1, 1) := by decide +kernel
theorem dL_law_1774 : decode cL_law 1774 = .ok (.aload_n 0, 1) := by decide +kernel
theorem dL_law_1775 : decode cL_law 1775 = .ok (.iload_n 3, 1) := by decide +kernel
theorem dL_law_1776 : decode cL_law 1776 = .ok (.iconst 1, 1) := by decide +kernel
theorem dL_law_1777 : decode cL_law 1777 = .ok (.iadd, 1) := by decide +kernel
theorem dL_law_1778 : decode cL_law 1778 = .ok (.iaload, 1) := by decide +kernel
theorem dL_law_1779 : decode cL_law 1779 = .ok (.aload_n 0, 1) := by decide +kernel
theorem dL_law_1780 : decode cL_law 1780 = .ok (.iload_n 3, 1) := by decide +kernel
theorem dL_law_1781 : decode cL_law 1781 = .ok (.iconst 2, 1) := by decide +kernel
theorem dL_law_1782 : decode cL_law 1782 = .ok (.iadd, 1) := by decide +kernel
theorem dL_law_1783 : decode cL_law 1783 = .ok (.iaload, 1) := by decide +kernel
theorem dL_law_1784 : decode cL_law 1784 = .ok (.invokevirtual 202, 3) := by decide +kernel
theorem dL_law_1787 : decode cL_law 1787 = .ok (.aload_n 2, 1) := by decide +kernel
theorem dL_law_1788 : decode cL_law 1788 = .ok (.aload_n 0, 1) := by decide +kernel
theorem dL_law_1789 : decode cL_law 1789 = .ok (.iload_n 3, 1) := by decide +kernel
theorem dL_law_1790 : decode cL_law 1790 = .ok (.iconst 1, 1) := by decide +kernel
theorem dL_law_1791 : decode cL_law 1791 = .ok (.iadd, 1) := by decide +kernel
theorem dL_law_1792 : decode cL_law 1792 = .ok (.iaload, 1) := by decide +kernel
theorem dL_law_1793 : decode cL_law 1793 = .ok (.aload_n 0, 1) := by decide +kernel
theorem dL_law_1794 : decode cL_law 1794 = .ok (.iload_n 3, 1) := by decide +kernel
theorem dL_law_1795 : decode cL_law 1795 = .ok (.iconst 2, 1) := by decide +kernel
theorem dL_law_1796 : decode cL_law 1796 = .ok (.iadd, 1) := by decide +kernel
theorem dL_law_1797 : decode cL_law 1797 = .ok (.iaload, 1) := by decide +kernel
theorem dL_law_1798 : decode cL_law 1798 = .ok (.invokevirtual 205, 3) := by decide +kernel
theorem dL_law_1801 : decode cL_law 1801 = .ok (.if_icmp .eq 100, 3) := by decide +kernel
theorem dL_law_1804 : decode cL_law 1804 = .ok (.iconst 0, 1) := by decide +kernel
theorem dL_law_1805 : decode cL_law 1805 = .ok (.ireturn, 1) := by decide +kernel
theorem dL_law_1806 : decode cL_law 1806 = .ok (.aload_n 1, 1) := by decide +kernel
theorem dL_law_1807 : decode cL_law 1807 = .ok (.aload_n 0, 1) := by decide +kernel
theorem dL_law_1808 : decode cL_law 1808 = .ok (.iload_n 3, 1) := by decide +kernel
theorem dL_law_1809 : decode cL_law 1809 = .ok (.iconst 1, 1) := by decide +kernel
theorem dL_law_1810 : decode cL_law 1810 = .ok (.iadd, 1) := by decide +kernel
theorem dL_law_1811 : decode cL_law 1811 = .ok (.iaload, 1) := by decide +kernel
theorem dL_law_1812 : decode cL_law 1812 = .ok (.invokevirtual 206, 3) := by decide +kernel
theorem dL_law_1815 : decode cL_law 1815 = .ok (.aload_n 2, 1) := by decide +kernel
theorem dL_law_1816 : decode cL_law 1816 = .ok (.aload_n 0, 1) := by decide +kernel
theorem dL_law_1817 : decode cL_law 1817 = .ok (.iload_n 3, 1) := by decide +kernel
theorem dL_law_1818 : decode cL_law 1818 = .ok (.iconst 1, 1) := by decide +kernel
theorem dL_law_1819 : decode cL_law 1819 = .ok (.iadd, 1) := by decide +kernel
theorem dL_law_1820 : decode cL_law 1820 = .ok (.iaload, 1) := by decide +kernel
theorem dL_law_1821 : decode cL_law 1821 = .ok (.invokevirtual 209, 3) := by decide +kernel
theorem dL_law_1824 : decode cL_law 1824 = .ok (.if_icmp .eq 77, 3) := by decide +kernel
theorem dL_law_1827 : decode cL_law 1827 = .ok (.iconst 0, 1) := by decide +kernel
theorem dL_law_1828 : decode cL_law 1828 = .ok (.ireturn, 1) := by decide +kernel
theorem dL_law_1829 : decode cL_law 1829 = .ok (.aload_n 1, 1) := by decide +kernel
theorem dL_law_1830 : decode cL_law 1830 = .ok (.aload_n 0, 1) := by decide +kernel
theorem dL_law_1831 : decode cL_law 1831 = .ok (.iload_n 3, 1) := by decide +kernel
theorem dL_law_1832 : decode cL_law 1832 = .ok (.iconst 1, 1) := by decide +kernel
theorem dL_law_1833 : decode cL_law 1833 = .ok (.iadd, 1) := by decide +kernel
theorem dL_law_1834 : decode cL_law 1834 = .ok (.iaload, 1) := by decide +kernel
theorem dL_law_1835 : decode cL_law 1835 = .ok (.aload_n 0, 1) := by decide +kernel
theorem dL_law_1836 : decode cL_law 1836 = .ok (.iload_n 3, 1) := by decide +kernel
theorem dL_law_1837 : decode cL_law 1837 = .ok (.iconst 2, 1) := by decide +kernel
theorem dL_law_1838 : decode cL_law 1838 = .ok (.iadd, 1) := by decide +kernel
theorem dL_law_1839 : decode cL_law 1839 = .ok (.iaload, 1) := by decide +kernel
theorem dL_law_1840 : decode cL_law 1840 = .ok (.ifCond .eq 7, 3) := by decide +kernel
theorem dL_law_1843 : decode cL_law 1843 = .ok (.iconst 1, 1) := by decide +kernel
theorem dL_law_1844 : decode cL_law 1844 = .ok (.goto 4, 3) := by decide +kernel
theorem dL_law_1847 : decode cL_law 1847 = .ok (.iconst 0, 1) := by decide +kernel
theorem dL_law_1848 : decode cL_law 1848 = .ok (.invokevirtual 210, 3) := by decide +kernel
theorem dL_law_1851 : decode cL_law 1851 = .ok (.aload_n 2, 1) := by decide +kernel
theorem dL_law_1852 : decode cL_law 1852 = .ok (.aload_n 0, 1) := by decide +kernel
theorem dL_law_1853 : decode cL_law 1853 = .ok (.iload_n 3, 1) := by decide +kernel
theorem dL_law_1854 : decode cL_law 1854 = .ok (.iconst 1, 1) := by decide +kernel
theorem dL_law_1855 : decode cL_law 1855 = .ok (.iadd, 1) := by decide +kernel
theorem dL_law_1856 : decode cL_law 1856 = .ok (.iaload, 1) := by decide +kernel
theorem dL_law_1857 : decode cL_law 1857 = .ok (.aload_n 0, 1) := by decide +kernel
theorem dL_law_1858 : decode cL_law 1858 = .ok (.iload_n 3, 1) := by decide +kernel
theorem dL_law_1859 : decode cL_law 1859 = .ok (.iconst 2, 1) := by decide +kernel
theorem dL_law_1860 : decode cL_law 1860 = .ok (.iadd, 1) := by decide +kernel
theorem dL_law_1861 : decode cL_law 1861 = .ok (.iaload, 1) := by decide +kernel
theorem dL_law_1862 : decode cL_law 1862 = .ok (.ifCond .eq 7, 3) := by decide +kernel
theorem dL_law_1865 : decode cL_law 1865 = .ok (.iconst 1, 1) := by decide +kernel
theorem dL_law_1866 : decode cL_law 1866 = .ok (.goto 4, 3) := by decide +kernel
theorem dL_law_1869 : decode cL_law 1869 = .ok (.iconst 0, 1) := by decide +kernel
theorem dL_law_1870 : decode cL_law 1870 = .ok (.invokevirtual 213, 3) := by decide +kernel
theorem dL_law_1873 : decode cL_law 1873 = .ok (.if_icmp .eq 28, 3) := by decide +kernel
theorem dL_law_1876 : decode cL_law 1876 = .ok (.iconst 0, 1) := by decide +kernel
theorem dL_law_1877 : decode cL_law 1877 = .ok (.ireturn, 1) := by decide +kernel
theorem dL_law_1878 : decode cL_law 1878 = .ok (.aload_n 1, 1) := by decide +kernel
theorem dL_law_1879 : decode cL_law 1879 = .ok (.aload_n 0, 1) := by decide +kernel
theorem dL_law_1880 : decode cL_law 1880 = .ok (.iload_n 3, 1) := by decide +kernel
theorem dL_law_1881 : decode cL_law 1881 = .ok (.iconst 1, 1) := by decide +kernel
theorem dL_law_1882 : decode cL_law 1882 = .ok (.iadd, 1) := by decide +kernel
theorem dL_law_1883 : decode cL_law 1883 = .ok (.iaload, 1) := by decide +kernel
theorem dL_law_1884 : decode cL_law 1884 = .ok (.invokevirtual 214, 3) := by decide +kernel
theorem dL_law_1887 : decode cL_law 1887 = .ok (.aload_n 2, 1) := by decide +kernel
theorem dL_law_1888 : decode cL_law 1888 = .ok (.aload_n 0, 1) := by decide +kernel
theorem dL_law_1889 : decode cL_law 1889 = .ok (.iload_n 3, 1) := by decide +kernel
theorem dL_law_1890 : decode cL_law 1890 = .ok (.iconst 1, 1) := by decide +kernel
theorem dL_law_1891 : decode cL_law 1891 = .ok (.iadd, 1) := by decide +kernel
theorem dL_law_1892 : decode cL_law 1892 = .ok (.iaload, 1) := by decide +kernel
theorem dL_law_1893 : decode cL_law 1893 = .ok (.invokevirtual 217, 3) := by decide +kernel
theorem dL_law_1896 : decode cL_law 1896 = .ok (.if_icmp .eq 5, 3) := by decide +kernel
theorem dL_law_1899 : decode cL_law 1899 = .ok (.iconst 0, 1) := by decide +kernel
theorem dL_law_1900 : decode cL_law 1900 = .ok (.ireturn, 1) := by decide +kernel
theorem dL_law_1901 : decode cL_law 1901 = .ok (.iinc 3 10, 3) := by decide +kernel
theorem dL_law_1904 : decode cL_law 1904 = .ok (.goto (-1886), 3) := by decide +kernel
theorem dL_law_1907 : decode cL_law 1907 = .ok (.iconst 1, 1) := by decide +kernel
theorem dL_law_1908 : decode cL_law 1908 = .ok (.ireturn, 1) := by decide +kernel
end
section
def z_nft : List Nat := [6, 4, 4, 14, 6, 3, 5, 2, 6, 5, 4, 19, 39]
def z_nf (k : Nat) : Nat := z_nft.getD k 0
def z_rkt : List (List (Option Nat)) := [[none, none, some 13, none, none, none], [some 10, some 14, some 15, some 16], [none, none, none, none], [none, none, none, none, none, none, none, none, none, none, some 8, some 17, some 18, none], [none, none, none, some 7, some 7, some 7], [none, some 19, none], [none, none, none, none, none], [none, none], [none, none, none, none, none, none], [none, none, none, none, none], [none, some 20, some 21, none], [some 10, some 22, none, some 23, none, some 24, none, some 5, some 25, none, some 26, none, some 27, some 28, some 1, some 2, none, none, none], [none, none, some 29, some 30, none, none, some 31, some 32, some 33, none, some 34, some 35, some 36, some 37, some 38, none, some 39, none, some 40, some 41, some 42, some 43, none, some 44, none, none, none, some 45, some 46, some 47, none, none, some 48, some 49, some 50, some 51, some 52, some 53, some 54]]
def z_ekt : List (Option Nat) := [none, none, none, none, none, none, some 8, none, none, some 3, some 4, some 0, some 6, some 9, none, none, none, none, none, none, none, none, none, none, none, none, none, none, none, none, none, none, none, none, none, none, none, none, none, none, none, none]
def z_rk (k j : Nat) : Option Nat := if k < 13 then (z_rkt.getD k []).getD j none else z_ekt.getD (k - 13) none
def z_tyt : List FieldType := [.byte, .int, .int, .int, .int, .int, .object "PressedMen$Taking", .boolean, .int, .object "PressedMen$Man", .object "PressedMen$Paper", .object "PressedMen$Act", .object "PressedMen$Ship", .object "PressedMen$Ticket", .int, .int, .boolean, .int, .int, .int, .int, .int, .int, .int, .int, .boolean, .int, .int, .int, .int, .boolean, .int, .int, .int, .int, .int, .int, .int, .boolean, .int, .int, .int]
def z_ty (k : Nat) : FieldType := z_tyt.getD (k - 13) .int
/-! ===== the abstract heap: typed stores (kind, index, slot); an abstract value ===== -/
abbrev ZV : Type := Int32 ⊕ Int64 ⊕ (Nat × Option Nat)
abbrev z_i (x : Int32) : ZV := Sum.inl x
abbrev z_l (x : Int64) : ZV := Sum.inr (Sum.inl x)
abbrev z_r (k : Nat) (o : Option Nat) : ZV := Sum.inr (Sum.inr (k, o))
def z_v (ad : Nat → Nat → Nat) : ZV → Value
  | .inl x => .int x
  | .inr (.inl x) => .long x
  | .inr (.inr q) => va_rf (q.2.map (ad q.1))
abbrev ZH : Type := (Nat → Nat) × (Nat → Nat → Nat) × (Nat → Nat → Nat → Int32) × (Nat → Nat → Nat → Option Nat) × Nat × Nat
def zN (S : ZH) : Nat → Nat := S.1
def zL (S : ZH) : Nat → Nat → Nat := S.2.1
def zI (S : ZH) : Nat → Nat → Nat → Int32 := S.2.2.1
def zR (S : ZH) : Nat → Nat → Nat → Option Nat := S.2.2.2.1
def zc (S : ZH) : Nat := S.2.2.2.2.1
def zs (S : ZH) : Nat := S.2.2.2.2.2
def z_up {α : Type} (f : Nat → Nat → Nat → α) (k i j : Nat) (v : α) : Nat → Nat → Nat → α := fun k' i' j' => if k' = k ∧ i' = i ∧ j' = j then v else f k' i' j'
def zsI (S : ZH) (k i j : Nat) (v : Int32) : ZH := (S.1, S.2.1, z_up S.2.2.1 k i j v, S.2.2.2)
def zsR (S : ZH) (k i j : Nat) (v : Option Nat) : ZH := (S.1, S.2.1, S.2.2.1, z_up S.2.2.2.1 k i j v, S.2.2.2.2)
def zNew (S : ZH) (k n : Nat) : ZH := (fun k' => if k' = k then S.1 k + 1 else S.1 k', fun k' i' => if k' = k ∧ i' = S.1 k then n else S.2.1 k' i', fun k' i' j' => if k' = k ∧ i' = S.1 k then 0 else S.2.2.1 k' i' j', fun k' i' j' => if k' = k ∧ i' = S.1 k then none else S.2.2.2.1 k' i' j', S.2.2.2.2.1 + 1, S.2.2.2.2.2 + n)
def zC : Nat := 600000
def zZ : Nat := 7302250
def zal (S : ZH) (k n : Nat) : Option ZH := if zc S + 1 ≤ zC ∧ zs S + n ≤ zZ then some (zNew S k n) else none
def znw (S : ZH) (k : Nat) (x : Int32) : Option ZH := if x < 0 then none else zal S k x.toNatClampNeg
def zld (S : ZH) (k a : Nat) (x : Int32) : Option Int32 := if x < 0 ∨ zL S k a ≤ x.toNatClampNeg then none else some (zI S k a x.toNatClampNeg)
def zldR (S : ZH) (k a : Nat) (x : Int32) : Option (Option Nat) := if x < 0 ∨ zL S k a ≤ x.toNatClampNeg then none else some (zR S k a x.toNatClampNeg)
def zst (S : ZH) (k a : Nat) (x v : Int32) : Option ZH := if x < 0 ∨ zL S k a ≤ x.toNatClampNeg then none else some (zsI S k a x.toNatClampNeg v)
def zstR (S : ZH) (k a : Nat) (x : Int32) (v : Option Nat) : Option ZH := if x < 0 ∨ zL S k a ≤ x.toNatClampNeg then none else some (zsR S k a x.toNatClampNeg v)
def z_b (x : Int32) : Int32 := vp_nar .boolean x
def z_y (x : Int32) : Int32 := vp_nar .byte x
def z_fld (ad : Nat → Nat → Nat) (S : ZH) (k i j : Nat) : Value := match z_rk k j with
  | none => .int (zI S k i j)
  | some k' => va_rf ((zR S k i j).map (ad k'))
def z_cell (cA : Nat → ClassId) (ad : Nat → Nat → Nat) (S : ZH) (k i : Nat) : va_E :=
  if k < 13 then .inr (k, (List.range (z_nf k)).map (z_fld ad S k i)) else match z_rk k 0 with
    | none => .inl (cA k, zL S k i, .inl (zI S k i))
    | some k' => .inl (cA k, zL S k i, .inr (.inr (.inr (.inr fun j => (zR S k i j).map (ad k')))))
def z_ws (cA : Nat → ClassId) (ad : Nat → Nat → Nat) (S : ZH) (L : List (Nat × Nat)) : va_W := L.map fun q => (ad q.1 q.2, z_cell cA ad S q.1 q.2)
def z_A (ad0 : Nat → Nat → Nat) (S0 : ZH) (sz : Nat) : Nat → Prop := fun q => (∃ k i, k < 99 ∧ i < zN S0 k ∧ q = ad0 k i) ∨ sz ≤ q
def z_ok (S : ZH) : ZV → Prop
  | .inr (.inr (k, some i)) => i < zN S k
  | _ => True
def z_tys (cA : Nat → ClassId) : List (ClassId × FieldType) := (List.range 42).map fun k => (cA (13 + k), z_ty (13 + k))
def z_mem (S : ZH) (L : List (Nat × Nat)) : Prop := ∀ k i, (k, i) ∈ L ↔ k < 99 ∧ i < zN S k
def z_rfs (S : ZH) : Prop := ∀ k i j q k', k < 99 → i < zN S k → z_rk k j = some k' → zR S k i j = some q → q < zN S k'
def z_gd (w : Cond) : Prop := (w.onTables && w.keeps) = true ∨ ∃ ty, w = .arrayClass ty
def z_Wd (s : State) : Prop := (∀ w ∈ lw_tbl, z_gd w → ∀ a, w.before a s = true) ∧ (∀ own idx y host, Cond.methodLinkNest own idx y host ∈ lw_tbl → va_Nw (.methodLinkNest own idx y host) s) ∧ (∀ C, Cond.arrayOver (.object C) ∈ lw_tbl → va_AO C s) ∧ (Cond.native arraycopyName ∈ lw_tbl → va_Nw (.native arraycopyName) s)
theorem z_Wd.warm {s U : State} (hW : s.WarmedH U.vm) (h : z_Wd s) : z_Wd U :=
  ⟨fun w hw hg a => word_at hW hg (h.1 w hw hg #[]), fun own idx y host hw => va_Nw.warmM hW (h.2.1 own idx y host hw), fun C hw => (h.2.2.1 C hw).moved hW.alike, fun hw => by
    have h1 := h.2.2.2 hw
    have h2 := word_at (a' := #[]) hW (c := .native arraycopyName) (Or.inl (by first | rfl | simp [Cond.onTables, Cond.keeps, Cond.steady])) h1
    exact h2⟩
abbrev ZM : Type := MethodName × ByteArray × Nat × Option FieldType × Nat × Nat
def z_Cx (p : Program) (R : Room) (s : State) (m : MethodId) (meth : Method) (c : Code) (Y : ZM) (D : va_G) (cA : Nat → ClassId) (S0 : ZH) : Prop :=
  p.tables.exec = Jvm.exec ∧ c.code = Y.2.1 ∧ c.maxLocals = Y.2.2.1 ∧ meth.sig.returnType = Y.2.2.2.1 ∧ meth.locks = false ∧ s.vm.findClass Y.1.cls = some m.cls ∧ z_Wd s ∧ (Y.1.name = "<init>" → meth.name = "<init>") ∧ (Y.2.2.2.2.1 ≤ R.frames ∧ Y.2.2.2.2.2 ≤ R.locals ∧ zC ≤ zc S0 + R.cells ∧ zZ ≤ zs S0 + R.slots) ∧ va_K D vwCl (z_tys cA) s
def z_lo (ad : Nat → Nat → Nat) (lo : List (Nat × ZV)) : List (Nat × Value) := lo.map fun q => (q.1, z_v ad q.2)
def z_St (nL : Nat) (D : va_G) (cA : Nat → ClassId) (ad0 : Nat → Nat → Nat) (S0 : ZH) (s : State) (ad : Nat → Nat → Nat) (S : ZH) (L : List (Nat × Nat)) (H : Heap) (locs : List Loc) (cells slots : Nat) (ls : Array Slot) (lo : List (Nat × ZV)) (st : List ZV) : Prop :=
  z_mem S L ∧ va_P D vwCl (z_ws cA ad S L) H ∧ va_D (z_A ad0 S0 s.heap.size) (z_ws cA ad S L) ∧ z_rfs S ∧ va_S (z_A ad0 S0 s.heap.size) s.heap H locs ∧ ((∀ k, zN S0 k ≤ zN S k) ∧ ∀ k i, i < zN S0 k → ad k i = ad0 k i) ∧ (∀ q ∈ lo, z_ok S q.2) ∧ (∀ v ∈ st, z_ok S v) ∧ (zc S = zc S0 + cells ∧ zs S = zs S0 + slots ∧ zc S ≤ zC ∧ zs S ≤ zZ) ∧ lv_has ls nL (z_lo ad lo)
abbrev ZP : Type := va_G → (Nat → ClassId) → State → Array Value → List Frame → (Nat → Nat → Nat) → (State → Prop) → Prop
def Wp (Y : ZM) (S0 : ZH) (F : ZP) (pc : Nat) (lo : List (Nat × ZV)) (st : List ZV) (S : ZH) : Prop :=
  ∀ (p : Program) (l : Launch) (e : Env) (R : Room) (s : State) (m : MethodId) (args : Array Value) (below : List Frame) (meth : Method) (c : Code) (D : va_G) (cA : Nat → ClassId) (ad0 ad : Nat → Nat → Nat) (L : List (Nat × Nat)) (H : Heap) (locs : List Loc) (cells slots : Nat) (ls : Array Slot) (Q : State → Prop),
    z_Cx p R s m meth c Y D cA S0 → F D cA s args below ad0 Q → z_St Y.2.2.1 D cA ad0 S0 s ad S L H locs cells slots ls lo st →
    W p l e R s m args below meth c H locs cells slots Q (F0 m pc ls (st.map (z_v ad)))
def z_Q0 (D : va_G) (cA : Nat → ClassId) (s : State) (ad0 : Nat → Nat → Nat) (S0 : ZH) (r : Option ZV) (S1 : ZH) (o : Outcome) (t : State) (Lc : List Loc) (mc ms : Nat) : Prop :=
  ∃ (ad1 : Nat → Nat → Nat) (L1 : List (Nat × Nat)), o = .returned (r.map (z_v ad1)) ∧ z_mem S1 L1 ∧ va_P D vwCl (z_ws cA ad1 S1 L1) t.heap ∧ va_D (z_A ad0 S0 s.heap.size) (z_ws cA ad1 S1 L1) ∧ z_rfs S1 ∧ ((∀ k, zN S0 k ≤ zN S1 k) ∧ ∀ k i, i < zN S0 k → ad1 k i = ad0 k i) ∧ (∀ v, r = some v → z_ok S1 v) ∧ (zc S1 = zc S0 + mc ∧ zs S1 = zs S0 + ms ∧ zc S1 ≤ zC ∧ zs S1 ≤ zZ) ∧ va_F (z_A ad0 S0 s.heap.size) s t ∧ ∀ q ∈ Lc, z_A ad0 S0 s.heap.size q.base
def z_Q (D : va_G) (cA : Nat → ClassId) (s : State) (ad0 : Nat → Nat → Nat) (S0 : ZH) (r : Option ZV) (S1 : ZH) (o : Outcome) (t : State) : Prop := ∃ Lc mc ms, FrameEnd s o t Lc mc ms ∧ z_Q0 D cA s ad0 S0 r S1 o t Lc mc ms
def zF (S0 : ZH) (r : Option ZV) (S1 : ZH) : ZP := fun D cA s _ below ad0 Q => Q = fun t => ∃ o, t.status = .running ∧ Ended t below o ∧ z_Q D cA s ad0 S0 r S1 o t
def z_Pre (D : va_G) (cA : Nat → ClassId) (ad : Nat → Nat → Nat) (S : ZH) (as : List ZV) (a : Array Value) (U : State) : Prop :=
  a = (as.map (z_v ad)).toArray ∧ (∃ L, z_mem S L ∧ va_P D vwCl (z_ws cA ad S L) U.heap ∧ va_D (fun _ => True) (z_ws cA ad S L)) ∧ z_rfs S ∧ (∀ v ∈ as, z_ok S v) ∧ (zc S ≤ zC ∧ zs S ≤ zZ) ∧ z_Wd U ∧ va_K D vwCl (z_tys cA) U
def MetX (Y : ZM) (S : ZH) (as : List ZV) (r : Option ZV) (S1 : ZH) : Prop := ∀ (l : Launch) (D : va_G) (cA : Nat → ClassId) (ad : Nat → Nat → Nat),
  MetFree l Y.1 (headSpec [.code Y.1 Y.2.1 Y.2.2.1 Y.2.2.2.1] { frames := Y.2.2.2.2.1, cells := zC - zc S, slots := zZ - zs S, locals := Y.2.2.2.2.2 }) (z_Pre D cA ad S as) (fun _ _ _ _ _ => True) (fun _ st o t => z_Q D cA st ad S r S1 o t)
/-! entry -/
def z_cat : ZV → Nat
  | .inr (.inl _) => 2
  | _ => 1
theorem z_cat_v (ad : Nat → Nat → Nat) (v : ZV) : (z_v ad v).category = z_cat v := by
  rcases v with x | x | ⟨k, o⟩
  · rfl
  · rfl
  · cases o <;> rfl
def z_args : Nat → List ZV → List (Nat × ZV)
  | _, [] => []
  | i, v :: vs => (i, v) :: z_args (if z_cat v = 2 then i + 2 else i + 1) vs
theorem z_args_v (ad : Nat → Nat → Nat) : ∀ (as : List ZV) (i : Nat), lv_args i (as.map (z_v ad)) = z_lo ad (z_args i as)
  | [], _ => rfl
  | v :: vs, i => by
    show (i, z_v ad v) :: lv_args _ (vs.map (z_v ad)) = (i, z_v ad v) :: z_lo ad (z_args _ vs)
    rw [z_cat_v, z_args_v ad vs]
def z_wd : List ZV → Nat
  | [] => 0
  | v :: vs => z_cat v + z_wd vs
theorem z_wd_v (ad : Nat → Nat → Nat) : ∀ as : List ZV, ((as.map (z_v ad)).map fun v => v.category).sum = z_wd as
  | [] => rfl
  | v :: vs => by
    show ((z_v ad v).category :: ((vs.map (z_v ad)).map fun v => v.category)).sum = z_cat v + z_wd vs
    rw [List.sum_cons, z_cat_v, z_wd_v ad vs]
theorem z_sl_v (ad : Nat → Nat → Nat) : ∀ as : List ZV, (lg_sl (as.map (z_v ad))).length = z_wd as
  | [] => rfl
  | v :: vs => by
    have h := z_sl_v ad vs
    have hc := z_cat_v ad v
    have e : lg_sl ((v :: vs).map (z_v ad)) = (if (z_v ad v).category = 2 then [Slot.val (z_v ad v), .second] else [.val (z_v ad v)]) ++ lg_sl (vs.map (z_v ad)) := by simp [lg_sl]
    rw [e, List.length_append, h, hc]
    show _ = z_cat v + z_wd vs
    rcases lv_cat (z_v ad v) with q | q <;> rw [hc] at q <;> simp [q]
theorem z_args_ok {S : ZH} : ∀ (as : List ZV) (i : Nat), (∀ v ∈ as, z_ok S v) → ∀ q ∈ z_args i as, z_ok S q.2
  | [], _, _, q, hq => by cases hq
  | v :: vs, i, h, q, hq => by
    rcases List.mem_cons.mp hq with rfl | hq
    · exact h v List.mem_cons_self
    · exact z_args_ok vs _ (fun w hw => h w (List.mem_cons_of_mem _ hw)) q hq
theorem z_mem_ws {S : ZH} {L : List (Nat × Nat)} {cA : Nat → ClassId} {ad : Nat → Nat → Nat} (hL : z_mem S L) {k i : Nat} (hk : k < 99) (hi : i < zN S k) : ∃ q0 : Nat, L[q0]? = some (k, i) ∧ (z_ws cA ad S L)[q0]? = some (ad k i, z_cell cA ad S k i) := by
  obtain ⟨q0, hq⟩ := List.getElem?_of_mem ((hL k i).mpr ⟨hk, hi⟩)
  exact ⟨q0, hq, by simp [z_ws, hq]⟩
theorem z_A_of {S : ZH} {L : List (Nat × Nat)} {cA : Nat → ClassId} {ad : Nat → Nat → Nat} {sz n : Nat} (hL : z_mem S L) {q : Nat × va_E} (hq : (z_ws cA ad S L)[n]? = some q) : z_A ad S sz q.1 := by
  rw [z_ws, List.getElem?_map] at hq
  cases h : L[n]? with
  | none => rw [h] at hq; cases hq
  | some x =>
    rw [h] at hq
    cases hq
    obtain ⟨k, i⟩ := x
    have h2 := (hL k i).mp (List.mem_of_getElem? h)
    exact Or.inl ⟨k, i, h2.1, h2.2, rfl⟩
set_option maxHeartbeats 1000000 in
theorem MetX.of {Y : ZM} {S : ZH} {as : List ZV} {r : Option ZV} {S1 : ZH} {lo : List (Nat × ZV)} (hlo : z_args 0 as = lo) (hy : plainName Y.1.cls = true) (hw : z_wd as ≤ Y.2.2.1) (h : Wp Y S (zF S r S1) 0 lo [] S) : MetX Y S as r S1 := by
  intro l D cA ad
  subst hlo
  refine MetFree.of_bodyS (code := Y.2.1) (maxLocals := Y.2.2.1) (ret := Y.2.2.2.1) hy ?_ ?_
  · intro args s m hp hn
    obtain ⟨meth, c, h1, h2, h3, h4, h5, h6, -, -⟩ := Cond.code_spec hn (atoms_spec (ws := [.code Y.1 Y.2.1 Y.2.2.1 Y.2.2.2.1]) hp _ List.mem_cons_self)
    exact ⟨meth, c, h1, h2, h3, h4, h5, h6⟩
  · intro p e s m args below meth c s₁ B hml hP _
    obtain ⟨rfl, ⟨L, hL, hPw, hD⟩, hrf, hok, hcap, hwd, hK⟩ := hP
    have hh0 : s₁.heap = s.heap := by rw [B.state]; rfl
    have hl := lv_entry (as.map (z_v ad)) (n := Y.2.2.1) (by rw [z_sl_v]; exact hw)
    rw [z_args_v] at hl
    have key := h p l e ({ frames := Y.2.2.2.2.1, cells := zC - zc S, slots := zZ - zs S, locals := Y.2.2.2.2.2 } : Room) s m (as.map (z_v ad)).toArray below meth c D cA ad ad L s.heap [] 0 0 _ _
      ⟨B.exec, B.bytes, hml, B.returns, B.notSynchronized, findClass_of_methodNamed B.named, hwd, fun q => (name_of_methodNamed B.named B.method).1.trans q, ⟨Nat.le_refl _, Nat.le_refl _, by show zC ≤ zc S + (zC - zc S); omega, by show zZ ≤ zs S + (zZ - zs S); omega⟩, hK⟩ rfl
      ⟨hL, hPw, ⟨hD.1, fun n q hq => z_A_of hL hq⟩, hrf, va_S.rf, ⟨fun _ => Nat.le_refl _, fun _ _ _ => rfl⟩, z_args_ok as 0 hok, (fun v hv => by cases hv), ⟨rfl, rfl, hcap.1, hcap.2⟩, hl⟩
    obtain ⟨t, a1, o, b1, b2, b3⟩ := key s₁ hh0 (Stand.of_body B)
    exact ⟨t, o, by rw [lg_entry_eq]; exact a1, b1, b2, b3⟩
/-! ===== rules: an instruction each ===== -/
theorem z_St.stk {nL : Nat} {D : va_G} {cA : Nat → ClassId} {ad0 : Nat → Nat → Nat} {S0 : ZH} {s : State} {ad : Nat → Nat → Nat} {S : ZH} {L : List (Nat × Nat)} {H : Heap} {locs : List Loc} {cells slots : Nat} {ls : Array Slot} {lo : List (Nat × ZV)} {st st' : List ZV} (h : z_St nL D cA ad0 S0 s ad S L H locs cells slots ls lo st) (h' : (∀ v ∈ st, z_ok S v) → ∀ v ∈ st', z_ok S v) : z_St nL D cA ad0 S0 s ad S L H locs cells slots ls lo st' :=
  ⟨h.1, h.2.1, h.2.2.1, h.2.2.2.1, h.2.2.2.2.1, h.2.2.2.2.2.1, h.2.2.2.2.2.2.1, h' h.2.2.2.2.2.2.2.1, h.2.2.2.2.2.2.2.2.1, h.2.2.2.2.2.2.2.2.2⟩
theorem z_St.loc {nL : Nat} {D : va_G} {cA : Nat → ClassId} {ad0 : Nat → Nat → Nat} {S0 : ZH} {s : State} {ad : Nat → Nat → Nat} {S : ZH} {L : List (Nat × Nat)} {H : Heap} {locs : List Loc} {cells slots : Nat} {ls ls' : Array Slot} {lo lo' : List (Nat × ZV)} {st st' : List ZV} (h : z_St nL D cA ad0 S0 s ad S L H locs cells slots ls lo st) (h1 : ∀ q ∈ lo', z_ok S q.2) (h' : ∀ v ∈ st', z_ok S v) (hl : lv_has ls' nL (z_lo ad lo')) : z_St nL D cA ad0 S0 s ad S L H locs cells slots ls' lo' st' :=
  ⟨h.1, h.2.1, h.2.2.1, h.2.2.2.1, h.2.2.2.2.1, h.2.2.2.2.2.1, h1, h', h.2.2.2.2.2.2.2.2.1, hl⟩
theorem z_oI {S : ZH} {x : Int32} {st : List ZV} (h : ∀ v ∈ st, z_ok S v) : ∀ v ∈ z_i x :: st, z_ok S v := List.forall_mem_cons.mpr ⟨trivial, h⟩
theorem z_oL {S : ZH} {x : Int64} {st : List ZV} (h : ∀ v ∈ st, z_ok S v) : ∀ v ∈ z_l x :: st, z_ok S v := List.forall_mem_cons.mpr ⟨trivial, h⟩
theorem z_oT {S : ZH} {x : ZV} {st : List ZV} (h : ∀ v ∈ x :: st, z_ok S v) : ∀ v ∈ st, z_ok S v := (List.forall_mem_cons.mp h).2
theorem z_oH {S : ZH} {x : ZV} {st : List ZV} (h : ∀ v ∈ x :: st, z_ok S v) : z_ok S x := (List.forall_mem_cons.mp h).1
theorem z_oC {S : ZH} {x : ZV} {st : List ZV} (hx : z_ok S x) (h : ∀ v ∈ st, z_ok S v) : ∀ v ∈ x :: st, z_ok S v := List.forall_mem_cons.mpr ⟨hx, h⟩
theorem z_lo_at {ad : Nat → Nat → Nat} {ls : Array Slot} {nL : Nat} {lo : List (Nat × ZV)} (h : lv_has ls nL (z_lo ad lo)) (n : Nat) {i : Nat} {v : ZV} (hn : lo[n]? = some (i, v)) : ls[i]? = some (.val (z_v ad v)) := lv_at h n (by rw [z_lo, List.getElem?_map, hn]; rfl)
def z_put (lo : List (Nat × ZV)) (i : Nat) (v : ZV) : List (Nat × ZV) := (i, v) :: lo.filter (fun q => !(q.1 == i) && !(q.1 + 1 == i && z_cat q.2 == 2))
def z_put2 (lo : List (Nat × ZV)) (i : Nat) (v : ZV) : List (Nat × ZV) := (i, v) :: lo.filter (fun q => !(q.1 == i) && (!(q.1 == i + 1) && !(q.1 + 1 == i && z_cat q.2 == 2)))
theorem z_put_lo (ad : Nat → Nat → Nat) (lo : List (Nat × ZV)) (i : Nat) (v : ZV) : (i, z_v ad v) :: (z_lo ad lo).filter (fun q => !(q.1 == i) && !(q.1 + 1 == i && q.2.category == 2)) = z_lo ad (z_put lo i v) := by
  rw [z_lo, List.filter_map]
  show _ = (i, z_v ad v) :: (lo.filter _).map _
  congr 2
  apply List.filter_congr
  intro q _
  show (!(q.1 == i) && !(q.1 + 1 == i && (z_v ad q.2).category == 2)) = _
  rw [z_cat_v]
theorem z_put2_lo (ad : Nat → Nat → Nat) (lo : List (Nat × ZV)) (i : Nat) (v : ZV) : (i, z_v ad v) :: (z_lo ad lo).filter (fun q => !(q.1 == i) && (!(q.1 == i + 1) && !(q.1 + 1 == i && q.2.category == 2))) = z_lo ad (z_put2 lo i v) := by
  rw [z_lo, List.filter_map]
  show _ = (i, z_v ad v) :: (lo.filter _).map _
  congr 2
  apply List.filter_congr
  intro q _
  show (!(q.1 == i) && (!(q.1 == i + 1) && !(q.1 + 1 == i && (z_v ad q.2).category == 2))) = _
  rw [z_cat_v]
theorem z_put_ok {S : ZH} {lo : List (Nat × ZV)} {i : Nat} {v : ZV} (h : ∀ q ∈ lo, z_ok S q.2) (hv : z_ok S v) : ∀ q ∈ z_put lo i v, z_ok S q.2 := List.forall_mem_cons.mpr ⟨hv, fun q hq => h q (List.mem_filter.mp hq).1⟩
theorem z_put2_ok {S : ZH} {lo : List (Nat × ZV)} {i : Nat} {v : ZV} (h : ∀ q ∈ lo, z_ok S q.2) (hv : z_ok S v) : ∀ q ∈ z_put2 lo i v, z_ok S q.2 := List.forall_mem_cons.mpr ⟨hv, fun q hq => h q (List.mem_filter.mp hq).1⟩
section ZRULES
variable {Y : ZM} {S0 : ZH} {F : ZP} {pc : Nat} {lo lo' : List (Nat × ZV)} {st : List ZV} {S : ZH}
/-- fewer locals -/
theorem x_lo (is : List Nat) (hs : is.filterMap (fun i => lo[i]?) = lo') (k : Wp Y S0 F pc lo' st S) : Wp Y S0 F pc lo st S := by
  intro p l e R s m args below meth c D cA ad0 ad L H locs cells slots ls Q hC hF hS
  have hsub : ∀ q ∈ lo', q ∈ lo := fun q hq => by
    rw [← hs] at hq
    obtain ⟨i, -, hi⟩ := List.mem_filterMap.mp hq
    exact List.mem_of_getElem? hi
  refine k p l e R s m args below meth c D cA ad0 ad L H locs cells slots ls Q hC hF (hS.loc (fun q hq => hS.2.2.2.2.2.2.1 q (hsub q hq)) hS.2.2.2.2.2.2.2.1 ⟨hS.2.2.2.2.2.2.2.2.2.1, hS.2.2.2.2.2.2.2.2.2.2.1, fun q hq => ?_⟩)
  obtain ⟨x, hx, rfl⟩ := List.mem_map.mp hq
  exact hS.2.2.2.2.2.2.2.2.2.2.2 _ (List.mem_map.mpr ⟨x, hsub x hx, rfl⟩)
theorem x_iconst {n : Int} {v : Int32} (d : decode Y.2.1 pc = .ok (.iconst n, 1)) (hv : Int32.ofInt n = v) (k : Wp Y S0 F (pc + 1) lo (z_i v :: st) S) : Wp Y S0 F pc lo (st) S := by
  intro p l e R s m args below meth c D cA ad0 ad L H locs cells slots ls Q hC hF hS
  exact lv_iconst hC.1 hC.2.1 d hv (k p l e R s m args below meth c D cA ad0 ad L H locs cells slots ls Q hC hF (hS.stk z_oI))
theorem x_bipush {n : Int} {v : Int32} (d : decode Y.2.1 pc = .ok (.bipush n, 2)) (hv : (Int8.ofInt n).toInt32 = v) (k : Wp Y S0 F (pc + 2) lo (z_i v :: st) S) : Wp Y S0 F pc lo (st) S := by
  intro p l e R s m args below meth c D cA ad0 ad L H locs cells slots ls Q hC hF hS
  exact lv_bipush hC.1 hC.2.1 d hv (k p l e R s m args below meth c D cA ad0 ad L H locs cells slots ls Q hC hF (hS.stk z_oI))
theorem x_sipush {n : Int} {v : Int32} (d : decode Y.2.1 pc = .ok (.sipush n, 3)) (hv : (Int16.ofInt n).toInt32 = v) (k : Wp Y S0 F (pc + 3) lo (z_i v :: st) S) : Wp Y S0 F pc lo (st) S := by
  intro p l e R s m args below meth c D cA ad0 ad L H locs cells slots ls Q hC hF hS
  exact lv_sipush hC.1 hC.2.1 d hv (k p l e R s m args below meth c D cA ad0 ad L H locs cells slots ls Q hC hF (hS.stk z_oI))
theorem x_lconst {n : Fin 2} {v : Int64} (d : decode Y.2.1 pc = .ok (.lconst n, 1)) (hv : Int64.ofNat (n : Nat) = v) (k : Wp Y S0 F (pc + 1) lo (z_l v :: st) S) : Wp Y S0 F pc lo (st) S := by
  intro p l e R s m args below meth c D cA ad0 ad L H locs cells slots ls Q hC hF hS
  exact lv_lconst hC.1 hC.2.1 d hv (k p l e R s m args below meth c D cA ad0 ad L H locs cells slots ls Q hC hF (hS.stk z_oL))
theorem x_null (kd : Nat) (d : decode Y.2.1 pc = .ok (.aconst_null, 1)) (k : Wp Y S0 F (pc + 1) lo (z_r kd none :: st) S) : Wp Y S0 F pc lo (st) S := by
  intro p l e R s m args below meth c D cA ad0 ad L H locs cells slots ls Q hC hF hS
  exact lv_null hC.1 hC.2.1 d (k p l e R s m args below meth c D cA ad0 ad L H locs cells slots ls Q hC hF (hS.stk (z_oC trivial)))
theorem x_iload_n {n : Fin 4} {i : Nat} {x : Int32} (q : Nat) (d : decode Y.2.1 pc = .ok (.iload_n n, 1)) (hi : (n : Nat) = i) (hl : lo[q]? = some (i, z_i x)) (k : Wp Y S0 F (pc + 1) lo (z_i x :: st) S) : Wp Y S0 F pc lo (st) S := by
  intro p l e R s m args below meth c D cA ad0 ad L H locs cells slots ls Q hC hF hS
  exact lv_iload_n hC.1 hC.2.1 d hi (z_lo_at hS.2.2.2.2.2.2.2.2.2 q hl) (k p l e R s m args below meth c D cA ad0 ad L H locs cells slots ls Q hC hF (hS.stk z_oI))
theorem x_iload {i : Nat} {x : Int32} (q : Nat) (d : decode Y.2.1 pc = .ok (.iload i, 2)) (hl : lo[q]? = some (i, z_i x)) (k : Wp Y S0 F (pc + 2) lo (z_i x :: st) S) : Wp Y S0 F pc lo (st) S := by
  intro p l e R s m args below meth c D cA ad0 ad L H locs cells slots ls Q hC hF hS
  exact lv_iload hC.1 hC.2.1 d (z_lo_at hS.2.2.2.2.2.2.2.2.2 q hl) (k p l e R s m args below meth c D cA ad0 ad L H locs cells slots ls Q hC hF (hS.stk z_oI))
theorem x_lload_n {n : Fin 4} {i : Nat} {x : Int64} (q : Nat) (d : decode Y.2.1 pc = .ok (.lload_n n, 1)) (hi : (n : Nat) = i) (hl : lo[q]? = some (i, z_l x)) (k : Wp Y S0 F (pc + 1) lo (z_l x :: st) S) : Wp Y S0 F pc lo (st) S := by
  intro p l e R s m args below meth c D cA ad0 ad L H locs cells slots ls Q hC hF hS
  exact lv_lload_n hC.1 hC.2.1 d hi (z_lo_at hS.2.2.2.2.2.2.2.2.2 q hl) (k p l e R s m args below meth c D cA ad0 ad L H locs cells slots ls Q hC hF (hS.stk z_oL))
theorem x_lload {i : Nat} {x : Int64} (q : Nat) (d : decode Y.2.1 pc = .ok (.lload i, 2)) (hl : lo[q]? = some (i, z_l x)) (k : Wp Y S0 F (pc + 2) lo (z_l x :: st) S) : Wp Y S0 F pc lo (st) S := by
  intro p l e R s m args below meth c D cA ad0 ad L H locs cells slots ls Q hC hF hS
  exact lv_lload hC.1 hC.2.1 d (z_lo_at hS.2.2.2.2.2.2.2.2.2 q hl) (k p l e R s m args below meth c D cA ad0 ad L H locs cells slots ls Q hC hF (hS.stk z_oL))
theorem x_aload_n {n : Fin 4} {i kd : Nat} {x : Option Nat} (q : Nat) (d : decode Y.2.1 pc = .ok (.aload_n n, 1)) (hi : (n : Nat) = i) (hl : lo[q]? = some (i, z_r kd x)) (k : Wp Y S0 F (pc + 1) lo (z_r kd x :: st) S) : Wp Y S0 F pc lo st S := by
  intro p l e R s m args below meth c D cA ad0 ad L H locs cells slots ls Q hC hF hS
  have h1 := z_lo_at hS.2.2.2.2.2.2.2.2.2 q hl
  have hx : z_ok S (z_r kd x) := hS.2.2.2.2.2.2.1 _ (List.mem_of_getElem? hl)
  have h2 := k p l e R s m args below meth c D cA ad0 ad L H locs cells slots ls Q hC hF (hS.stk (z_oC hx))
  cases x with
  | none => exact lv_aload_nN hC.1 hC.2.1 d hi h1 h2
  | some a => exact lv_aload_n hC.1 hC.2.1 d hi h1 h2
theorem x_aload {i kd : Nat} {x : Option Nat} (q : Nat) (d : decode Y.2.1 pc = .ok (.aload i, 2)) (hl : lo[q]? = some (i, z_r kd x)) (k : Wp Y S0 F (pc + 2) lo (z_r kd x :: st) S) : Wp Y S0 F pc lo st S := by
  intro p l e R s m args below meth c D cA ad0 ad L H locs cells slots ls Q hC hF hS
  have h1 := z_lo_at hS.2.2.2.2.2.2.2.2.2 q hl
  have hx : z_ok S (z_r kd x) := hS.2.2.2.2.2.2.1 _ (List.mem_of_getElem? hl)
  have h2 := k p l e R s m args below meth c D cA ad0 ad L H locs cells slots ls Q hC hF (hS.stk (z_oC hx))
  cases x with
  | none => exact lv_aloadN hC.1 hC.2.1 d h1 h2
  | some a => exact lv_aload hC.1 hC.2.1 d h1 h2
theorem x_istore_n {n : Fin 4} {i : Nat} {x : Int32} (d : decode Y.2.1 pc = .ok (.istore_n n, 1)) (hi : (n : Nat) = i) (hn : i < Y.2.2.1) (hl : z_put lo i (z_i x) = lo') (k : Wp Y S0 F (pc + 1) lo' st S) : Wp Y S0 F pc lo (z_i x :: st) S := by
  intro p l e R s m args below meth c D cA ad0 ad L H locs cells slots ls Q hC hF hS
  subst hl
  exact lv_istore_n hC.1 hC.2.1 d hi hS.2.2.2.2.2.2.2.2.2 hn (z_put_lo ad lo i (z_i x)) (fun ls' hl' => k p l e R s m args below meth c D cA ad0 ad L H locs cells slots ls' Q hC hF (hS.loc (z_put_ok hS.2.2.2.2.2.2.1 trivial) (z_oT hS.2.2.2.2.2.2.2.1) hl'))
theorem x_istore {i : Nat} {x : Int32} (d : decode Y.2.1 pc = .ok (.istore i, 2)) (hn : i < Y.2.2.1) (hl : z_put lo i (z_i x) = lo') (k : Wp Y S0 F (pc + 2) lo' st S) : Wp Y S0 F pc lo (z_i x :: st) S := by
  intro p l e R s m args below meth c D cA ad0 ad L H locs cells slots ls Q hC hF hS
  subst hl
  exact lv_istore hC.1 hC.2.1 d hS.2.2.2.2.2.2.2.2.2 hn (z_put_lo ad lo i (z_i x)) (fun ls' hl' => k p l e R s m args below meth c D cA ad0 ad L H locs cells slots ls' Q hC hF (hS.loc (z_put_ok hS.2.2.2.2.2.2.1 trivial) (z_oT hS.2.2.2.2.2.2.2.1) hl'))
theorem x_lstore_n {n : Fin 4} {i : Nat} {x : Int64} (d : decode Y.2.1 pc = .ok (.lstore_n n, 1)) (hi : (n : Nat) = i) (hn : i + 1 < Y.2.2.1) (hl : z_put2 lo i (z_l x) = lo') (k : Wp Y S0 F (pc + 1) lo' st S) : Wp Y S0 F pc lo (z_l x :: st) S := by
  intro p l e R s m args below meth c D cA ad0 ad L H locs cells slots ls Q hC hF hS
  subst hl
  exact lv_lstore_n hC.1 hC.2.1 d hi hS.2.2.2.2.2.2.2.2.2 hn (z_put2_lo ad lo i (z_l x)) (fun ls' hl' => k p l e R s m args below meth c D cA ad0 ad L H locs cells slots ls' Q hC hF (hS.loc (z_put2_ok hS.2.2.2.2.2.2.1 trivial) (z_oT hS.2.2.2.2.2.2.2.1) hl'))
theorem x_lstore {i : Nat} {x : Int64} (d : decode Y.2.1 pc = .ok (.lstore i, 2)) (hn : i + 1 < Y.2.2.1) (hl : z_put2 lo i (z_l x) = lo') (k : Wp Y S0 F (pc + 2) lo' st S) : Wp Y S0 F pc lo (z_l x :: st) S := by
  intro p l e R s m args below meth c D cA ad0 ad L H locs cells slots ls Q hC hF hS
  subst hl
  exact lv_lstore hC.1 hC.2.1 d hS.2.2.2.2.2.2.2.2.2 hn (z_put2_lo ad lo i (z_l x)) (fun ls' hl' => k p l e R s m args below meth c D cA ad0 ad L H locs cells slots ls' Q hC hF (hS.loc (z_put2_ok hS.2.2.2.2.2.2.1 trivial) (z_oT hS.2.2.2.2.2.2.2.1) hl'))
theorem x_astore_n {n : Fin 4} {i kd : Nat} {x : Option Nat} (d : decode Y.2.1 pc = .ok (.astore_n n, 1)) (hi : (n : Nat) = i) (hn : i < Y.2.2.1) (hl : z_put lo i (z_r kd x) = lo') (k : Wp Y S0 F (pc + 1) lo' st S) : Wp Y S0 F pc lo (z_r kd x :: st) S := by
  intro p l e R s m args below meth c D cA ad0 ad L H locs cells slots ls Q hC hF hS
  subst hl
  have h1 : ∀ ls', lv_has ls' Y.2.2.1 (z_lo ad (z_put lo i (z_r kd x))) → _ := fun ls' hl' => k p l e R s m args below meth c D cA ad0 ad L H locs cells slots ls' Q hC hF (hS.loc (z_put_ok hS.2.2.2.2.2.2.1 (z_oH hS.2.2.2.2.2.2.2.1)) (z_oT hS.2.2.2.2.2.2.2.1) hl')
  have h2 := z_put_lo ad lo i (z_r kd x)
  cases x with
  | none => exact lv_astore_nN hC.1 hC.2.1 d hi hS.2.2.2.2.2.2.2.2.2 hn h2 h1
  | some a => exact lv_astore_n hC.1 hC.2.1 d hi hS.2.2.2.2.2.2.2.2.2 hn h2 h1
theorem x_astore {i kd : Nat} {x : Option Nat} (d : decode Y.2.1 pc = .ok (.astore i, 2)) (hn : i < Y.2.2.1) (hl : z_put lo i (z_r kd x) = lo') (k : Wp Y S0 F (pc + 2) lo' st S) : Wp Y S0 F pc lo (z_r kd x :: st) S := by
  intro p l e R s m args below meth c D cA ad0 ad L H locs cells slots ls Q hC hF hS
  subst hl
  have h1 : ∀ ls', lv_has ls' Y.2.2.1 (z_lo ad (z_put lo i (z_r kd x))) → _ := fun ls' hl' => k p l e R s m args below meth c D cA ad0 ad L H locs cells slots ls' Q hC hF (hS.loc (z_put_ok hS.2.2.2.2.2.2.1 (z_oH hS.2.2.2.2.2.2.2.1)) (z_oT hS.2.2.2.2.2.2.2.1) hl')
  have h2 := z_put_lo ad lo i (z_r kd x)
  cases x with
  | none => exact lv_astoreN hC.1 hC.2.1 d hS.2.2.2.2.2.2.2.2.2 hn h2 h1
  | some a => exact lv_astore hC.1 hC.2.1 d hS.2.2.2.2.2.2.2.2.2 hn h2 h1
theorem x_iinc {i : Nat} {n : Int} {x v : Int32} (q : Nat) (d : decode Y.2.1 pc = .ok (.iinc i n, 3)) (hq : lo[q]? = some (i, z_i x)) (hv : x + Int32.ofInt n = v) (hn : i < Y.2.2.1) (hl : z_put lo i (z_i v) = lo') (k : Wp Y S0 F (pc + 3) lo' st S) : Wp Y S0 F pc lo st S := by
  intro p l e R s m args below meth c D cA ad0 ad L H locs cells slots ls Q hC hF hS
  subst hl
  exact lv_iinc (k := q) hC.1 hC.2.1 d hS.2.2.2.2.2.2.2.2.2 (by rw [z_lo, List.getElem?_map, hq]; rfl) hv hn (z_put_lo ad lo i (z_i v)) (fun ls' hl' => k p l e R s m args below meth c D cA ad0 ad L H locs cells slots ls' Q hC hF (hS.loc (z_put_ok hS.2.2.2.2.2.2.1 trivial) hS.2.2.2.2.2.2.2.1 hl'))
theorem x_iadd {x y : Int32} (d : decode Y.2.1 pc = .ok (.iadd, 1)) (k : Wp Y S0 F (pc + 1) lo (z_i (x + y) :: st) S) : Wp Y S0 F pc lo (z_i y :: z_i x :: st) S := by
  intro p l e R s m args below meth c D cA ad0 ad L H locs cells slots ls Q hC hF hS
  exact lv_iadd hC.1 hC.2.1 d (k p l e R s m args below meth c D cA ad0 ad L H locs cells slots ls Q hC hF (hS.stk (fun h => z_oI (z_oT (z_oT h)))))
theorem x_isub {x y : Int32} (d : decode Y.2.1 pc = .ok (.isub, 1)) (k : Wp Y S0 F (pc + 1) lo (z_i (x - y) :: st) S) : Wp Y S0 F pc lo (z_i y :: z_i x :: st) S := by
  intro p l e R s m args below meth c D cA ad0 ad L H locs cells slots ls Q hC hF hS
  exact lv_isub hC.1 hC.2.1 d (k p l e R s m args below meth c D cA ad0 ad L H locs cells slots ls Q hC hF (hS.stk (fun h => z_oI (z_oT (z_oT h)))))
theorem x_imul {x y : Int32} (d : decode Y.2.1 pc = .ok (.imul, 1)) (k : Wp Y S0 F (pc + 1) lo (z_i (x * y) :: st) S) : Wp Y S0 F pc lo (z_i y :: z_i x :: st) S := by
  intro p l e R s m args below meth c D cA ad0 ad L H locs cells slots ls Q hC hF hS
  exact lv_imul hC.1 hC.2.1 d (k p l e R s m args below meth c D cA ad0 ad L H locs cells slots ls Q hC hF (hS.stk (fun h => z_oI (z_oT (z_oT h)))))
theorem x_iand {x y : Int32} (d : decode Y.2.1 pc = .ok (.iand, 1)) (k : Wp Y S0 F (pc + 1) lo (z_i (x &&& y) :: st) S) : Wp Y S0 F pc lo (z_i y :: z_i x :: st) S := by
  intro p l e R s m args below meth c D cA ad0 ad L H locs cells slots ls Q hC hF hS
  exact lv_iand hC.1 hC.2.1 d (k p l e R s m args below meth c D cA ad0 ad L H locs cells slots ls Q hC hF (hS.stk (fun h => z_oI (z_oT (z_oT h)))))
theorem x_ior {x y : Int32} (d : decode Y.2.1 pc = .ok (.ior, 1)) (k : Wp Y S0 F (pc + 1) lo (z_i (x ||| y) :: st) S) : Wp Y S0 F pc lo (z_i y :: z_i x :: st) S := by
  intro p l e R s m args below meth c D cA ad0 ad L H locs cells slots ls Q hC hF hS
  exact lv_ior hC.1 hC.2.1 d (k p l e R s m args below meth c D cA ad0 ad L H locs cells slots ls Q hC hF (hS.stk (fun h => z_oI (z_oT (z_oT h)))))
theorem x_ixor {x y : Int32} (d : decode Y.2.1 pc = .ok (.ixor, 1)) (k : Wp Y S0 F (pc + 1) lo (z_i (x ^^^ y) :: st) S) : Wp Y S0 F pc lo (z_i y :: z_i x :: st) S := by
  intro p l e R s m args below meth c D cA ad0 ad L H locs cells slots ls Q hC hF hS
  exact lv_ixor hC.1 hC.2.1 d (k p l e R s m args below meth c D cA ad0 ad L H locs cells slots ls Q hC hF (hS.stk (fun h => z_oI (z_oT (z_oT h)))))
theorem x_ishl {x y : Int32} (d : decode Y.2.1 pc = .ok (.ishl, 1)) (k : Wp Y S0 F (pc + 1) lo (z_i (x <<< (y &&& 31)) :: st) S) : Wp Y S0 F pc lo (z_i y :: z_i x :: st) S := by
  intro p l e R s m args below meth c D cA ad0 ad L H locs cells slots ls Q hC hF hS
  exact lv_ishl hC.1 hC.2.1 d (k p l e R s m args below meth c D cA ad0 ad L H locs cells slots ls Q hC hF (hS.stk (fun h => z_oI (z_oT (z_oT h)))))
theorem x_ishr {x y : Int32} (d : decode Y.2.1 pc = .ok (.ishr, 1)) (k : Wp Y S0 F (pc + 1) lo (z_i (x >>> (y &&& 31)) :: st) S) : Wp Y S0 F pc lo (z_i y :: z_i x :: st) S := by
  intro p l e R s m args below meth c D cA ad0 ad L H locs cells slots ls Q hC hF hS
  exact lv_ishr hC.1 hC.2.1 d (k p l e R s m args below meth c D cA ad0 ad L H locs cells slots ls Q hC hF (hS.stk (fun h => z_oI (z_oT (z_oT h)))))
theorem x_iushr {x y : Int32} (d : decode Y.2.1 pc = .ok (.iushr, 1)) (k : Wp Y S0 F (pc + 1) lo (z_i ((x.toUInt32 >>> (y.toUInt32 &&& Int32.toUInt32 31)).toInt32) :: st) S) : Wp Y S0 F pc lo (z_i y :: z_i x :: st) S := by
  intro p l e R s m args below meth c D cA ad0 ad L H locs cells slots ls Q hC hF hS
  exact lv_iushr hC.1 hC.2.1 d rfl (k p l e R s m args below meth c D cA ad0 ad L H locs cells slots ls Q hC hF (hS.stk (fun h => z_oI (z_oT (z_oT h)))))
theorem x_idiv {x y : Int32} (d : decode Y.2.1 pc = .ok (.idiv, 1)) (hne : ¬ y = 0) (k : Wp Y S0 F (pc + 1) lo (z_i (x / y) :: st) S) : Wp Y S0 F pc lo (z_i y :: z_i x :: st) S := by
  intro p l e R s m args below meth c D cA ad0 ad L H locs cells slots ls Q hC hF hS
  exact lv_idiv hC.1 hC.2.1 d hne (k p l e R s m args below meth c D cA ad0 ad L H locs cells slots ls Q hC hF (hS.stk (fun h => z_oI (z_oT (z_oT h)))))
theorem x_irem {x y : Int32} (d : decode Y.2.1 pc = .ok (.irem, 1)) (hne : ¬ y = 0) (k : Wp Y S0 F (pc + 1) lo (z_i (x - x / y * y) :: st) S) : Wp Y S0 F pc lo (z_i y :: z_i x :: st) S := by
  intro p l e R s m args below meth c D cA ad0 ad L H locs cells slots ls Q hC hF hS
  exact lv_irem hC.1 hC.2.1 d hne (k p l e R s m args below meth c D cA ad0 ad L H locs cells slots ls Q hC hF (hS.stk (fun h => z_oI (z_oT (z_oT h)))))
theorem x_ineg {x : Int32} (d : decode Y.2.1 pc = .ok (.ineg, 1)) (k : Wp Y S0 F (pc + 1) lo (z_i (-x) :: st) S) : Wp Y S0 F pc lo (z_i x :: st) S := by
  intro p l e R s m args below meth c D cA ad0 ad L H locs cells slots ls Q hC hF hS
  exact lv_ineg hC.1 hC.2.1 d (k p l e R s m args below meth c D cA ad0 ad L H locs cells slots ls Q hC hF (hS.stk (fun h => z_oI (z_oT h))))
theorem x_ladd {x y : Int64} (d : decode Y.2.1 pc = .ok (.ladd, 1)) (k : Wp Y S0 F (pc + 1) lo (z_l (x + y) :: st) S) : Wp Y S0 F pc lo (z_l y :: z_l x :: st) S := by
  intro p l e R s m args below meth c D cA ad0 ad L H locs cells slots ls Q hC hF hS
  exact lv_ladd hC.1 hC.2.1 d (k p l e R s m args below meth c D cA ad0 ad L H locs cells slots ls Q hC hF (hS.stk (fun h => z_oL (z_oT (z_oT h)))))
theorem x_lsub {x y : Int64} (d : decode Y.2.1 pc = .ok (.lsub, 1)) (k : Wp Y S0 F (pc + 1) lo (z_l (x - y) :: st) S) : Wp Y S0 F pc lo (z_l y :: z_l x :: st) S := by
  intro p l e R s m args below meth c D cA ad0 ad L H locs cells slots ls Q hC hF hS
  exact lv_lsub hC.1 hC.2.1 d (k p l e R s m args below meth c D cA ad0 ad L H locs cells slots ls Q hC hF (hS.stk (fun h => z_oL (z_oT (z_oT h)))))
theorem x_land {x y : Int64} (d : decode Y.2.1 pc = .ok (.land, 1)) (k : Wp Y S0 F (pc + 1) lo (z_l (x &&& y) :: st) S) : Wp Y S0 F pc lo (z_l y :: z_l x :: st) S := by
  intro p l e R s m args below meth c D cA ad0 ad L H locs cells slots ls Q hC hF hS
  exact lv_land hC.1 hC.2.1 d (k p l e R s m args below meth c D cA ad0 ad L H locs cells slots ls Q hC hF (hS.stk (fun h => z_oL (z_oT (z_oT h)))))
theorem x_lor {x y : Int64} (d : decode Y.2.1 pc = .ok (.lor, 1)) (k : Wp Y S0 F (pc + 1) lo (z_l (x ||| y) :: st) S) : Wp Y S0 F pc lo (z_l y :: z_l x :: st) S := by
  intro p l e R s m args below meth c D cA ad0 ad L H locs cells slots ls Q hC hF hS
  exact lv_lor hC.1 hC.2.1 d (k p l e R s m args below meth c D cA ad0 ad L H locs cells slots ls Q hC hF (hS.stk (fun h => z_oL (z_oT (z_oT h)))))
theorem x_lxor {x y : Int64} (d : decode Y.2.1 pc = .ok (.lxor, 1)) (k : Wp Y S0 F (pc + 1) lo (z_l (x ^^^ y) :: st) S) : Wp Y S0 F pc lo (z_l y :: z_l x :: st) S := by
  intro p l e R s m args below meth c D cA ad0 ad L H locs cells slots ls Q hC hF hS
  exact lv_lxor hC.1 hC.2.1 d (k p l e R s m args below meth c D cA ad0 ad L H locs cells slots ls Q hC hF (hS.stk (fun h => z_oL (z_oT (z_oT h)))))
theorem x_lushr {x : Int64} {y : Int32} (d : decode Y.2.1 pc = .ok (.lushr, 1)) (k : Wp Y S0 F (pc + 1) lo (z_l ((x.toUInt64 >>> (y.toInt64.toUInt64 &&& Int64.toUInt64 63)).toInt64) :: st) S) : Wp Y S0 F pc lo (z_i y :: z_l x :: st) S := by
  intro p l e R s m args below meth c D cA ad0 ad L H locs cells slots ls Q hC hF hS
  exact lv_lushr hC.1 hC.2.1 d rfl (k p l e R s m args below meth c D cA ad0 ad L H locs cells slots ls Q hC hF (hS.stk (fun h => z_oL (z_oT (z_oT h)))))
theorem x_lshl {x : Int64} {y : Int32} (d : decode Y.2.1 pc = .ok (.lshl, 1)) (k : Wp Y S0 F (pc + 1) lo (z_l (x <<< (y.toInt64 &&& 63)) :: st) S) : Wp Y S0 F pc lo (z_i y :: z_l x :: st) S := by
  intro p l e R s m args below meth c D cA ad0 ad L H locs cells slots ls Q hC hF hS
  exact lv_lshl hC.1 hC.2.1 d rfl (k p l e R s m args below meth c D cA ad0 ad L H locs cells slots ls Q hC hF (hS.stk (fun h => z_oL (z_oT (z_oT h)))))
theorem x_lcmp {x y : Int64} (d : decode Y.2.1 pc = .ok (.lcmp, 1)) (k : Wp Y S0 F (pc + 1) lo (z_i (lg_cmp x y) :: st) S) : Wp Y S0 F pc lo (z_l y :: z_l x :: st) S := by
  intro p l e R s m args below meth c D cA ad0 ad L H locs cells slots ls Q hC hF hS
  exact W.lcmp hC.1 hC.2.1 d (k p l e R s m args below meth c D cA ad0 ad L H locs cells slots ls Q hC hF (hS.stk (fun h => z_oI (z_oT (z_oT h)))))
theorem x_i2l {x : Int32} (d : decode Y.2.1 pc = .ok (.i2l, 1)) (k : Wp Y S0 F (pc + 1) lo (z_l x.toInt64 :: st) S) : Wp Y S0 F pc lo (z_i x :: st) S := by
  intro p l e R s m args below meth c D cA ad0 ad L H locs cells slots ls Q hC hF hS
  exact lv_i2l hC.1 hC.2.1 d rfl (k p l e R s m args below meth c D cA ad0 ad L H locs cells slots ls Q hC hF (hS.stk (fun h => z_oL (z_oT h))))
theorem x_l2i {x : Int64} (d : decode Y.2.1 pc = .ok (.l2i, 1)) (k : Wp Y S0 F (pc + 1) lo (z_i x.toInt32 :: st) S) : Wp Y S0 F pc lo (z_l x :: st) S := by
  intro p l e R s m args below meth c D cA ad0 ad L H locs cells slots ls Q hC hF hS
  exact lv_l2i hC.1 hC.2.1 d rfl (k p l e R s m args below meth c D cA ad0 ad L H locs cells slots ls Q hC hF (hS.stk (fun h => z_oI (z_oT h))))
theorem x_i2b {x : Int32} (d : decode Y.2.1 pc = .ok (.i2b, 1)) (k : Wp Y S0 F (pc + 1) lo (z_i x.toInt8.toInt32 :: st) S) : Wp Y S0 F pc lo (z_i x :: st) S := by
  intro p l e R s m args below meth c D cA ad0 ad L H locs cells slots ls Q hC hF hS
  exact lv_i2b hC.1 hC.2.1 d rfl (k p l e R s m args below meth c D cA ad0 ad L H locs cells slots ls Q hC hF (hS.stk (fun h => z_oI (z_oT h))))
theorem x_dup {v : ZV} (d : decode Y.2.1 pc = .ok (.dup, 1)) (hc : z_cat v = 1) (k : Wp Y S0 F (pc + 1) lo (v :: v :: st) S) : Wp Y S0 F pc lo (v :: st) S := by
  intro p l e R s m args below meth c D cA ad0 ad L H locs cells slots ls Q hC hF hS
  exact lv_dup hC.1 hC.2.1 d ((z_cat_v ad v).trans hc) (k p l e R s m args below meth c D cA ad0 ad L H locs cells slots ls Q hC hF (hS.stk (fun h => z_oC (z_oH h) h)))
theorem x_pop {v : ZV} (d : decode Y.2.1 pc = .ok (.pop, 1)) (hc : z_cat v = 1) (k : Wp Y S0 F (pc + 1) lo (st) S) : Wp Y S0 F pc lo (v :: st) S := by
  intro p l e R s m args below meth c D cA ad0 ad L H locs cells slots ls Q hC hF hS
  exact lv_pop hC.1 hC.2.1 d ((z_cat_v ad v).trans hc) (k p l e R s m args below meth c D cA ad0 ad L H locs cells slots ls Q hC hF (hS.stk z_oT))
theorem x_dup2 {v w : ZV} (d : decode Y.2.1 pc = .ok (.dup2, 1)) (hc : z_cat v = 1) (hw : z_cat w = 1) (k : Wp Y S0 F (pc + 1) lo (v :: w :: v :: w :: st) S) : Wp Y S0 F pc lo (v :: w :: st) S := by
  intro p l e R s m args below meth c D cA ad0 ad L H locs cells slots ls Q hC hF hS
  exact lv_dup2_11 hC.1 hC.2.1 d ((z_cat_v ad v).trans hc) ((z_cat_v ad w).trans hw) (k p l e R s m args below meth c D cA ad0 ad L H locs cells slots ls Q hC hF (hS.stk (fun h => z_oC (z_oH h) (z_oC (z_oH (z_oT h)) h))))
theorem x_if_eq {α : Type} {x : Int32} {off : Int} {tgt : Nat} {A B : Option α} {z : α} (d : decode Y.2.1 pc = .ok (.ifCond .eq off, 3)) (ht : (pc : Int) + off = (tgt : Int)) (h : (if x = 0 then A else B) = some z) (kt : A = some z → Wp Y S0 F tgt lo st S) (kf : B = some z → Wp Y S0 F (pc + 3) lo st S) : Wp Y S0 F pc lo (z_i x :: st) S := by
  intro p l e R s m args below meth c D cA ad0 ad L H locs cells slots ls Q hC hF hS
  exact lv_if_eq hC.1 hC.2.1 d ht (fun q => kt (by rw [if_pos q] at h; exact h) p l e R s m args below meth c D cA ad0 ad L H locs cells slots ls Q hC hF (hS.stk z_oT)) (fun q => kf (by rw [if_neg (by first | exact q | exact fun g => g q)] at h; exact h) p l e R s m args below meth c D cA ad0 ad L H locs cells slots ls Q hC hF (hS.stk z_oT))
theorem x_if_ne {α : Type} {x : Int32} {off : Int} {tgt : Nat} {A B : Option α} {z : α} (d : decode Y.2.1 pc = .ok (.ifCond .ne off, 3)) (ht : (pc : Int) + off = (tgt : Int)) (h : (if ¬ x = 0 then A else B) = some z) (kt : A = some z → Wp Y S0 F tgt lo st S) (kf : B = some z → Wp Y S0 F (pc + 3) lo st S) : Wp Y S0 F pc lo (z_i x :: st) S := by
  intro p l e R s m args below meth c D cA ad0 ad L H locs cells slots ls Q hC hF hS
  exact lv_if_ne hC.1 hC.2.1 d ht (fun q => kt (by rw [if_pos q] at h; exact h) p l e R s m args below meth c D cA ad0 ad L H locs cells slots ls Q hC hF (hS.stk z_oT)) (fun q => kf (by rw [if_neg (by first | exact q | exact fun g => g q)] at h; exact h) p l e R s m args below meth c D cA ad0 ad L H locs cells slots ls Q hC hF (hS.stk z_oT))
theorem x_if_lt {α : Type} {x : Int32} {off : Int} {tgt : Nat} {A B : Option α} {z : α} (d : decode Y.2.1 pc = .ok (.ifCond .lt off, 3)) (ht : (pc : Int) + off = (tgt : Int)) (h : (if x < 0 then A else B) = some z) (kt : A = some z → Wp Y S0 F tgt lo st S) (kf : B = some z → Wp Y S0 F (pc + 3) lo st S) : Wp Y S0 F pc lo (z_i x :: st) S := by
  intro p l e R s m args below meth c D cA ad0 ad L H locs cells slots ls Q hC hF hS
  exact lv_if_lt hC.1 hC.2.1 d ht (fun q => kt (by rw [if_pos q] at h; exact h) p l e R s m args below meth c D cA ad0 ad L H locs cells slots ls Q hC hF (hS.stk z_oT)) (fun q => kf (by rw [if_neg (by first | exact q | exact fun g => g q)] at h; exact h) p l e R s m args below meth c D cA ad0 ad L H locs cells slots ls Q hC hF (hS.stk z_oT))
theorem x_if_ge {α : Type} {x : Int32} {off : Int} {tgt : Nat} {A B : Option α} {z : α} (d : decode Y.2.1 pc = .ok (.ifCond .ge off, 3)) (ht : (pc : Int) + off = (tgt : Int)) (h : (if 0 ≤ x then A else B) = some z) (kt : A = some z → Wp Y S0 F tgt lo st S) (kf : B = some z → Wp Y S0 F (pc + 3) lo st S) : Wp Y S0 F pc lo (z_i x :: st) S := by
  intro p l e R s m args below meth c D cA ad0 ad L H locs cells slots ls Q hC hF hS
  exact lv_if_ge hC.1 hC.2.1 d ht (fun q => kt (by rw [if_pos q] at h; exact h) p l e R s m args below meth c D cA ad0 ad L H locs cells slots ls Q hC hF (hS.stk z_oT)) (fun q => kf (by rw [if_neg (by first | exact q | exact fun g => g q)] at h; exact h) p l e R s m args below meth c D cA ad0 ad L H locs cells slots ls Q hC hF (hS.stk z_oT))
theorem x_if_gt {α : Type} {x : Int32} {off : Int} {tgt : Nat} {A B : Option α} {z : α} (d : decode Y.2.1 pc = .ok (.ifCond .gt off, 3)) (ht : (pc : Int) + off = (tgt : Int)) (h : (if 0 < x then A else B) = some z) (kt : A = some z → Wp Y S0 F tgt lo st S) (kf : B = some z → Wp Y S0 F (pc + 3) lo st S) : Wp Y S0 F pc lo (z_i x :: st) S := by
  intro p l e R s m args below meth c D cA ad0 ad L H locs cells slots ls Q hC hF hS
  exact lv_if_gt hC.1 hC.2.1 d ht (fun q => kt (by rw [if_pos q] at h; exact h) p l e R s m args below meth c D cA ad0 ad L H locs cells slots ls Q hC hF (hS.stk z_oT)) (fun q => kf (by rw [if_neg (by first | exact q | exact fun g => g q)] at h; exact h) p l e R s m args below meth c D cA ad0 ad L H locs cells slots ls Q hC hF (hS.stk z_oT))
theorem x_if_le {α : Type} {x : Int32} {off : Int} {tgt : Nat} {A B : Option α} {z : α} (d : decode Y.2.1 pc = .ok (.ifCond .le off, 3)) (ht : (pc : Int) + off = (tgt : Int)) (h : (if x ≤ 0 then A else B) = some z) (kt : A = some z → Wp Y S0 F tgt lo st S) (kf : B = some z → Wp Y S0 F (pc + 3) lo st S) : Wp Y S0 F pc lo (z_i x :: st) S := by
  intro p l e R s m args below meth c D cA ad0 ad L H locs cells slots ls Q hC hF hS
  exact lv_if_le hC.1 hC.2.1 d ht (fun q => kt (by rw [if_pos q] at h; exact h) p l e R s m args below meth c D cA ad0 ad L H locs cells slots ls Q hC hF (hS.stk z_oT)) (fun q => kf (by rw [if_neg (by first | exact q | exact fun g => g q)] at h; exact h) p l e R s m args below meth c D cA ad0 ad L H locs cells slots ls Q hC hF (hS.stk z_oT))
theorem x_ic_eq {α : Type} {x y : Int32} {off : Int} {tgt : Nat} {A B : Option α} {z : α} (d : decode Y.2.1 pc = .ok (.if_icmp .eq off, 3)) (ht : (pc : Int) + off = (tgt : Int)) (h : (if x = y then A else B) = some z) (kt : A = some z → Wp Y S0 F tgt lo st S) (kf : B = some z → Wp Y S0 F (pc + 3) lo st S) : Wp Y S0 F pc lo (z_i y :: z_i x :: st) S := by
  intro p l e R s m args below meth c D cA ad0 ad L H locs cells slots ls Q hC hF hS
  exact lv_icmp_eq hC.1 hC.2.1 d ht (fun q => kt (by rw [if_pos q] at h; exact h) p l e R s m args below meth c D cA ad0 ad L H locs cells slots ls Q hC hF (hS.stk (fun h => z_oT (z_oT h)))) (fun q => kf (by rw [if_neg (by first | exact q | exact fun g => g q)] at h; exact h) p l e R s m args below meth c D cA ad0 ad L H locs cells slots ls Q hC hF (hS.stk (fun h => z_oT (z_oT h))))
theorem x_ic_ne {α : Type} {x y : Int32} {off : Int} {tgt : Nat} {A B : Option α} {z : α} (d : decode Y.2.1 pc = .ok (.if_icmp .ne off, 3)) (ht : (pc : Int) + off = (tgt : Int)) (h : (if ¬ x = y then A else B) = some z) (kt : A = some z → Wp Y S0 F tgt lo st S) (kf : B = some z → Wp Y S0 F (pc + 3) lo st S) : Wp Y S0 F pc lo (z_i y :: z_i x :: st) S := by
  intro p l e R s m args below meth c D cA ad0 ad L H locs cells slots ls Q hC hF hS
  exact lv_icmp_ne hC.1 hC.2.1 d ht (fun q => kt (by rw [if_pos q] at h; exact h) p l e R s m args below meth c D cA ad0 ad L H locs cells slots ls Q hC hF (hS.stk (fun h => z_oT (z_oT h)))) (fun q => kf (by rw [if_neg (by first | exact q | exact fun g => g q)] at h; exact h) p l e R s m args below meth c D cA ad0 ad L H locs cells slots ls Q hC hF (hS.stk (fun h => z_oT (z_oT h))))
theorem x_ic_lt {α : Type} {x y : Int32} {off : Int} {tgt : Nat} {A B : Option α} {z : α} (d : decode Y.2.1 pc = .ok (.if_icmp .lt off, 3)) (ht : (pc : Int) + off = (tgt : Int)) (h : (if x < y then A else B) = some z) (kt : A = some z → Wp Y S0 F tgt lo st S) (kf : B = some z → Wp Y S0 F (pc + 3) lo st S) : Wp Y S0 F pc lo (z_i y :: z_i x :: st) S := by
  intro p l e R s m args below meth c D cA ad0 ad L H locs cells slots ls Q hC hF hS
  exact lv_icmp_lt hC.1 hC.2.1 d ht (fun q => kt (by rw [if_pos q] at h; exact h) p l e R s m args below meth c D cA ad0 ad L H locs cells slots ls Q hC hF (hS.stk (fun h => z_oT (z_oT h)))) (fun q => kf (by rw [if_neg (by first | exact q | exact fun g => g q)] at h; exact h) p l e R s m args below meth c D cA ad0 ad L H locs cells slots ls Q hC hF (hS.stk (fun h => z_oT (z_oT h))))
theorem x_ic_ge {α : Type} {x y : Int32} {off : Int} {tgt : Nat} {A B : Option α} {z : α} (d : decode Y.2.1 pc = .ok (.if_icmp .ge off, 3)) (ht : (pc : Int) + off = (tgt : Int)) (h : (if y ≤ x then A else B) = some z) (kt : A = some z → Wp Y S0 F tgt lo st S) (kf : B = some z → Wp Y S0 F (pc + 3) lo st S) : Wp Y S0 F pc lo (z_i y :: z_i x :: st) S := by
  intro p l e R s m args below meth c D cA ad0 ad L H locs cells slots ls Q hC hF hS
  exact lv_icmp_ge hC.1 hC.2.1 d ht (fun q => kt (by rw [if_pos q] at h; exact h) p l e R s m args below meth c D cA ad0 ad L H locs cells slots ls Q hC hF (hS.stk (fun h => z_oT (z_oT h)))) (fun q => kf (by rw [if_neg (by first | exact q | exact fun g => g q)] at h; exact h) p l e R s m args below meth c D cA ad0 ad L H locs cells slots ls Q hC hF (hS.stk (fun h => z_oT (z_oT h))))
theorem x_ic_gt {α : Type} {x y : Int32} {off : Int} {tgt : Nat} {A B : Option α} {z : α} (d : decode Y.2.1 pc = .ok (.if_icmp .gt off, 3)) (ht : (pc : Int) + off = (tgt : Int)) (h : (if y < x then A else B) = some z) (kt : A = some z → Wp Y S0 F tgt lo st S) (kf : B = some z → Wp Y S0 F (pc + 3) lo st S) : Wp Y S0 F pc lo (z_i y :: z_i x :: st) S := by
  intro p l e R s m args below meth c D cA ad0 ad L H locs cells slots ls Q hC hF hS
  exact lv_icmp_gt hC.1 hC.2.1 d ht (fun q => kt (by rw [if_pos q] at h; exact h) p l e R s m args below meth c D cA ad0 ad L H locs cells slots ls Q hC hF (hS.stk (fun h => z_oT (z_oT h)))) (fun q => kf (by rw [if_neg (by first | exact q | exact fun g => g q)] at h; exact h) p l e R s m args below meth c D cA ad0 ad L H locs cells slots ls Q hC hF (hS.stk (fun h => z_oT (z_oT h))))
theorem x_ic_le {α : Type} {x y : Int32} {off : Int} {tgt : Nat} {A B : Option α} {z : α} (d : decode Y.2.1 pc = .ok (.if_icmp .le off, 3)) (ht : (pc : Int) + off = (tgt : Int)) (h : (if x ≤ y then A else B) = some z) (kt : A = some z → Wp Y S0 F tgt lo st S) (kf : B = some z → Wp Y S0 F (pc + 3) lo st S) : Wp Y S0 F pc lo (z_i y :: z_i x :: st) S := by
  intro p l e R s m args below meth c D cA ad0 ad L H locs cells slots ls Q hC hF hS
  exact lv_icmp_le hC.1 hC.2.1 d ht (fun q => kt (by rw [if_pos q] at h; exact h) p l e R s m args below meth c D cA ad0 ad L H locs cells slots ls Q hC hF (hS.stk (fun h => z_oT (z_oT h)))) (fun q => kf (by rw [if_neg (by first | exact q | exact fun g => g q)] at h; exact h) p l e R s m args below meth c D cA ad0 ad L H locs cells slots ls Q hC hF (hS.stk (fun h => z_oT (z_oT h))))
theorem x_goto {off : Int} {tgt : Nat} (d : decode Y.2.1 pc = .ok (.goto off, 3)) (ht : (pc : Int) + off = (tgt : Int)) (k : Wp Y S0 F tgt lo st S) : Wp Y S0 F pc lo st S := by
  intro p l e R s m args below meth c D cA ad0 ad L H locs cells slots ls Q hC hF hS
  exact lv_goto hC.1 hC.2.1 d ht (k p l e R s m args below meth c D cA ad0 ad L H locs cells slots ls Q hC hF hS)
theorem x_ifnonnull {α : Type} {kd : Nat} {x : Option Nat} {off : Int} {tgt : Nat} {A B : Option α} {z : α} (d : decode Y.2.1 pc = .ok (.ifnonnull off, 3)) (ht : (pc : Int) + off = (tgt : Int)) (h : (if x = none then B else A) = some z) (kt : A = some z → Wp Y S0 F tgt lo st S) (kf : B = some z → Wp Y S0 F (pc + 3) lo st S) : Wp Y S0 F pc lo (z_r kd x :: st) S := by
  intro p l e R s m args below meth c D cA ad0 ad L H locs cells slots ls Q hC hF hS
  cases x with
  | none => exact lv_ifnonnullN hC.1 hC.2.1 d (kf (by rw [if_pos rfl] at h; exact h) p l e R s m args below meth c D cA ad0 ad L H locs cells slots ls Q hC hF (hS.stk z_oT))
  | some a => exact lv_ifnonnull hC.1 hC.2.1 d ht (kt (by rw [if_neg (by simp)] at h; exact h) p l e R s m args below meth c D cA ad0 ad L H locs cells slots ls Q hC hF (hS.stk z_oT))
theorem x_ifnull {α : Type} {kd : Nat} {x : Option Nat} {off : Int} {tgt : Nat} {A B : Option α} {z : α} (d : decode Y.2.1 pc = .ok (.ifnull off, 3)) (ht : (pc : Int) + off = (tgt : Int)) (h : (if x = none then A else B) = some z) (kt : A = some z → Wp Y S0 F tgt lo st S) (kf : B = some z → Wp Y S0 F (pc + 3) lo st S) : Wp Y S0 F pc lo (z_r kd x :: st) S := by
  intro p l e R s m args below meth c D cA ad0 ad L H locs cells slots ls Q hC hF hS
  cases x with
  | none => exact lv_ifnullN hC.1 hC.2.1 d ht (kt (by rw [if_pos rfl] at h; exact h) p l e R s m args below meth c D cA ad0 ad L H locs cells slots ls Q hC hF (hS.stk z_oT))
  | some a => exact lv_ifnull hC.1 hC.2.1 d (kf (by rw [if_neg (by simp)] at h; exact h) p l e R s m args below meth c D cA ad0 ad L H locs cells slots ls Q hC hF (hS.stk z_oT))
theorem x_ldc {idx : Nat} {v : Int32} (d : decode Y.2.1 pc = .ok (.ldc idx, 2)) (hw : Cond.constant Y.1.cls idx v ∈ lw_tbl) (k : Wp Y S0 F (pc + 2) lo (z_i v :: st) S) : Wp Y S0 F pc lo st S := by
  intro p l e R s m args below meth c D cA ad0 ad L H locs cells slots ls Q hC hF hS
  exact lv_ldc hC.1 hC.2.1 hC.2.2.2.2.2.1 (hC.2.2.2.2.2.2.1.1 _ hw (good_of_word rfl) _) d (k p l e R s m args below meth c D cA ad0 ad L H locs cells slots ls Q hC hF (hS.stk z_oI))
theorem x_ldcw {idx : Nat} {v : Int32} (d : decode Y.2.1 pc = .ok (.ldc_w idx, 3)) (hw : Cond.constant Y.1.cls idx v ∈ lw_tbl) (k : Wp Y S0 F (pc + 3) lo (z_i v :: st) S) : Wp Y S0 F pc lo st S := by
  intro p l e R s m args below meth c D cA ad0 ad L H locs cells slots ls Q hC hF hS
  exact lv_ldcw hC.1 hC.2.1 hC.2.2.2.2.2.1 (hC.2.2.2.2.2.2.1.1 _ hw (good_of_word rfl) _) d (k p l e R s m args below meth c D cA ad0 ad L H locs cells slots ls Q hC hF (hS.stk z_oI))
theorem x_ldc2 {idx : Nat} {v : Int64} (d : decode Y.2.1 pc = .ok (.ldc2_w idx, 3)) (hw : Cond.constantLong Y.1.cls idx v ∈ lw_tbl) (k : Wp Y S0 F (pc + 3) lo (z_l v :: st) S) : Wp Y S0 F pc lo st S := by
  intro p l e R s m args below meth c D cA ad0 ad L H locs cells slots ls Q hC hF hS
  exact lv_ldc2 hC.1 hC.2.1 hC.2.2.2.2.2.1 (hC.2.2.2.2.2.2.1.1 _ hw (good_of_word rfl) _) d (k p l e R s m args below meth c D cA ad0 ad L H locs cells slots ls Q hC hF (hS.stk z_oL))
theorem x_tabIn {dflt a b : Int} {offs : Array Int} {len : Nat} {x y : Int32} {off : Int} {tgt : Nat} (d : decode Y.2.1 pc = .ok (.tableswitch dflt a b offs, len)) (hx : x = y) (h1 : ¬ y.toInt < a) (h2 : ¬ b < y.toInt) (ho : offs[(y.toInt - a).toNat]? = some off) (ht : (pc : Int) + off = (tgt : Int)) (k : Wp Y S0 F tgt lo st S) : Wp Y S0 F pc lo (z_i x :: st) S := by
  intro p l e R s m args below meth c D cA ad0 ad L H locs cells slots ls Q hC hF hS
  subst hx
  exact lv_tableIn hC.1 hC.2.1 d h1 h2 ho ht (k p l e R s m args below meth c D cA ad0 ad L H locs cells slots ls Q hC hF (hS.stk z_oT))
theorem x_tabOut {dflt a b : Int} {offs : Array Int} {len : Nat} {x : Int32} {tgt : Nat} (d : decode Y.2.1 pc = .ok (.tableswitch dflt a b offs, len)) (h : x.toInt < a ∨ b < x.toInt) (ht : (pc : Int) + dflt = (tgt : Int)) (k : Wp Y S0 F tgt lo st S) : Wp Y S0 F pc lo (z_i x :: st) S := by
  intro p l e R s m args below meth c D cA ad0 ad L H locs cells slots ls Q hC hF hS
  exact lv_tableOut hC.1 hC.2.1 d h ht (k p l e R s m args below meth c D cA ad0 ad L H locs cells slots ls Q hC hF (hS.stk z_oT))
theorem x_look {dflt : Int} {ps : Array (Int × Int)} {len : Nat} {x : Int32} {off : Int} {tgt : Nat} (d : decode Y.2.1 pc = .ok (.lookupswitch dflt ps, len)) (hp : (ps.toList.zip (ps.toList.drop 1)).all (fun (a, next) => a.1 < next.1) = true) (ho : Op.lookupswitch.offset ps.toList dflt x.toInt = off) (ht : (pc : Int) + off = (tgt : Int)) (k : Wp Y S0 F tgt lo st S) : Wp Y S0 F pc lo (z_i x :: st) S := by
  intro p l e R s m args below meth c D cA ad0 ad L H locs cells slots ls Q hC hF hS
  exact lv_lookup hC.1 hC.2.1 d hp ho ht (k p l e R s m args below meth c D cA ad0 ad L H locs cells slots ls Q hC hF (hS.stk z_oT))
end ZRULES
end
