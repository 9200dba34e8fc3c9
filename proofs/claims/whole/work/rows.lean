section
-- ===== PART A: goes FIRST, ahead of the names: the tables' words, and 'selects' of the private methods out of them =====
/-- a private method of a class that the tables say can be made, by its rows of tables_1 -/
def lw_okq (q : MethodName × Nat) : Prop := (q.1.cls ≠ "java/lang/invoke/MethodHandle" ∧ q.1.cls ≠ "java/lang/invoke/VarHandle") ∧ Cond.instantiable q.1.cls q.2 ∈ tables_1 ∧ Cond.privateMethod q.1 ∈ tables_1 ∧ Cond.instanceMethod q.1 ∈ tables_1
theorem lw_p0 : lw_okq (⟨"DollCongress$Text", "skipBlanks", "()V"⟩, 5) := ⟨⟨by decide +kernel, by decide +kernel⟩, List.mem_of_getElem? (i := 25) (by decide +kernel), List.mem_of_getElem? (i := 305) (by decide +kernel), List.mem_of_getElem? (i := 306) (by decide +kernel)⟩
theorem lw_p1 : lw_okq (⟨"DollCongress$Text", "letterHere", "()I"⟩, 5) := ⟨⟨by decide +kernel, by decide +kernel⟩, List.mem_of_getElem? (i := 25) (by decide +kernel), List.mem_of_getElem? (i := 309) (by decide +kernel), List.mem_of_getElem? (i := 310) (by decide +kernel)⟩
theorem lw_p2 : lw_okq (⟨"DollCongress$Text", "readClause", "(LDollCongress$Roll;)V"⟩, 5) := ⟨⟨by decide +kernel, by decide +kernel⟩, List.mem_of_getElem? (i := 25) (by decide +kernel), List.mem_of_getElem? (i := 313) (by decide +kernel), List.mem_of_getElem? (i := 314) (by decide +kernel)⟩
theorem lw_p3 : lw_okq (⟨"DollCongress$Text", "fail", "(II)V"⟩, 5) := ⟨⟨by decide +kernel, by decide +kernel⟩, List.mem_of_getElem? (i := 25) (by decide +kernel), List.mem_of_getElem? (i := 317) (by decide +kernel), List.mem_of_getElem? (i := 318) (by decide +kernel)⟩
theorem lw_p4 : lw_okq (⟨"DollCongress$Text", "readCourts", "(LDollCongress$Roll;)V"⟩, 5) := ⟨⟨by decide +kernel, by decide +kernel⟩, List.mem_of_getElem? (i := 25) (by decide +kernel), List.mem_of_getElem? (i := 321) (by decide +kernel), List.mem_of_getElem? (i := 322) (by decide +kernel)⟩
theorem lw_p5 : lw_okq (⟨"DollCongress$Text", "readNumber", "(II)I"⟩, 5) := ⟨⟨by decide +kernel, by decide +kernel⟩, List.mem_of_getElem? (i := 25) (by decide +kernel), List.mem_of_getElem? (i := 325) (by decide +kernel), List.mem_of_getElem? (i := 326) (by decide +kernel)⟩
theorem lw_p6 : lw_okq (⟨"DollCongress$Text", "readCourtsMark", "(LDollCongress$Roll;)Z"⟩, 5) := ⟨⟨by decide +kernel, by decide +kernel⟩, List.mem_of_getElem? (i := 25) (by decide +kernel), List.mem_of_getElem? (i := 339) (by decide +kernel), List.mem_of_getElem? (i := 340) (by decide +kernel)⟩
theorem lw_p7 : lw_okq (⟨"DollCongress$Text", "readDoll", "(LDollCongress$Roll;)V"⟩, 5) := ⟨⟨by decide +kernel, by decide +kernel⟩, List.mem_of_getElem? (i := 25) (by decide +kernel), List.mem_of_getElem? (i := 343) (by decide +kernel), List.mem_of_getElem? (i := 344) (by decide +kernel)⟩
theorem lw_p8 : lw_okq (⟨"DollCongress$Text", "readEnd", "()V"⟩, 5) := ⟨⟨by decide +kernel, by decide +kernel⟩, List.mem_of_getElem? (i := 25) (by decide +kernel), List.mem_of_getElem? (i := 347) (by decide +kernel), List.mem_of_getElem? (i := 348) (by decide +kernel)⟩
theorem lw_p9 : lw_okq (⟨"DollCongress$Text", "readPattern", "(LDollCongress$Roll;)V"⟩, 5) := ⟨⟨by decide +kernel, by decide +kernel⟩, List.mem_of_getElem? (i := 25) (by decide +kernel), List.mem_of_getElem? (i := 355) (by decide +kernel), List.mem_of_getElem? (i := 356) (by decide +kernel)⟩
theorem lw_p10 : lw_okq (⟨"DollCongress$Text", "readQuota", "(LDollCongress$Roll;)V"⟩, 5) := ⟨⟨by decide +kernel, by decide +kernel⟩, List.mem_of_getElem? (i := 25) (by decide +kernel), List.mem_of_getElem? (i := 359) (by decide +kernel), List.mem_of_getElem? (i := 360) (by decide +kernel)⟩
theorem lw_p11 : lw_okq (⟨"DollCongress", "hasCongress", "()Z"⟩, 10) := ⟨⟨by decide +kernel, by decide +kernel⟩, List.mem_of_getElem? (i := 17) (by decide +kernel), List.mem_of_getElem? (i := 420) (by decide +kernel), List.mem_of_getElem? (i := 421) (by decide +kernel)⟩
theorem lw_p12 : lw_okq (⟨"DollCongress", "dollsWith", "([II)I"⟩, 10) := ⟨⟨by decide +kernel, by decide +kernel⟩, List.mem_of_getElem? (i := 17) (by decide +kernel), List.mem_of_getElem? (i := 451) (by decide +kernel), List.mem_of_getElem? (i := 452) (by decide +kernel)⟩
theorem lw_p13 : lw_okq (⟨"DollCongress", "refusalOfYears", "(I)I"⟩, 10) := ⟨⟨by decide +kernel, by decide +kernel⟩, List.mem_of_getElem? (i := 17) (by decide +kernel), List.mem_of_getElem? (i := 518) (by decide +kernel), List.mem_of_getElem? (i := 519) (by decide +kernel)⟩
theorem lw_p14 : lw_okq (⟨"DollCongress", "meddle", "()V"⟩, 10) := ⟨⟨by decide +kernel, by decide +kernel⟩, List.mem_of_getElem? (i := 17) (by decide +kernel), List.mem_of_getElem? (i := 538) (by decide +kernel), List.mem_of_getElem? (i := 539) (by decide +kernel)⟩
theorem lw_p15 : lw_okq (⟨"DollCongress", "draw", "(I)I"⟩, 10) := ⟨⟨by decide +kernel, by decide +kernel⟩, List.mem_of_getElem? (i := 17) (by decide +kernel), List.mem_of_getElem? (i := 542) (by decide +kernel), List.mem_of_getElem? (i := 543) (by decide +kernel)⟩
def lw_privs_1 : List (MethodName × Nat) := [(⟨"DollCongress$Text", "skipBlanks", "()V"⟩, 5), (⟨"DollCongress$Text", "letterHere", "()I"⟩, 5), (⟨"DollCongress$Text", "readClause", "(LDollCongress$Roll;)V"⟩, 5), (⟨"DollCongress$Text", "fail", "(II)V"⟩, 5), (⟨"DollCongress$Text", "readCourts", "(LDollCongress$Roll;)V"⟩, 5), (⟨"DollCongress$Text", "readNumber", "(II)I"⟩, 5), (⟨"DollCongress$Text", "readCourtsMark", "(LDollCongress$Roll;)Z"⟩, 5), (⟨"DollCongress$Text", "readDoll", "(LDollCongress$Roll;)V"⟩, 5), (⟨"DollCongress$Text", "readEnd", "()V"⟩, 5), (⟨"DollCongress$Text", "readPattern", "(LDollCongress$Roll;)V"⟩, 5), (⟨"DollCongress$Text", "readQuota", "(LDollCongress$Roll;)V"⟩, 5), (⟨"DollCongress", "hasCongress", "()Z"⟩, 10), (⟨"DollCongress", "dollsWith", "([II)I"⟩, 10), (⟨"DollCongress", "refusalOfYears", "(I)I"⟩, 10), (⟨"DollCongress", "meddle", "()V"⟩, 10), (⟨"DollCongress", "draw", "(I)I"⟩, 10)]
theorem lw_r1 : ∀ q ∈ lw_privs_1, lw_okq q := List.forall_mem_cons.mpr ⟨lw_p0, List.forall_mem_cons.mpr ⟨lw_p1, List.forall_mem_cons.mpr ⟨lw_p2, List.forall_mem_cons.mpr ⟨lw_p3, List.forall_mem_cons.mpr ⟨lw_p4, List.forall_mem_cons.mpr ⟨lw_p5, List.forall_mem_cons.mpr ⟨lw_p6, List.forall_mem_cons.mpr ⟨lw_p7, List.forall_mem_cons.mpr ⟨lw_p8, List.forall_mem_cons.mpr ⟨lw_p9, List.forall_mem_cons.mpr ⟨lw_p10, List.forall_mem_cons.mpr ⟨lw_p11, List.forall_mem_cons.mpr ⟨lw_p12, List.forall_mem_cons.mpr ⟨lw_p13, List.forall_mem_cons.mpr ⟨lw_p14, List.forall_mem_cons.mpr ⟨lw_p15, fun _ h => absurd h List.not_mem_nil⟩⟩⟩⟩⟩⟩⟩⟩⟩⟩⟩⟩⟩⟩⟩⟩
theorem lw_p16 : lw_okq (⟨"DollCongress$Mixings", "gatherStrays", "(LDollCongress$Roll;LDollCongress$Scene;)V"⟩, 5) := ⟨⟨by decide +kernel, by decide +kernel⟩, List.mem_of_getElem? (i := 134) (by decide +kernel), List.mem_of_getElem? (i := 586) (by decide +kernel), List.mem_of_getElem? (i := 587) (by decide +kernel)⟩
theorem lw_p17 : lw_okq (⟨"DollCongress$Mixings", "countRings", "(I)V"⟩, 5) := ⟨⟨by decide +kernel, by decide +kernel⟩, List.mem_of_getElem? (i := 134) (by decide +kernel), List.mem_of_getElem? (i := 590) (by decide +kernel), List.mem_of_getElem? (i := 591) (by decide +kernel)⟩
theorem lw_p18 : lw_okq (⟨"DollCongress$Mixings", "leastPair", "(I)I"⟩, 5) := ⟨⟨by decide +kernel, by decide +kernel⟩, List.mem_of_getElem? (i := 134) (by decide +kernel), List.mem_of_getElem? (i := 600) (by decide +kernel), List.mem_of_getElem? (i := 601) (by decide +kernel)⟩
theorem lw_p19 : lw_okq (⟨"DollCongress$Roll", "winnerOf", "(II)I"⟩, 11) := ⟨⟨by decide +kernel, by decide +kernel⟩, List.mem_of_getElem? (i := 171) (by decide +kernel), List.mem_of_getElem? (i := 636) (by decide +kernel), List.mem_of_getElem? (i := 637) (by decide +kernel)⟩
theorem lw_p20 : lw_okq (⟨"DollCongress$Wants", "mostFrom", "(LDollCongress$Roll;LDollCongress$Scene;II)I"⟩, 2) := ⟨⟨by decide +kernel, by decide +kernel⟩, List.mem_of_getElem? (i := 156) (by decide +kernel), List.mem_of_getElem? (i := 658) (by decide +kernel), List.mem_of_getElem? (i := 659) (by decide +kernel)⟩
theorem lw_p21 : lw_okq (⟨"DollCongress$Wants", "pleasure", "(LDollCongress$Scene;II)I"⟩, 2) := ⟨⟨by decide +kernel, by decide +kernel⟩, List.mem_of_getElem? (i := 156) (by decide +kernel), List.mem_of_getElem? (i := 662) (by decide +kernel), List.mem_of_getElem? (i := 663) (by decide +kernel)⟩
theorem lw_p22 : lw_okq (⟨"DollCongress$Wants", "leastTaken", "(LDollCongress$Roll;LDollCongress$Scene;II)I"⟩, 2) := ⟨⟨by decide +kernel, by decide +kernel⟩, List.mem_of_getElem? (i := 156) (by decide +kernel), List.mem_of_getElem? (i := 675) (by decide +kernel), List.mem_of_getElem? (i := 676) (by decide +kernel)⟩
theorem lw_p23 : lw_okq (⟨"DollCongress", "yearsUntilAllKnow", "(I)I"⟩, 10) := ⟨⟨by decide +kernel, by decide +kernel⟩, List.mem_of_getElem? (i := 17) (by decide +kernel), List.mem_of_getElem? (i := 683) (by decide +kernel), List.mem_of_getElem? (i := 684) (by decide +kernel)⟩
theorem lw_p24 : lw_okq (⟨"DollCongressModel", "here", "()I"⟩, 36) := ⟨⟨by decide +kernel, by decide +kernel⟩, List.mem_of_getElem? (i := 730) (by decide +kernel), List.mem_of_getElem? (i := 860) (by decide +kernel), List.mem_of_getElem? (i := 861) (by decide +kernel)⟩
theorem lw_p25 : lw_okq (⟨"DollCongressModel", "takeClause", "()I"⟩, 36) := ⟨⟨by decide +kernel, by decide +kernel⟩, List.mem_of_getElem? (i := 730) (by decide +kernel), List.mem_of_getElem? (i := 864) (by decide +kernel), List.mem_of_getElem? (i := 865) (by decide +kernel)⟩
theorem lw_p26 : lw_okq (⟨"DollCongressModel", "fails", "(II)I"⟩, 36) := ⟨⟨by decide +kernel, by decide +kernel⟩, List.mem_of_getElem? (i := 730) (by decide +kernel), List.mem_of_getElem? (i := 868) (by decide +kernel), List.mem_of_getElem? (i := 869) (by decide +kernel)⟩
theorem lw_p27 : lw_okq (⟨"DollCongressModel", "isFull", "(I)Z"⟩, 36) := ⟨⟨by decide +kernel, by decide +kernel⟩, List.mem_of_getElem? (i := 730) (by decide +kernel), List.mem_of_getElem? (i := 872) (by decide +kernel), List.mem_of_getElem? (i := 873) (by decide +kernel)⟩
theorem lw_p28 : lw_okq (⟨"DollCongressModel", "takeCourts", "()I"⟩, 36) := ⟨⟨by decide +kernel, by decide +kernel⟩, List.mem_of_getElem? (i := 730) (by decide +kernel), List.mem_of_getElem? (i := 876) (by decide +kernel), List.mem_of_getElem? (i := 877) (by decide +kernel)⟩
theorem lw_p29 : lw_okq (⟨"DollCongressModel", "into", "([IIII)I"⟩, 36) := ⟨⟨by decide +kernel, by decide +kernel⟩, List.mem_of_getElem? (i := 730) (by decide +kernel), List.mem_of_getElem? (i := 880) (by decide +kernel), List.mem_of_getElem? (i := 881) (by decide +kernel)⟩
theorem lw_p30 : lw_okq (⟨"DollCongressModel", "takeNumber", "(II)I"⟩, 36) := ⟨⟨by decide +kernel, by decide +kernel⟩, List.mem_of_getElem? (i := 730) (by decide +kernel), List.mem_of_getElem? (i := 884) (by decide +kernel), List.mem_of_getElem? (i := 885) (by decide +kernel)⟩
theorem lw_p31 : lw_okq (⟨"DollCongressModel", "takeDoll", "()I"⟩, 36) := ⟨⟨by decide +kernel, by decide +kernel⟩, List.mem_of_getElem? (i := 730) (by decide +kernel), List.mem_of_getElem? (i := 890) (by decide +kernel), List.mem_of_getElem? (i := 891) (by decide +kernel)⟩
def lw_privs_2 : List (MethodName × Nat) := [(⟨"DollCongress$Mixings", "gatherStrays", "(LDollCongress$Roll;LDollCongress$Scene;)V"⟩, 5), (⟨"DollCongress$Mixings", "countRings", "(I)V"⟩, 5), (⟨"DollCongress$Mixings", "leastPair", "(I)I"⟩, 5), (⟨"DollCongress$Roll", "winnerOf", "(II)I"⟩, 11), (⟨"DollCongress$Wants", "mostFrom", "(LDollCongress$Roll;LDollCongress$Scene;II)I"⟩, 2), (⟨"DollCongress$Wants", "pleasure", "(LDollCongress$Scene;II)I"⟩, 2), (⟨"DollCongress$Wants", "leastTaken", "(LDollCongress$Roll;LDollCongress$Scene;II)I"⟩, 2), (⟨"DollCongress", "yearsUntilAllKnow", "(I)I"⟩, 10), (⟨"DollCongressModel", "here", "()I"⟩, 36), (⟨"DollCongressModel", "takeClause", "()I"⟩, 36), (⟨"DollCongressModel", "fails", "(II)I"⟩, 36), (⟨"DollCongressModel", "isFull", "(I)Z"⟩, 36), (⟨"DollCongressModel", "takeCourts", "()I"⟩, 36), (⟨"DollCongressModel", "into", "([IIII)I"⟩, 36), (⟨"DollCongressModel", "takeNumber", "(II)I"⟩, 36), (⟨"DollCongressModel", "takeDoll", "()I"⟩, 36)]
theorem lw_r2 : ∀ q ∈ lw_privs_2, lw_okq q := List.forall_mem_cons.mpr ⟨lw_p16, List.forall_mem_cons.mpr ⟨lw_p17, List.forall_mem_cons.mpr ⟨lw_p18, List.forall_mem_cons.mpr ⟨lw_p19, List.forall_mem_cons.mpr ⟨lw_p20, List.forall_mem_cons.mpr ⟨lw_p21, List.forall_mem_cons.mpr ⟨lw_p22, List.forall_mem_cons.mpr ⟨lw_p23, List.forall_mem_cons.mpr ⟨lw_p24, List.forall_mem_cons.mpr ⟨lw_p25, List.forall_mem_cons.mpr ⟨lw_p26, List.forall_mem_cons.mpr ⟨lw_p27, List.forall_mem_cons.mpr ⟨lw_p28, List.forall_mem_cons.mpr ⟨lw_p29, List.forall_mem_cons.mpr ⟨lw_p30, List.forall_mem_cons.mpr ⟨lw_p31, fun _ h => absurd h List.not_mem_nil⟩⟩⟩⟩⟩⟩⟩⟩⟩⟩⟩⟩⟩⟩⟩⟩
theorem lw_p32 : lw_okq (⟨"DollCongressModel", "takePattern", "()I"⟩, 36) := ⟨⟨by decide +kernel, by decide +kernel⟩, List.mem_of_getElem? (i := 730) (by decide +kernel), List.mem_of_getElem? (i := 894) (by decide +kernel), List.mem_of_getElem? (i := 895) (by decide +kernel)⟩
theorem lw_p33 : lw_okq (⟨"DollCongressModel", "takeQuota", "()I"⟩, 36) := ⟨⟨by decide +kernel, by decide +kernel⟩, List.mem_of_getElem? (i := 730) (by decide +kernel), List.mem_of_getElem? (i := 898) (by decide +kernel), List.mem_of_getElem? (i := 899) (by decide +kernel)⟩
theorem lw_p34 : lw_okq (⟨"DollCongressModel", "takeRead", "()V"⟩, 36) := ⟨⟨by decide +kernel, by decide +kernel⟩, List.mem_of_getElem? (i := 730) (by decide +kernel), List.mem_of_getElem? (i := 902) (by decide +kernel), List.mem_of_getElem? (i := 903) (by decide +kernel)⟩
theorem lw_p35 : lw_okq (⟨"DollCongressModel", "votesOf", "(I)I"⟩, 36) := ⟨⟨by decide +kernel, by decide +kernel⟩, List.mem_of_getElem? (i := 730) (by decide +kernel), List.mem_of_getElem? (i := 909) (by decide +kernel), List.mem_of_getElem? (i := 910) (by decide +kernel)⟩
theorem lw_p36 : lw_okq (⟨"DollCongressModel", "wrongOnes", "()I"⟩, 36) := ⟨⟨by decide +kernel, by decide +kernel⟩, List.mem_of_getElem? (i := 730) (by decide +kernel), List.mem_of_getElem? (i := 924) (by decide +kernel), List.mem_of_getElem? (i := 925) (by decide +kernel)⟩
theorem lw_p37 : lw_okq (⟨"DollCongressModel", "closeOnes", "(I)I"⟩, 36) := ⟨⟨by decide +kernel, by decide +kernel⟩, List.mem_of_getElem? (i := 730) (by decide +kernel), List.mem_of_getElem? (i := 928) (by decide +kernel), List.mem_of_getElem? (i := 929) (by decide +kernel)⟩
theorem lw_p38 : lw_okq (⟨"DollCongressModel", "noddingOnes", "()I"⟩, 36) := ⟨⟨by decide +kernel, by decide +kernel⟩, List.mem_of_getElem? (i := 730) (by decide +kernel), List.mem_of_getElem? (i := 935) (by decide +kernel), List.mem_of_getElem? (i := 936) (by decide +kernel)⟩
theorem lw_p39 : lw_okq (⟨"DollCongressModel", "nods", "(I)Z"⟩, 36) := ⟨⟨by decide +kernel, by decide +kernel⟩, List.mem_of_getElem? (i := 730) (by decide +kernel), List.mem_of_getElem? (i := 939) (by decide +kernel), List.mem_of_getElem? (i := 940) (by decide +kernel)⟩
theorem lw_p40 : lw_okq (⟨"DollCongressModel", "whoIsAt", "(I)I"⟩, 36) := ⟨⟨by decide +kernel, by decide +kernel⟩, List.mem_of_getElem? (i := 730) (by decide +kernel), List.mem_of_getElem? (i := 943) (by decide +kernel), List.mem_of_getElem? (i := 944) (by decide +kernel)⟩
theorem lw_p41 : lw_okq (⟨"DollCongressModel", "tellingOnes", "()I"⟩, 36) := ⟨⟨by decide +kernel, by decide +kernel⟩, List.mem_of_getElem? (i := 730) (by decide +kernel), List.mem_of_getElem? (i := 947) (by decide +kernel), List.mem_of_getElem? (i := 948) (by decide +kernel)⟩
theorem lw_p42 : lw_okq (⟨"DollCongressModel", "tells", "(I)Z"⟩, 36) := ⟨⟨by decide +kernel, by decide +kernel⟩, List.mem_of_getElem? (i := 730) (by decide +kernel), List.mem_of_getElem? (i := 951) (by decide +kernel), List.mem_of_getElem? (i := 952) (by decide +kernel)⟩
theorem lw_p43 : lw_okq (⟨"DollCongressModel", "blocks", "()I"⟩, 36) := ⟨⟨by decide +kernel, by decide +kernel⟩, List.mem_of_getElem? (i := 730) (by decide +kernel), List.mem_of_getElem? (i := 955) (by decide +kernel), List.mem_of_getElem? (i := 956) (by decide +kernel)⟩
theorem lw_p44 : lw_okq (⟨"DollCongressModel", "hasQuota", "(I)Z"⟩, 36) := ⟨⟨by decide +kernel, by decide +kernel⟩, List.mem_of_getElem? (i := 730) (by decide +kernel), List.mem_of_getElem? (i := 959) (by decide +kernel), List.mem_of_getElem? (i := 960) (by decide +kernel)⟩
theorem lw_p45 : lw_okq (⟨"DollCongressModel", "fewest", "()I"⟩, 36) := ⟨⟨by decide +kernel, by decide +kernel⟩, List.mem_of_getElem? (i := 730) (by decide +kernel), List.mem_of_getElem? (i := 963) (by decide +kernel), List.mem_of_getElem? (i := 964) (by decide +kernel)⟩
theorem lw_p46 : lw_okq (⟨"DollCongressModel", "isDoll", "(I)Z"⟩, 36) := ⟨⟨by decide +kernel, by decide +kernel⟩, List.mem_of_getElem? (i := 730) (by decide +kernel), List.mem_of_getElem? (i := 971) (by decide +kernel), List.mem_of_getElem? (i := 972) (by decide +kernel)⟩
theorem lw_p47 : lw_okq (⟨"DollCongressModel", "isCourt", "(I)Z"⟩, 36) := ⟨⟨by decide +kernel, by decide +kernel⟩, List.mem_of_getElem? (i := 730) (by decide +kernel), List.mem_of_getElem? (i := 980) (by decide +kernel), List.mem_of_getElem? (i := 981) (by decide +kernel)⟩
def lw_privs_3 : List (MethodName × Nat) := [(⟨"DollCongressModel", "takePattern", "()I"⟩, 36), (⟨"DollCongressModel", "takeQuota", "()I"⟩, 36), (⟨"DollCongressModel", "takeRead", "()V"⟩, 36), (⟨"DollCongressModel", "votesOf", "(I)I"⟩, 36), (⟨"DollCongressModel", "wrongOnes", "()I"⟩, 36), (⟨"DollCongressModel", "closeOnes", "(I)I"⟩, 36), (⟨"DollCongressModel", "noddingOnes", "()I"⟩, 36), (⟨"DollCongressModel", "nods", "(I)Z"⟩, 36), (⟨"DollCongressModel", "whoIsAt", "(I)I"⟩, 36), (⟨"DollCongressModel", "tellingOnes", "()I"⟩, 36), (⟨"DollCongressModel", "tells", "(I)Z"⟩, 36), (⟨"DollCongressModel", "blocks", "()I"⟩, 36), (⟨"DollCongressModel", "hasQuota", "(I)Z"⟩, 36), (⟨"DollCongressModel", "fewest", "()I"⟩, 36), (⟨"DollCongressModel", "isDoll", "(I)Z"⟩, 36), (⟨"DollCongressModel", "isCourt", "(I)Z"⟩, 36)]
theorem lw_r3 : ∀ q ∈ lw_privs_3, lw_okq q := List.forall_mem_cons.mpr ⟨lw_p32, List.forall_mem_cons.mpr ⟨lw_p33, List.forall_mem_cons.mpr ⟨lw_p34, List.forall_mem_cons.mpr ⟨lw_p35, List.forall_mem_cons.mpr ⟨lw_p36, List.forall_mem_cons.mpr ⟨lw_p37, List.forall_mem_cons.mpr ⟨lw_p38, List.forall_mem_cons.mpr ⟨lw_p39, List.forall_mem_cons.mpr ⟨lw_p40, List.forall_mem_cons.mpr ⟨lw_p41, List.forall_mem_cons.mpr ⟨lw_p42, List.forall_mem_cons.mpr ⟨lw_p43, List.forall_mem_cons.mpr ⟨lw_p44, List.forall_mem_cons.mpr ⟨lw_p45, List.forall_mem_cons.mpr ⟨lw_p46, List.forall_mem_cons.mpr ⟨lw_p47, fun _ h => absurd h List.not_mem_nil⟩⟩⟩⟩⟩⟩⟩⟩⟩⟩⟩⟩⟩⟩⟩⟩
theorem lw_p48 : lw_okq (⟨"DollCongressModel", "whoBelongsTo", "(I)I"⟩, 36) := ⟨⟨by decide +kernel, by decide +kernel⟩, List.mem_of_getElem? (i := 730) (by decide +kernel), List.mem_of_getElem? (i := 984) (by decide +kernel), List.mem_of_getElem? (i := 985) (by decide +kernel)⟩
theorem lw_p49 : lw_okq (⟨"DollCongressModel", "power", "(I)I"⟩, 36) := ⟨⟨by decide +kernel, by decide +kernel⟩, List.mem_of_getElem? (i := 730) (by decide +kernel), List.mem_of_getElem? (i := 988) (by decide +kernel), List.mem_of_getElem? (i := 989) (by decide +kernel)⟩
theorem lw_p50 : lw_okq (⟨"DollCongressModel", "remember", "()V"⟩, 36) := ⟨⟨by decide +kernel, by decide +kernel⟩, List.mem_of_getElem? (i := 730) (by decide +kernel), List.mem_of_getElem? (i := 1000) (by decide +kernel), List.mem_of_getElem? (i := 1001) (by decide +kernel)⟩
theorem lw_p51 : lw_okq (⟨"DollCongressModel", "sendNow", "(II)V"⟩, 36) := ⟨⟨by decide +kernel, by decide +kernel⟩, List.mem_of_getElem? (i := 730) (by decide +kernel), List.mem_of_getElem? (i := 1004) (by decide +kernel), List.mem_of_getElem? (i := 1005) (by decide +kernel)⟩
theorem lw_p52 : lw_okq (⟨"DollCongressModel", "layNow", "(IZ)V"⟩, 36) := ⟨⟨by decide +kernel, by decide +kernel⟩, List.mem_of_getElem? (i := 730) (by decide +kernel), List.mem_of_getElem? (i := 1008) (by decide +kernel), List.mem_of_getElem? (i := 1009) (by decide +kernel)⟩
theorem lw_p53 : lw_okq (⟨"DollCongressModel", "mixNow", "(II)V"⟩, 36) := ⟨⟨by decide +kernel, by decide +kernel⟩, List.mem_of_getElem? (i := 730) (by decide +kernel), List.mem_of_getElem? (i := 1016) (by decide +kernel), List.mem_of_getElem? (i := 1017) (by decide +kernel)⟩
theorem lw_p54 : lw_okq (⟨"DollCongressModel", "audienceNow", "()I"⟩, 36) := ⟨⟨by decide +kernel, by decide +kernel⟩, List.mem_of_getElem? (i := 730) (by decide +kernel), List.mem_of_getElem? (i := 1033) (by decide +kernel), List.mem_of_getElem? (i := 1034) (by decide +kernel)⟩
theorem lw_p55 : lw_okq (⟨"DollCongressModel", "yearsRefused", "(I)I"⟩, 36) := ⟨⟨by decide +kernel, by decide +kernel⟩, List.mem_of_getElem? (i := 730) (by decide +kernel), List.mem_of_getElem? (i := 1041) (by decide +kernel), List.mem_of_getElem? (i := 1042) (by decide +kernel)⟩
theorem lw_p56 : lw_okq (⟨"DollCongressModel", "pass", "()V"⟩, 36) := ⟨⟨by decide +kernel, by decide +kernel⟩, List.mem_of_getElem? (i := 730) (by decide +kernel), List.mem_of_getElem? (i := 1046) (by decide +kernel), List.mem_of_getElem? (i := 1047) (by decide +kernel)⟩
theorem lw_p57 : lw_okq (⟨"DollCongressModel", "moreWarm", "(I)I"⟩, 36) := ⟨⟨by decide +kernel, by decide +kernel⟩, List.mem_of_getElem? (i := 730) (by decide +kernel), List.mem_of_getElem? (i := 1050) (by decide +kernel), List.mem_of_getElem? (i := 1051) (by decide +kernel)⟩
theorem lw_p58 : lw_okq (⟨"DollCongressModel", "chance", "()V"⟩, 36) := ⟨⟨by decide +kernel, by decide +kernel⟩, List.mem_of_getElem? (i := 730) (by decide +kernel), List.mem_of_getElem? (i := 1059) (by decide +kernel), List.mem_of_getElem? (i := 1060) (by decide +kernel)⟩
theorem lw_p59 : lw_okq (⟨"DollCongressModel", "draw", "(I)I"⟩, 36) := ⟨⟨by decide +kernel, by decide +kernel⟩, List.mem_of_getElem? (i := 730) (by decide +kernel), List.mem_of_getElem? (i := 1063) (by decide +kernel), List.mem_of_getElem? (i := 1064) (by decide +kernel)⟩
theorem lw_p60 : lw_okq (⟨"DollCongressModel", "fewestSwaps", "()I"⟩, 36) := ⟨⟨by decide +kernel, by decide +kernel⟩, List.mem_of_getElem? (i := 730) (by decide +kernel), List.mem_of_getElem? (i := 1093) (by decide +kernel), List.mem_of_getElem? (i := 1094) (by decide +kernel)⟩
theorem lw_p61 : lw_okq (⟨"DollCongressModel", "findRings", "()V"⟩, 36) := ⟨⟨by decide +kernel, by decide +kernel⟩, List.mem_of_getElem? (i := 730) (by decide +kernel), List.mem_of_getElem? (i := 1097) (by decide +kernel), List.mem_of_getElem? (i := 1098) (by decide +kernel)⟩
theorem lw_p62 : lw_okq (⟨"DollCongressModel", "isBalanced", "(I)Z"⟩, 36) := ⟨⟨by decide +kernel, by decide +kernel⟩, List.mem_of_getElem? (i := 730) (by decide +kernel), List.mem_of_getElem? (i := 1101) (by decide +kernel), List.mem_of_getElem? (i := 1102) (by decide +kernel)⟩
theorem lw_p63 : lw_okq (⟨"DollCongressModel", "firstSwap", "(I)I"⟩, 36) := ⟨⟨by decide +kernel, by decide +kernel⟩, List.mem_of_getElem? (i := 730) (by decide +kernel), List.mem_of_getElem? (i := 1105) (by decide +kernel), List.mem_of_getElem? (i := 1106) (by decide +kernel)⟩
def lw_privs_4 : List (MethodName × Nat) := [(⟨"DollCongressModel", "whoBelongsTo", "(I)I"⟩, 36), (⟨"DollCongressModel", "power", "(I)I"⟩, 36), (⟨"DollCongressModel", "remember", "()V"⟩, 36), (⟨"DollCongressModel", "sendNow", "(II)V"⟩, 36), (⟨"DollCongressModel", "layNow", "(IZ)V"⟩, 36), (⟨"DollCongressModel", "mixNow", "(II)V"⟩, 36), (⟨"DollCongressModel", "audienceNow", "()I"⟩, 36), (⟨"DollCongressModel", "yearsRefused", "(I)I"⟩, 36), (⟨"DollCongressModel", "pass", "()V"⟩, 36), (⟨"DollCongressModel", "moreWarm", "(I)I"⟩, 36), (⟨"DollCongressModel", "chance", "()V"⟩, 36), (⟨"DollCongressModel", "draw", "(I)I"⟩, 36), (⟨"DollCongressModel", "fewestSwaps", "()I"⟩, 36), (⟨"DollCongressModel", "findRings", "()V"⟩, 36), (⟨"DollCongressModel", "isBalanced", "(I)Z"⟩, 36), (⟨"DollCongressModel", "firstSwap", "(I)I"⟩, 36)]
theorem lw_r4 : ∀ q ∈ lw_privs_4, lw_okq q := List.forall_mem_cons.mpr ⟨lw_p48, List.forall_mem_cons.mpr ⟨lw_p49, List.forall_mem_cons.mpr ⟨lw_p50, List.forall_mem_cons.mpr ⟨lw_p51, List.forall_mem_cons.mpr ⟨lw_p52, List.forall_mem_cons.mpr ⟨lw_p53, List.forall_mem_cons.mpr ⟨lw_p54, List.forall_mem_cons.mpr ⟨lw_p55, List.forall_mem_cons.mpr ⟨lw_p56, List.forall_mem_cons.mpr ⟨lw_p57, List.forall_mem_cons.mpr ⟨lw_p58, List.forall_mem_cons.mpr ⟨lw_p59, List.forall_mem_cons.mpr ⟨lw_p60, List.forall_mem_cons.mpr ⟨lw_p61, List.forall_mem_cons.mpr ⟨lw_p62, List.forall_mem_cons.mpr ⟨lw_p63, fun _ h => absurd h List.not_mem_nil⟩⟩⟩⟩⟩⟩⟩⟩⟩⟩⟩⟩⟩⟩⟩⟩
theorem lw_p64 : lw_okq (⟨"DollCongressModel", "likeIn", "(I)I"⟩, 36) := ⟨⟨by decide +kernel, by decide +kernel⟩, List.mem_of_getElem? (i := 730) (by decide +kernel), List.mem_of_getElem? (i := 1118) (by decide +kernel), List.mem_of_getElem? (i := 1119) (by decide +kernel)⟩
theorem lw_p65 : lw_okq (⟨"DollCongressModel", "nextSign", "(I)I"⟩, 36) := ⟨⟨by decide +kernel, by decide +kernel⟩, List.mem_of_getElem? (i := 730) (by decide +kernel), List.mem_of_getElem? (i := 1122) (by decide +kernel), List.mem_of_getElem? (i := 1123) (by decide +kernel)⟩
theorem lw_p66 : lw_okq (⟨"DollCongressModel", "agendaOf", "(II)I"⟩, 36) := ⟨⟨by decide +kernel, by decide +kernel⟩, List.mem_of_getElem? (i := 730) (by decide +kernel), List.mem_of_getElem? (i := 1135) (by decide +kernel), List.mem_of_getElem? (i := 1136) (by decide +kernel)⟩
theorem lw_p67 : lw_okq (⟨"DollCongressModel", "winnerOf", "(II)I"⟩, 36) := ⟨⟨by decide +kernel, by decide +kernel⟩, List.mem_of_getElem? (i := 730) (by decide +kernel), List.mem_of_getElem? (i := 1139) (by decide +kernel), List.mem_of_getElem? (i := 1140) (by decide +kernel)⟩
theorem lw_p68 : lw_okq (⟨"DollCongressModel", "findWanted", "()V"⟩, 36) := ⟨⟨by decide +kernel, by decide +kernel⟩, List.mem_of_getElem? (i := 730) (by decide +kernel), List.mem_of_getElem? (i := 1154) (by decide +kernel), List.mem_of_getElem? (i := 1155) (by decide +kernel)⟩
theorem lw_p69 : lw_okq (⟨"DollCongressModel", "pleases", "(II)I"⟩, 36) := ⟨⟨by decide +kernel, by decide +kernel⟩, List.mem_of_getElem? (i := 730) (by decide +kernel), List.mem_of_getElem? (i := 1158) (by decide +kernel), List.mem_of_getElem? (i := 1159) (by decide +kernel)⟩
theorem lw_p70 : lw_okq (⟨"DollCongressModel", "wantedBy", "(I)I"⟩, 36) := ⟨⟨by decide +kernel, by decide +kernel⟩, List.mem_of_getElem? (i := 730) (by decide +kernel), List.mem_of_getElem? (i := 1162) (by decide +kernel), List.mem_of_getElem? (i := 1163) (by decide +kernel)⟩
theorem lw_p71 : lw_okq (⟨"DollCongressModel", "whoKnows", "(II)I"⟩, 36) := ⟨⟨by decide +kernel, by decide +kernel⟩, List.mem_of_getElem? (i := 730) (by decide +kernel), List.mem_of_getElem? (i := 1172) (by decide +kernel), List.mem_of_getElem? (i := 1173) (by decide +kernel)⟩
def lw_privs_5 : List (MethodName × Nat) := [(⟨"DollCongressModel", "likeIn", "(I)I"⟩, 36), (⟨"DollCongressModel", "nextSign", "(I)I"⟩, 36), (⟨"DollCongressModel", "agendaOf", "(II)I"⟩, 36), (⟨"DollCongressModel", "winnerOf", "(II)I"⟩, 36), (⟨"DollCongressModel", "findWanted", "()V"⟩, 36), (⟨"DollCongressModel", "pleases", "(II)I"⟩, 36), (⟨"DollCongressModel", "wantedBy", "(I)I"⟩, 36), (⟨"DollCongressModel", "whoKnows", "(II)I"⟩, 36)]
theorem lw_r5 : ∀ q ∈ lw_privs_5, lw_okq q := List.forall_mem_cons.mpr ⟨lw_p64, List.forall_mem_cons.mpr ⟨lw_p65, List.forall_mem_cons.mpr ⟨lw_p66, List.forall_mem_cons.mpr ⟨lw_p67, List.forall_mem_cons.mpr ⟨lw_p68, List.forall_mem_cons.mpr ⟨lw_p69, List.forall_mem_cons.mpr ⟨lw_p70, List.forall_mem_cons.mpr ⟨lw_p71, fun _ h => absurd h List.not_mem_nil⟩⟩⟩⟩⟩⟩⟩⟩
def lw_privs : List (MethodName × Nat) := lw_privs_1 ++ (lw_privs_2 ++ (lw_privs_3 ++ (lw_privs_4 ++ (lw_privs_5))))
def lw_tbl : List Cond := k2_sels lw_privs ++ tables_1
theorem lw_privs_ok : ∀ q ∈ lw_privs, lw_okq q := by
  show ∀ q ∈ lw_privs_1 ++ (lw_privs_2 ++ (lw_privs_3 ++ (lw_privs_4 ++ (lw_privs_5)))), lw_okq q
  exact List.forall_mem_append.mpr ⟨lw_r1, List.forall_mem_append.mpr ⟨lw_r2, List.forall_mem_append.mpr ⟨lw_r3, List.forall_mem_append.mpr ⟨lw_r4, lw_r5⟩⟩⟩⟩
end
section
/-! ===== BEGIN printed: names, fields, word lists, decode rows ===== -/
def RX0 : String := "DollCongress$Book"
def TX0 : u_T := fun k => match k with
  | 0 => ("DollCongress$Book", "dolls", "[I", true)
  | 1 => ("DollCongress$Book", "courts", "[I", true)
  | _ => ("DollCongress$Book", "size", "I", false)
def tyX0 : Nat → FieldType := fun k => match k with
  | 0 => .array .int
  | 1 => .array .int
  | _ => .int
abbrev wsX00 : List Cond := u_ws RX0 TX0 3
theorem nmX0 : ∀ a, a < 3 → ∀ b, b < 3 → a ≠ b → (TX0 a).2.1 ≠ (TX0 b).2.1 := by decide +kernel
theorem tyX0_ok : ∀ k, k < 3 → parseFieldDescriptor (TX0 k).2.2.1 = some (tyX0 k) := by decide +kernel
abbrev cX0_init : ByteArray := prog_2_method_1_code
def yX0_init : MethodName := ⟨RX0, "<init>", "()V"⟩
abbrev cX0_add : ByteArray := prog_2_method_2_code
def yX0_add : MethodName := ⟨RX0, "add", "(II)V"⟩
abbrev cX0_firstWrong : ByteArray := prog_2_method_3_code
def yX0_firstWrong : MethodName := ⟨RX0, "firstWrong", "(LDollCongress$Scene;)I"⟩
def RX1 : String := "DollCongress$Image"
def TX1 : u_T := fun k => match k with
  | 0 => ("DollCongress$Image", "scene", "LDollCongress$Scene;", true)
  | 1 => ("DollCongress$Image", "chance", "I", false)
  | _ => ("DollCongress$Image", "kept", "Z", false)
def tyX1 : Nat → FieldType := fun k => match k with
  | 0 => .object "DollCongress$Scene"
  | 1 => .int
  | _ => .boolean
abbrev wsX10 : List Cond := u_ws RX1 TX1 3
theorem nmX1 : ∀ a, a < 3 → ∀ b, b < 3 → a ≠ b → (TX1 a).2.1 ≠ (TX1 b).2.1 := by decide +kernel
theorem tyX1_ok : ∀ k, k < 3 → parseFieldDescriptor (TX1 k).2.2.1 = some (tyX1 k) := by decide +kernel
abbrev cX1_init : ByteArray := prog_3_method_1_code
def yX1_init : MethodName := ⟨RX1, "<init>", "()V"⟩
def RX2 : String := "DollCongress$Mixings"
def TX2 : u_T := fun k => match k with
  | 0 => ("DollCongress$Mixings", "strays", "[I", true)
  | 1 => ("DollCongress$Mixings", "moves", "[I", true)
  | 2 => ("DollCongress$Mixings", "surplus", "[I", true)
  | 3 => ("DollCongress$Mixings", "rings", "[I", true)
  | _ => ("DollCongress$Mixings", "count", "I", false)
def tyX2 : Nat → FieldType := fun k => match k with
  | 0 => .array .int
  | 1 => .array .int
  | 2 => .array .int
  | 3 => .array .int
  | _ => .int
abbrev wsX20 : List Cond := u_ws RX2 TX2 5
theorem nmX2 : ∀ a, a < 5 → ∀ b, b < 5 → a ≠ b → (TX2 a).2.1 ≠ (TX2 b).2.1 := by decide +kernel
theorem tyX2_ok : ∀ k, k < 5 → parseFieldDescriptor (TX2 k).2.2.1 = some (tyX2 k) := by decide +kernel
abbrev cX2_init : ByteArray := prog_4_method_1_code
def yX2_init : MethodName := ⟨RX2, "<init>", "()V"⟩
abbrev cX2_fewest : ByteArray := prog_4_method_2_code
def yX2_fewest : MethodName := ⟨RX2, "fewest", "(LDollCongress$Roll;LDollCongress$Scene;)I"⟩
abbrev cX2_leastOpening : ByteArray := prog_4_method_3_code
def yX2_leastOpening : MethodName := ⟨RX2, "leastOpening", "(LDollCongress$Roll;LDollCongress$Scene;)I"⟩
abbrev cX2_leastPair : ByteArray := prog_4_method_4_code
def yX2_leastPair : MethodName := ⟨RX2, "leastPair", "(I)I"⟩
abbrev cX2_gatherStrays : ByteArray := prog_4_method_5_code
def yX2_gatherStrays : MethodName := ⟨RX2, "gatherStrays", "(LDollCongress$Roll;LDollCongress$Scene;)V"⟩
abbrev cX2_countRings : ByteArray := prog_4_method_6_code
def yX2_countRings : MethodName := ⟨RX2, "countRings", "(I)V"⟩
def RX3 : String := "DollCongress$Past"
def TX3 : u_T := fun k => match k with
  | 0 => ("DollCongress$Past", "scenes", "[LDollCongress$Scene;", true)
  | 1 => ("DollCongress$Past", "next", "I", false)
  | _ => ("DollCongress$Past", "size", "I", false)
def tyX3 : Nat → FieldType := fun k => match k with
  | 0 => .array (.object "DollCongress$Scene")
  | 1 => .int
  | _ => .int
abbrev wsX30 : List Cond := u_ws RX3 TX3 3
theorem nmX3 : ∀ a, a < 3 → ∀ b, b < 3 → a ≠ b → (TX3 a).2.1 ≠ (TX3 b).2.1 := by decide +kernel
theorem tyX3_ok : ∀ k, k < 3 → parseFieldDescriptor (TX3 k).2.2.1 = some (tyX3 k) := by decide +kernel
abbrev cX3_init : ByteArray := prog_5_method_1_code
def yX3_init : MethodName := ⟨RX3, "<init>", "()V"⟩
abbrev cX3_forget : ByteArray := prog_5_method_2_code
def yX3_forget : MethodName := ⟨RX3, "forget", "()V"⟩
abbrev cX3_remember : ByteArray := prog_5_method_3_code
def yX3_remember : MethodName := ⟨RX3, "remember", "(LDollCongress$Scene;)V"⟩
abbrev cX3_recall : ByteArray := prog_5_method_4_code
def yX3_recall : MethodName := ⟨RX3, "recall", "(LDollCongress$Scene;)V"⟩
def RX4 : String := "DollCongress$Roll"
def TX4 : u_T := fun k => match k with
  | 0 => ("DollCongress$Roll", "votes", "[I", true)
  | 1 => ("DollCongress$Roll", "kind", "[I", true)
  | 2 => ("DollCongress$Roll", "home", "[I", true)
  | 3 => ("DollCongress$Roll", "signs", "[I", true)
  | 4 => ("DollCongress$Roll", "weight", "[I", true)
  | 5 => ("DollCongress$Roll", "courts", "I", false)
  | 6 => ("DollCongress$Roll", "dolls", "I", false)
  | 7 => ("DollCongress$Roll", "pattern", "I", false)
  | 8 => ("DollCongress$Roll", "quota", "I", false)
  | 9 => ("DollCongress$Roll", "hasPattern", "Z", false)
  | _ => ("DollCongress$Roll", "hasQuota", "Z", false)
def tyX4 : Nat → FieldType := fun k => match k with
  | 0 => .array .int
  | 1 => .array .int
  | 2 => .array .int
  | 3 => .array .int
  | 4 => .array .int
  | 5 => .int
  | 6 => .int
  | 7 => .int
  | 8 => .int
  | 9 => .boolean
  | _ => .boolean
abbrev wsX40 : List Cond := u_ws RX4 TX4 11
theorem nmX4 : ∀ a, a < 11 → ∀ b, b < 11 → a ≠ b → (TX4 a).2.1 ≠ (TX4 b).2.1 := by decide +kernel
theorem tyX4_ok : ∀ k, k < 11 → parseFieldDescriptor (TX4 k).2.2.1 = some (tyX4 k) := by decide +kernel
abbrev cX4_init : ByteArray := prog_6_method_1_code
def yX4_init : MethodName := ⟨RX4, "<init>", "()V"⟩
abbrev cX4_clear : ByteArray := prog_6_method_2_code
def yX4_clear : MethodName := ⟨RX4, "clear", "()V"⟩
abbrev cX4_hasCourt : ByteArray := prog_6_method_3_code
def yX4_hasCourt : MethodName := ⟨RX4, "hasCourt", "(I)Z"⟩
abbrev cX4_hasDoll : ByteArray := prog_6_method_4_code
def yX4_hasDoll : MethodName := ⟨RX4, "hasDoll", "(I)Z"⟩
abbrev cX4_allCourts : ByteArray := prog_6_method_5_code
def yX4_allCourts : MethodName := ⟨RX4, "allCourts", "()I"⟩
abbrev cX4_addCourt : ByteArray := prog_6_method_6_code
def yX4_addCourt : MethodName := ⟨RX4, "addCourt", "(I)V"⟩
abbrev cX4_addDoll : ByteArray := prog_6_method_7_code
def yX4_addDoll : MethodName := ⟨RX4, "addDoll", "(III)V"⟩
abbrev cX4_settle : ByteArray := prog_6_method_8_code
def yX4_settle : MethodName := ⟨RX4, "settle", "()V"⟩
abbrev cX4_powerOf : ByteArray := prog_6_method_9_code
def yX4_powerOf : MethodName := ⟨RX4, "powerOf", "(I)I"⟩
abbrev cX4_fewestBlocking : ByteArray := prog_6_method_10_code
def yX4_fewestBlocking : MethodName := ⟨RX4, "fewestBlocking", "()I"⟩
abbrev cX4_fewestAgreeing : ByteArray := prog_6_method_11_code
def yX4_fewestAgreeing : MethodName := ⟨RX4, "fewestAgreeing", "()I"⟩
abbrev cX4_winnerFrom : ByteArray := prog_6_method_12_code
def yX4_winnerFrom : MethodName := ⟨RX4, "winnerFrom", "(II)I"⟩
abbrev cX4_winnerOf : ByteArray := prog_6_method_13_code
def yX4_winnerOf : MethodName := ⟨RX4, "winnerOf", "(II)I"⟩
abbrev cX4_toldOn : ByteArray := prog_6_method_14_code
def yX4_toldOn : MethodName := ⟨RX4, "toldOn", "(I)I"⟩
def RX5 : String := "DollCongress$Scene"
def TX5 : u_T := fun k => match k with
  | 0 => ("DollCongress$Scene", "at", "[I", true)
  | 1 => ("DollCongress$Scene", "signs", "[I", true)
  | 2 => ("DollCongress$Scene", "warmth", "[I", true)
  | 3 => ("DollCongress$Scene", "tears", "[I", true)
  | 4 => ("DollCongress$Scene", "up", "I", false)
  | 5 => ("DollCongress$Scene", "years", "I", false)
  | 6 => ("DollCongress$Scene", "audiences", "I", false)
  | _ => ("DollCongress$Scene", "held", "I", false)
def tyX5 : Nat → FieldType := fun k => match k with
  | 0 => .array .int
  | 1 => .array .int
  | 2 => .array .int
  | 3 => .array .int
  | 4 => .int
  | 5 => .int
  | 6 => .int
  | _ => .int
abbrev wsX50 : List Cond := u_ws RX5 TX5 8
theorem nmX5 : ∀ a, a < 8 → ∀ b, b < 8 → a ≠ b → (TX5 a).2.1 ≠ (TX5 b).2.1 := by decide +kernel
theorem tyX5_ok : ∀ k, k < 8 → parseFieldDescriptor (TX5 k).2.2.1 = some (tyX5 k) := by decide +kernel
abbrev cX5_init : ByteArray := prog_7_method_1_code
def yX5_init : MethodName := ⟨RX5, "<init>", "()V"⟩
abbrev cX5_begin : ByteArray := prog_7_method_2_code
def yX5_begin : MethodName := ⟨RX5, "begin", "(LDollCongress$Roll;)V"⟩
abbrev cX5_copyFrom : ByteArray := prog_7_method_3_code
def yX5_copyFrom : MethodName := ⟨RX5, "copyFrom", "(LDollCongress$Scene;)V"⟩
abbrev cX5_isUp : ByteArray := prog_7_method_4_code
def yX5_isUp : MethodName := ⟨RX5, "isUp", "(I)Z"⟩
abbrev cX5_raise : ByteArray := prog_7_method_5_code
def yX5_raise : MethodName := ⟨RX5, "raise", "(I)V"⟩
abbrev cX5_layBack : ByteArray := prog_7_method_6_code
def yX5_layBack : MethodName := ⟨RX5, "layBack", "(I)V"⟩
abbrev cX5_send : ByteArray := prog_7_method_7_code
def yX5_send : MethodName := ⟨RX5, "send", "(II)V"⟩
abbrev cX5_exchange : ByteArray := prog_7_method_8_code
def yX5_exchange : MethodName := ⟨RX5, "exchange", "(II)V"⟩
abbrev cX5_strays : ByteArray := prog_7_method_9_code
def yX5_strays : MethodName := ⟨RX5, "strays", "(LDollCongress$Roll;)I"⟩
abbrev cX5_nodding : ByteArray := prog_7_method_10_code
def yX5_nodding : MethodName := ⟨RX5, "nodding", "(LDollCongress$Roll;)I"⟩
abbrev cX5_holdAudience : ByteArray := prog_7_method_11_code
def yX5_holdAudience : MethodName := ⟨RX5, "holdAudience", "(LDollCongress$Roll;)Z"⟩
abbrev cX5_passYear : ByteArray := prog_7_method_12_code
def yX5_passYear : MethodName := ⟨RX5, "passYear", "(LDollCongress$Roll;)V"⟩
abbrev cX5_warmthBehind : ByteArray := prog_7_method_13_code
def yX5_warmthBehind : MethodName := ⟨RX5, "warmthBehind", "(LDollCongress$Roll;II)I"⟩
abbrev cX5_yearsUntilWarm : ByteArray := prog_7_method_14_code
def yX5_yearsUntilWarm : MethodName := ⟨RX5, "yearsUntilWarm", "(LDollCongress$Roll;II)I"⟩
abbrev cX5_warmthNext : ByteArray := prog_7_method_15_code
def yX5_warmthNext : MethodName := ⟨RX5, "warmthNext", "(IZII)I"⟩
def RX6 : String := "DollCongress$Signs"
def TX6 : u_T := fun k => match k with
  | _ => ("", "", "", false)
def tyX6 : Nat → FieldType := fun k => match k with
  | _ => .int
abbrev wsX60 : List Cond := u_ws RX6 TX6 0
theorem nmX6 : ∀ a, a < 0 → ∀ b, b < 0 → a ≠ b → (TX6 a).2.1 ≠ (TX6 b).2.1 := by decide +kernel
theorem tyX6_ok : ∀ k, k < 0 → parseFieldDescriptor (TX6 k).2.2.1 = some (tyX6 k) := by decide +kernel
abbrev cX6_within : ByteArray := prog_8_method_2_code
def yX6_within : MethodName := ⟨RX6, "within", "(LDollCongress$Roll;LDollCongress$Scene;I)I"⟩
abbrev cX6_fitting : ByteArray := prog_8_method_3_code
def yX6_fitting : MethodName := ⟨RX6, "fitting", "(LDollCongress$Roll;LDollCongress$Scene;I)I"⟩
abbrev cX6_parting : ByteArray := prog_8_method_4_code
def yX6_parting : MethodName := ⟨RX6, "parting", "(LDollCongress$Roll;LDollCongress$Scene;I)I"⟩
abbrev cX6_telling : ByteArray := prog_8_method_5_code
def yX6_telling : MethodName := ⟨RX6, "telling", "(LDollCongress$Roll;LDollCongress$Scene;)I"⟩
abbrev cX6_tells : ByteArray := prog_8_method_6_code
def yX6_tells : MethodName := ⟨RX6, "tells", "(LDollCongress$Roll;LDollCongress$Scene;I)Z"⟩
def RX7 : String := "DollCongress$Text"
def TX7 : u_T := fun k => match k with
  | 0 => ("DollCongress$Text", "letters", "[I", true)
  | 1 => ("DollCongress$Text", "size", "I", false)
  | 2 => ("DollCongress$Text", "faultNumber", "I", false)
  | 3 => ("DollCongress$Text", "faultPlace", "I", false)
  | _ => ("DollCongress$Text", "place", "I", false)
def tyX7 : Nat → FieldType := fun k => match k with
  | 0 => .array .int
  | 1 => .int
  | 2 => .int
  | 3 => .int
  | _ => .int
abbrev wsX70 : List Cond := u_ws RX7 TX7 5
theorem nmX7 : ∀ a, a < 5 → ∀ b, b < 5 → a ≠ b → (TX7 a).2.1 ≠ (TX7 b).2.1 := by decide +kernel
theorem tyX7_ok : ∀ k, k < 5 → parseFieldDescriptor (TX7 k).2.2.1 = some (tyX7 k) := by decide +kernel
abbrev cX7_init : ByteArray := prog_9_method_1_code
def yX7_init : MethodName := ⟨RX7, "<init>", "()V"⟩
abbrev cX7_readInto : ByteArray := prog_9_method_2_code
def yX7_readInto : MethodName := ⟨RX7, "readInto", "(LDollCongress$Roll;)Z"⟩
abbrev cX7_readClause : ByteArray := prog_9_method_3_code
def yX7_readClause : MethodName := ⟨RX7, "readClause", "(LDollCongress$Roll;)V"⟩
abbrev cX7_readCourts : ByteArray := prog_9_method_4_code
def yX7_readCourts : MethodName := ⟨RX7, "readCourts", "(LDollCongress$Roll;)V"⟩
abbrev cX7_readCourtsMark : ByteArray := prog_9_method_5_code
def yX7_readCourtsMark : MethodName := ⟨RX7, "readCourtsMark", "(LDollCongress$Roll;)Z"⟩
abbrev cX7_readDoll : ByteArray := prog_9_method_6_code
def yX7_readDoll : MethodName := ⟨RX7, "readDoll", "(LDollCongress$Roll;)V"⟩
abbrev cX7_readPattern : ByteArray := prog_9_method_7_code
def yX7_readPattern : MethodName := ⟨RX7, "readPattern", "(LDollCongress$Roll;)V"⟩
abbrev cX7_readQuota : ByteArray := prog_9_method_8_code
def yX7_readQuota : MethodName := ⟨RX7, "readQuota", "(LDollCongress$Roll;)V"⟩
abbrev cX7_readEnd : ByteArray := prog_9_method_9_code
def yX7_readEnd : MethodName := ⟨RX7, "readEnd", "()V"⟩
abbrev cX7_readNumber : ByteArray := prog_9_method_10_code
def yX7_readNumber : MethodName := ⟨RX7, "readNumber", "(II)I"⟩
abbrev cX7_isFigure : ByteArray := prog_9_method_11_code
def yX7_isFigure : MethodName := ⟨RX7, "isFigure", "(I)Z"⟩
abbrev cX7_skipBlanks : ByteArray := prog_9_method_12_code
def yX7_skipBlanks : MethodName := ⟨RX7, "skipBlanks", "()V"⟩
abbrev cX7_letterHere : ByteArray := prog_9_method_13_code
def yX7_letterHere : MethodName := ⟨RX7, "letterHere", "()I"⟩
abbrev cX7_fail : ByteArray := prog_9_method_14_code
def yX7_fail : MethodName := ⟨RX7, "fail", "(II)V"⟩
def RX8 : String := "DollCongress$Wants"
def TX8 : u_T := fun k => match k with
  | 0 => ("DollCongress$Wants", "liked", "[I", true)
  | _ => ("DollCongress$Wants", "best", "[[I", true)
def tyX8 : Nat → FieldType := fun k => match k with
  | 0 => .array .int
  | _ => .array (.array .int)
abbrev wsX80 : List Cond := u_ws RX8 TX8 2
theorem nmX8 : ∀ a, a < 2 → ∀ b, b < 2 → a ≠ b → (TX8 a).2.1 ≠ (TX8 b).2.1 := by decide +kernel
theorem tyX8_ok : ∀ k, k < 2 → parseFieldDescriptor (TX8 k).2.2.1 = some (tyX8 k) := by decide +kernel
abbrev cX8_init : ByteArray := prog_10_method_1_code
def yX8_init : MethodName := ⟨RX8, "<init>", "()V"⟩
abbrev cX8_weigh : ByteArray := prog_10_method_2_code
def yX8_weigh : MethodName := ⟨RX8, "weigh", "(LDollCongress$Roll;LDollCongress$Scene;)V"⟩
abbrev cX8_mostFrom : ByteArray := prog_10_method_3_code
def yX8_mostFrom : MethodName := ⟨RX8, "mostFrom", "(LDollCongress$Roll;LDollCongress$Scene;II)I"⟩
abbrev cX8_pleasure : ByteArray := prog_10_method_4_code
def yX8_pleasure : MethodName := ⟨RX8, "pleasure", "(LDollCongress$Scene;II)I"⟩
abbrev cX8_most : ByteArray := prog_10_method_5_code
def yX8_most : MethodName := ⟨RX8, "most", "()I"⟩
abbrev cX8_dollOf : ByteArray := prog_10_method_6_code
def yX8_dollOf : MethodName := ⟨RX8, "dollOf", "(LDollCongress$Roll;LDollCongress$Scene;I)I"⟩
abbrev cX8_leastTaken : ByteArray := prog_10_method_7_code
def yX8_leastTaken : MethodName := ⟨RX8, "leastTaken", "(LDollCongress$Roll;LDollCongress$Scene;II)I"⟩
def RX9 : String := "DollCongress"
def TX9 : u_T := fun k => match k with
  | 0 => ("DollCongress", "text", "LDollCongress$Text;", true)
  | 1 => ("DollCongress", "now", "LDollCongress$Scene;", true)
  | 2 => ("DollCongress", "past", "LDollCongress$Past;", true)
  | 3 => ("DollCongress", "book", "LDollCongress$Book;", true)
  | 4 => ("DollCongress", "images", "[LDollCongress$Image;", true)
  | 5 => ("DollCongress", "mixings", "LDollCongress$Mixings;", true)
  | 6 => ("DollCongress", "wants", "LDollCongress$Wants;", true)
  | 7 => ("DollCongress", "roll", "LDollCongress$Roll;", false)
  | 8 => ("DollCongress", "spare", "LDollCongress$Roll;", false)
  | _ => ("DollCongress", "chance", "I", false)
def tyX9 : Nat → FieldType := fun k => match k with
  | 0 => .object "DollCongress$Text"
  | 1 => .object "DollCongress$Scene"
  | 2 => .object "DollCongress$Past"
  | 3 => .object "DollCongress$Book"
  | 4 => .array (.object "DollCongress$Image")
  | 5 => .object "DollCongress$Mixings"
  | 6 => .object "DollCongress$Wants"
  | 7 => .object "DollCongress$Roll"
  | 8 => .object "DollCongress$Roll"
  | _ => .int
abbrev wsX90 : List Cond := u_ws RX9 TX9 10
theorem nmX9 : ∀ a, a < 10 → ∀ b, b < 10 → a ≠ b → (TX9 a).2.1 ≠ (TX9 b).2.1 := by decide +kernel
theorem tyX9_ok : ∀ k, k < 10 → parseFieldDescriptor (TX9 k).2.2.1 = some (tyX9 k) := by decide +kernel
abbrev cX9_init : ByteArray := prog_1_method_1_code
def yX9_init : MethodName := ⟨RX9, "<init>", "()V"⟩
abbrev cX9_feed : ByteArray := prog_1_method_2_code
def yX9_feed : MethodName := ⟨RX9, "feed", "(I)I"⟩
abbrev cX9_congress : ByteArray := prog_1_method_3_code
def yX9_congress : MethodName := ⟨RX9, "congress", "()I"⟩
abbrev cX9_fault : ByteArray := prog_1_method_4_code
def yX9_fault : MethodName := ⟨RX9, "fault", "()I"⟩
abbrev cX9_told : ByteArray := prog_1_method_5_code
def yX9_told : MethodName := ⟨RX9, "told", "(I)I"⟩
abbrev cX9_doll : ByteArray := prog_1_method_6_code
def yX9_doll : MethodName := ⟨RX9, "doll", "(II)I"⟩
abbrev cX9_court : ByteArray := prog_1_method_7_code
def yX9_court : MethodName := ⟨RX9, "court", "(II)I"⟩
abbrev cX9_post : ByteArray := prog_1_method_8_code
def yX9_post : MethodName := ⟨RX9, "post", "(II)I"⟩
abbrev cX9_mix : ByteArray := prog_1_method_9_code
def yX9_mix : MethodName := ⟨RX9, "mix", "(II)I"⟩
abbrev cX9_lay : ByteArray := prog_1_method_10_code
def yX9_lay : MethodName := ⟨RX9, "lay", "(IZ)I"⟩
abbrev cX9_mask : ByteArray := prog_1_method_11_code
def yX9_mask : MethodName := ⟨RX9, "mask", "(II)I"⟩
abbrev cX9_audience : ByteArray := prog_1_method_12_code
def yX9_audience : MethodName := ⟨RX9, "audience", "()I"⟩
abbrev cX9_year : ByteArray := prog_1_method_13_code
def yX9_year : MethodName := ⟨RX9, "year", "(I)I"⟩
abbrev cX9_drift : ByteArray := prog_1_method_14_code
def yX9_drift : MethodName := ⟨RX9, "drift", "(I)I"⟩
abbrev cX9_undo : ByteArray := prog_1_method_15_code
def yX9_undo : MethodName := ⟨RX9, "undo", "()I"⟩
abbrev cX9_warm : ByteArray := prog_1_method_16_code
def yX9_warm : MethodName := ⟨RX9, "warm", "(II)I"⟩
abbrev cX9_warmest : ByteArray := prog_1_method_17_code
def yX9_warmest : MethodName := ⟨RX9, "warmest", "(I)I"⟩
abbrev cX9_first : ByteArray := prog_1_method_18_code
def yX9_first : MethodName := ⟨RX9, "first", "(II)I"⟩
abbrev cX9_swaps : ByteArray := prog_1_method_19_code
def yX9_swaps : MethodName := ⟨RX9, "swaps", "(I)I"⟩
abbrev cX9_close : ByteArray := prog_1_method_20_code
def yX9_close : MethodName := ⟨RX9, "close", "(I)I"⟩
abbrev cX9_look : ByteArray := prog_1_method_21_code
def yX9_look : MethodName := ⟨RX9, "look", "(II)I"⟩
abbrev cX9_agreed : ByteArray := prog_1_method_22_code
def yX9_agreed : MethodName := ⟨RX9, "agreed", "(I)I"⟩
abbrev cX9_agenda : ByteArray := prog_1_method_23_code
def yX9_agenda : MethodName := ⟨RX9, "agenda", "(II)I"⟩
abbrev cX9_agendaFor : ByteArray := prog_1_method_24_code
def yX9_agendaFor : MethodName := ⟨RX9, "agendaFor", "(I)I"⟩
abbrev cX9_wanted : ByteArray := prog_1_method_25_code
def yX9_wanted : MethodName := ⟨RX9, "wanted", "(I)I"⟩
abbrev cX9_know : ByteArray := prog_1_method_26_code
def yX9_know : MethodName := ⟨RX9, "know", "(II)I"⟩
abbrev cX9_parcels : ByteArray := prog_1_method_27_code
def yX9_parcels : MethodName := ⟨RX9, "parcels", "(II)I"⟩
abbrev cX9_write : ByteArray := prog_1_method_28_code
def yX9_write : MethodName := ⟨RX9, "write", "(II)I"⟩
abbrev cX9_tear : ByteArray := prog_1_method_29_code
def yX9_tear : MethodName := ⟨RX9, "tear", "()I"⟩
abbrev cX9_judge : ByteArray := prog_1_method_30_code
def yX9_judge : MethodName := ⟨RX9, "judge", "()I"⟩
abbrev cX9_seed : ByteArray := prog_1_method_31_code
def yX9_seed : MethodName := ⟨RX9, "seed", "(I)I"⟩
abbrev cX9_keep : ByteArray := prog_1_method_32_code
def yX9_keep : MethodName := ⟨RX9, "keep", "(I)I"⟩
abbrev cX9_goBack : ByteArray := prog_1_method_33_code
def yX9_goBack : MethodName := ⟨RX9, "goBack", "(I)I"⟩
abbrev cX9_hasCongress : ByteArray := prog_1_method_34_code
def yX9_hasCongress : MethodName := ⟨RX9, "hasCongress", "()Z"⟩
abbrev cX9_isThing : ByteArray := prog_1_method_35_code
def yX9_isThing : MethodName := ⟨RX9, "isThing", "(I)Z"⟩
abbrev cX9_dollsWith : ByteArray := prog_1_method_36_code
def yX9_dollsWith : MethodName := ⟨RX9, "dollsWith", "([II)I"⟩
abbrev cX9_refusalOfYears : ByteArray := prog_1_method_37_code
def yX9_refusalOfYears : MethodName := ⟨RX9, "refusalOfYears", "(I)I"⟩
abbrev cX9_draw : ByteArray := prog_1_method_38_code
def yX9_draw : MethodName := ⟨RX9, "draw", "(I)I"⟩
abbrev cX9_meddle : ByteArray := prog_1_method_39_code
def yX9_meddle : MethodName := ⟨RX9, "meddle", "()V"⟩
abbrev cX9_yearsUntilAllKnow : ByteArray := prog_1_method_40_code
def yX9_yearsUntilAllKnow : MethodName := ⟨RX9, "yearsUntilAllKnow", "(I)I"⟩
def RX10 : String := "DollCongressModel"
def TX10 : u_T := fun k => match k with
  | 0 => ("DollCongressModel", "courts", "I", false)
  | 1 => ("DollCongressModel", "votes", "[I", true)
  | 2 => ("DollCongressModel", "dolls", "I", false)
  | 3 => ("DollCongressModel", "kind", "[I", true)
  | 4 => ("DollCongressModel", "home", "[I", true)
  | 5 => ("DollCongressModel", "signsTold", "[I", true)
  | 6 => ("DollCongressModel", "pattern", "I", false)
  | 7 => ("DollCongressModel", "quota", "I", false)
  | 8 => ("DollCongressModel", "now", "[I", true)
  | 9 => ("DollCongressModel", "seed", "I", false)
  | 10 => ("DollCongressModel", "text", "[I", true)
  | 11 => ("DollCongressModel", "texted", "I", false)
  | 12 => ("DollCongressModel", "faultPlace", "I", false)
  | 13 => ("DollCongressModel", "at0", "I", false)
  | 14 => ("DollCongressModel", "number", "I", false)
  | 15 => ("DollCongressModel", "numberAt", "I", false)
  | 16 => ("DollCongressModel", "readCourts", "I", false)
  | 17 => ("DollCongressModel", "readVotes", "[I", true)
  | 18 => ("DollCongressModel", "readDolls", "I", false)
  | 19 => ("DollCongressModel", "readKind", "[I", true)
  | 20 => ("DollCongressModel", "readHome", "[I", true)
  | 21 => ("DollCongressModel", "readSigns", "[I", true)
  | 22 => ("DollCongressModel", "hasPattern", "Z", false)
  | 23 => ("DollCongressModel", "readPattern", "I", false)
  | 24 => ("DollCongressModel", "readQuota", "I", false)
  | 25 => ("DollCongressModel", "undos", "I", false)
  | 26 => ("DollCongressModel", "past", "[I", true)
  | 27 => ("DollCongressModel", "before", "[I", true)
  | 28 => ("DollCongressModel", "rings", "[I", true)
  | 29 => ("DollCongressModel", "balanced", "[Z", true)
  | 30 => ("DollCongressModel", "most", "[I", true)
  | 31 => ("DollCongressModel", "booked", "I", false)
  | 32 => ("DollCongressModel", "bookOf", "[I", true)
  | 33 => ("DollCongressModel", "bookIs", "[I", true)
  | 34 => ("DollCongressModel", "images", "[I", true)
  | _ => ("DollCongressModel", "isKept", "[Z", true)
def tyX10 : Nat → FieldType := fun k => match k with
  | 0 => .int
  | 1 => .array .int
  | 2 => .int
  | 3 => .array .int
  | 4 => .array .int
  | 5 => .array .int
  | 6 => .int
  | 7 => .int
  | 8 => .array .int
  | 9 => .int
  | 10 => .array .int
  | 11 => .int
  | 12 => .int
  | 13 => .int
  | 14 => .int
  | 15 => .int
  | 16 => .int
  | 17 => .array .int
  | 18 => .int
  | 19 => .array .int
  | 20 => .array .int
  | 21 => .array .int
  | 22 => .boolean
  | 23 => .int
  | 24 => .int
  | 25 => .int
  | 26 => .array .int
  | 27 => .array .int
  | 28 => .array .int
  | 29 => .array .boolean
  | 30 => .array .int
  | 31 => .int
  | 32 => .array .int
  | 33 => .array .int
  | 34 => .array .int
  | _ => .array .boolean
abbrev wsX100 : List Cond := u_ws RX10 TX10 36
theorem nmX10 : ∀ a, a < 36 → ∀ b, b < 36 → a ≠ b → (TX10 a).2.1 ≠ (TX10 b).2.1 := by decide +kernel
theorem tyX10_ok : ∀ k, k < 36 → parseFieldDescriptor (TX10 k).2.2.1 = some (tyX10 k) := by decide +kernel
abbrev cX10_init : ByteArray := prog_12_method_1_code
def yX10_init : MethodName := ⟨RX10, "<init>", "()V"⟩
abbrev cX10_in : ByteArray := prog_12_method_3_code
def yX10_in : MethodName := ⟨RX10, "in", "(JJJ)Z"⟩
abbrev cX10_has : ByteArray := prog_12_method_4_code
def yX10_has : MethodName := ⟨RX10, "has", "(II)Z"⟩
abbrev cX10_bits : ByteArray := prog_12_method_5_code
def yX10_bits : MethodName := ⟨RX10, "bits", "(I)I"⟩
abbrev cX10_isCourt : ByteArray := prog_12_method_6_code
def yX10_isCourt : MethodName := ⟨RX10, "isCourt", "(I)Z"⟩
abbrev cX10_isDoll : ByteArray := prog_12_method_7_code
def yX10_isDoll : MethodName := ⟨RX10, "isDoll", "(I)Z"⟩
abbrev cX10_feed : ByteArray := prog_12_method_8_code
def yX10_feed : MethodName := ⟨RX10, "feed", "(I)I"⟩
abbrev cX10_here : ByteArray := prog_12_method_9_code
def yX10_here : MethodName := ⟨RX10, "here", "()I"⟩
abbrev cX10_fails : ByteArray := prog_12_method_10_code
def yX10_fails : MethodName := ⟨RX10, "fails", "(II)I"⟩
abbrev cX10_takeNumber : ByteArray := prog_12_method_11_code
def yX10_takeNumber : MethodName := ⟨RX10, "takeNumber", "(II)I"⟩
abbrev cX10_into : ByteArray := prog_12_method_12_code
def yX10_into : MethodName := ⟨RX10, "into", "([IIII)I"⟩
abbrev cX10_takeCourts : ByteArray := prog_12_method_13_code
def yX10_takeCourts : MethodName := ⟨RX10, "takeCourts", "()I"⟩
abbrev cX10_takeDoll : ByteArray := prog_12_method_14_code
def yX10_takeDoll : MethodName := ⟨RX10, "takeDoll", "()I"⟩
abbrev cX10_takePattern : ByteArray := prog_12_method_15_code
def yX10_takePattern : MethodName := ⟨RX10, "takePattern", "()I"⟩
abbrev cX10_takeQuota : ByteArray := prog_12_method_16_code
def yX10_takeQuota : MethodName := ⟨RX10, "takeQuota", "()I"⟩
abbrev cX10_isFull : ByteArray := prog_12_method_17_code
def yX10_isFull : MethodName := ⟨RX10, "isFull", "(I)Z"⟩
abbrev cX10_takeClause : ByteArray := prog_12_method_18_code
def yX10_takeClause : MethodName := ⟨RX10, "takeClause", "()I"⟩
abbrev cX10_copyRow : ByteArray := prog_12_method_19_code
def yX10_copyRow : MethodName := ⟨RX10, "copyRow", "([I[II)V"⟩
abbrev cX10_takeRead : ByteArray := prog_12_method_20_code
def yX10_takeRead : MethodName := ⟨RX10, "takeRead", "()V"⟩
abbrev cX10_congress : ByteArray := prog_12_method_21_code
def yX10_congress : MethodName := ⟨RX10, "congress", "()I"⟩
abbrev cX10_fault : ByteArray := prog_12_method_22_code
def yX10_fault : MethodName := ⟨RX10, "fault", "()I"⟩
abbrev cX10_votesOf : ByteArray := prog_12_method_23_code
def yX10_votesOf : MethodName := ⟨RX10, "votesOf", "(I)I"⟩
abbrev cX10_hasQuota : ByteArray := prog_12_method_24_code
def yX10_hasQuota : MethodName := ⟨RX10, "hasQuota", "(I)Z"⟩
abbrev cX10_whoIsAt : ByteArray := prog_12_method_25_code
def yX10_whoIsAt : MethodName := ⟨RX10, "whoIsAt", "(I)I"⟩
abbrev cX10_whoBelongsTo : ByteArray := prog_12_method_26_code
def yX10_whoBelongsTo : MethodName := ⟨RX10, "whoBelongsTo", "(I)I"⟩
abbrev cX10_nods : ByteArray := prog_12_method_27_code
def yX10_nods : MethodName := ⟨RX10, "nods", "(I)Z"⟩
abbrev cX10_noddingOnes : ByteArray := prog_12_method_28_code
def yX10_noddingOnes : MethodName := ⟨RX10, "noddingOnes", "()I"⟩
abbrev cX10_factorial : ByteArray := prog_12_method_29_code
def yX10_factorial : MethodName := ⟨RX10, "factorial", "(I)I"⟩
abbrev cX10_power : ByteArray := prog_12_method_30_code
def yX10_power : MethodName := ⟨RX10, "power", "(I)I"⟩
abbrev cX10_blocks : ByteArray := prog_12_method_31_code
def yX10_blocks : MethodName := ⟨RX10, "blocks", "()I"⟩
abbrev cX10_fewest : ByteArray := prog_12_method_32_code
def yX10_fewest : MethodName := ⟨RX10, "fewest", "()I"⟩
abbrev cX10_wrongOnes : ByteArray := prog_12_method_33_code
def yX10_wrongOnes : MethodName := ⟨RX10, "wrongOnes", "()I"⟩
abbrev cX10_closeOnes : ByteArray := prog_12_method_34_code
def yX10_closeOnes : MethodName := ⟨RX10, "closeOnes", "(I)I"⟩
abbrev cX10_tells : ByteArray := prog_12_method_35_code
def yX10_tells : MethodName := ⟨RX10, "tells", "(I)Z"⟩
abbrev cX10_tellingOnes : ByteArray := prog_12_method_36_code
def yX10_tellingOnes : MethodName := ⟨RX10, "tellingOnes", "()I"⟩
abbrev cX10_told : ByteArray := prog_12_method_37_code
def yX10_told : MethodName := ⟨RX10, "told", "(I)I"⟩
abbrev cX10_doll : ByteArray := prog_12_method_38_code
def yX10_doll : MethodName := ⟨RX10, "doll", "(II)I"⟩
abbrev cX10_court : ByteArray := prog_12_method_39_code
def yX10_court : MethodName := ⟨RX10, "court", "(II)I"⟩
abbrev cX10_moreWarm : ByteArray := prog_12_method_40_code
def yX10_moreWarm : MethodName := ⟨RX10, "moreWarm", "(I)I"⟩
abbrev cX10_pass : ByteArray := prog_12_method_41_code
def yX10_pass : MethodName := ⟨RX10, "pass", "()V"⟩
abbrev cX10_remember : ByteArray := prog_12_method_42_code
def yX10_remember : MethodName := ⟨RX10, "remember", "()V"⟩
abbrev cX10_layNow : ByteArray := prog_12_method_43_code
def yX10_layNow : MethodName := ⟨RX10, "layNow", "(IZ)V"⟩
abbrev cX10_sendNow : ByteArray := prog_12_method_44_code
def yX10_sendNow : MethodName := ⟨RX10, "sendNow", "(II)V"⟩
abbrev cX10_post : ByteArray := prog_12_method_45_code
def yX10_post : MethodName := ⟨RX10, "post", "(II)I"⟩
abbrev cX10_mixNow : ByteArray := prog_12_method_46_code
def yX10_mixNow : MethodName := ⟨RX10, "mixNow", "(II)V"⟩
abbrev cX10_mix : ByteArray := prog_12_method_47_code
def yX10_mix : MethodName := ⟨RX10, "mix", "(II)I"⟩
abbrev cX10_lay : ByteArray := prog_12_method_48_code
def yX10_lay : MethodName := ⟨RX10, "lay", "(IZ)I"⟩
abbrev cX10_mask : ByteArray := prog_12_method_49_code
def yX10_mask : MethodName := ⟨RX10, "mask", "(II)I"⟩
abbrev cX10_audienceNow : ByteArray := prog_12_method_50_code
def yX10_audienceNow : MethodName := ⟨RX10, "audienceNow", "()I"⟩
abbrev cX10_audience : ByteArray := prog_12_method_51_code
def yX10_audience : MethodName := ⟨RX10, "audience", "()I"⟩
abbrev cX10_yearsRefused : ByteArray := prog_12_method_52_code
def yX10_yearsRefused : MethodName := ⟨RX10, "yearsRefused", "(I)I"⟩
abbrev cX10_year : ByteArray := prog_12_method_53_code
def yX10_year : MethodName := ⟨RX10, "year", "(I)I"⟩
abbrev cX10_draw : ByteArray := prog_12_method_54_code
def yX10_draw : MethodName := ⟨RX10, "draw", "(I)I"⟩
abbrev cX10_chance : ByteArray := prog_12_method_55_code
def yX10_chance : MethodName := ⟨RX10, "chance", "()V"⟩
abbrev cX10_drift : ByteArray := prog_12_method_56_code
def yX10_drift : MethodName := ⟨RX10, "drift", "(I)I"⟩
abbrev cX10_undo : ByteArray := prog_12_method_57_code
def yX10_undo : MethodName := ⟨RX10, "undo", "()I"⟩
abbrev cX10_warm : ByteArray := prog_12_method_58_code
def yX10_warm : MethodName := ⟨RX10, "warm", "(II)I"⟩
abbrev cX10_warmest : ByteArray := prog_12_method_59_code
def yX10_warmest : MethodName := ⟨RX10, "warmest", "(I)I"⟩
abbrev cX10_first : ByteArray := prog_12_method_60_code
def yX10_first : MethodName := ⟨RX10, "first", "(II)I"⟩
abbrev cX10_isBalanced : ByteArray := prog_12_method_61_code
def yX10_isBalanced : MethodName := ⟨RX10, "isBalanced", "(I)Z"⟩
abbrev cX10_findRings : ByteArray := prog_12_method_62_code
def yX10_findRings : MethodName := ⟨RX10, "findRings", "()V"⟩
abbrev cX10_fewestSwaps : ByteArray := prog_12_method_63_code
def yX10_fewestSwaps : MethodName := ⟨RX10, "fewestSwaps", "()I"⟩
abbrev cX10_firstSwap : ByteArray := prog_12_method_64_code
def yX10_firstSwap : MethodName := ⟨RX10, "firstSwap", "(I)I"⟩
abbrev cX10_swaps : ByteArray := prog_12_method_65_code
def yX10_swaps : MethodName := ⟨RX10, "swaps", "(I)I"⟩
abbrev cX10_close : ByteArray := prog_12_method_66_code
def yX10_close : MethodName := ⟨RX10, "close", "(I)I"⟩
abbrev cX10_likeIn : ByteArray := prog_12_method_67_code
def yX10_likeIn : MethodName := ⟨RX10, "likeIn", "(I)I"⟩
abbrev cX10_nextSign : ByteArray := prog_12_method_68_code
def yX10_nextSign : MethodName := ⟨RX10, "nextSign", "(I)I"⟩
abbrev cX10_look : ByteArray := prog_12_method_69_code
def yX10_look : MethodName := ⟨RX10, "look", "(II)I"⟩
abbrev cX10_agreed : ByteArray := prog_12_method_70_code
def yX10_agreed : MethodName := ⟨RX10, "agreed", "(I)I"⟩
abbrev cX10_placeOf : ByteArray := prog_12_method_71_code
def yX10_placeOf : MethodName := ⟨RX10, "placeOf", "(II)I"⟩
abbrev cX10_winnerOf : ByteArray := prog_12_method_72_code
def yX10_winnerOf : MethodName := ⟨RX10, "winnerOf", "(II)I"⟩
abbrev cX10_agendaOf : ByteArray := prog_12_method_73_code
def yX10_agendaOf : MethodName := ⟨RX10, "agendaOf", "(II)I"⟩
abbrev cX10_agenda : ByteArray := prog_12_method_74_code
def yX10_agenda : MethodName := ⟨RX10, "agenda", "(II)I"⟩
abbrev cX10_agendaFor : ByteArray := prog_12_method_75_code
def yX10_agendaFor : MethodName := ⟨RX10, "agendaFor", "(I)I"⟩
abbrev cX10_pleases : ByteArray := prog_12_method_76_code
def yX10_pleases : MethodName := ⟨RX10, "pleases", "(II)I"⟩
abbrev cX10_findWanted : ByteArray := prog_12_method_77_code
def yX10_findWanted : MethodName := ⟨RX10, "findWanted", "()V"⟩
abbrev cX10_wantedBy : ByteArray := prog_12_method_78_code
def yX10_wantedBy : MethodName := ⟨RX10, "wantedBy", "(I)I"⟩
abbrev cX10_wanted : ByteArray := prog_12_method_79_code
def yX10_wanted : MethodName := ⟨RX10, "wanted", "(I)I"⟩
abbrev cX10_whoKnows : ByteArray := prog_12_method_80_code
def yX10_whoKnows : MethodName := ⟨RX10, "whoKnows", "(II)I"⟩
abbrev cX10_know : ByteArray := prog_12_method_81_code
def yX10_know : MethodName := ⟨RX10, "know", "(II)I"⟩
abbrev cX10_parcels : ByteArray := prog_12_method_82_code
def yX10_parcels : MethodName := ⟨RX10, "parcels", "(II)I"⟩
abbrev cX10_write : ByteArray := prog_12_method_83_code
def yX10_write : MethodName := ⟨RX10, "write", "(II)I"⟩
abbrev cX10_tear : ByteArray := prog_12_method_84_code
def yX10_tear : MethodName := ⟨RX10, "tear", "()I"⟩
abbrev cX10_judge : ByteArray := prog_12_method_85_code
def yX10_judge : MethodName := ⟨RX10, "judge", "()I"⟩
abbrev cX10_seed : ByteArray := prog_12_method_86_code
def yX10_seed : MethodName := ⟨RX10, "seed", "(I)I"⟩
abbrev cX10_keep : ByteArray := prog_12_method_87_code
def yX10_keep : MethodName := ⟨RX10, "keep", "(I)I"⟩
abbrev cX10_goBack : ByteArray := prog_12_method_88_code
def yX10_goBack : MethodName := ⟨RX10, "goBack", "(I)I"⟩
def RJ6 : String := "java/lang/Integer"
def TJ6 : u_T := fun k => match k with
  | _ => ("", "", "", false)
def tyJ6 : Nat → FieldType := fun k => match k with
  | _ => .int
abbrev wsJ60 : List Cond := u_ws RJ6 TJ6 0
theorem nmJ6 : ∀ a, a < 0 → ∀ b, b < 0 → a ≠ b → (TJ6 a).2.1 ≠ (TJ6 b).2.1 := by decide +kernel
theorem tyJ6_ok : ∀ k, k < 0 → parseFieldDescriptor (TJ6 k).2.2.1 = some (tyJ6 k) := by decide +kernel
abbrev cJ6_bitCount_0f7a4 : ByteArray := prog_13_method_49_code
def yJ6_bitCount_0f7a4 : MethodName := ⟨RJ6, "bitCount", "(I)I"⟩
def RJ9 : String := "java/lang/Math"
def TJ9 : u_T := fun k => match k with
  | _ => ("", "", "", false)
def tyJ9 : Nat → FieldType := fun k => match k with
  | _ => .int
abbrev wsJ90 : List Cond := u_ws RJ9 TJ9 0
theorem nmJ9 : ∀ a, a < 0 → ∀ b, b < 0 → a ≠ b → (TJ9 a).2.1 ≠ (TJ9 b).2.1 := by decide +kernel
theorem tyJ9_ok : ∀ k, k < 0 → parseFieldDescriptor (TJ9 k).2.2.1 = some (tyJ9 k) := by decide +kernel
abbrev cJ9_max_7cf53 : ByteArray := prog_14_method_65_code
def yJ9_max_7cf53 : MethodName := ⟨RJ9, "max", "(II)I"⟩
abbrev cJ9_min_7cf53 : ByteArray := prog_14_method_69_code
def yJ9_min_7cf53 : MethodName := ⟨RJ9, "min", "(II)I"⟩
def RJ10 : String := "java/lang/System"
def TJ10 : u_T := fun k => match k with
  | _ => ("", "", "", false)
def tyJ10 : Nat → FieldType := fun k => match k with
  | _ => .int
abbrev wsJ100 : List Cond := u_ws RJ10 TJ10 0
theorem nmJ10 : ∀ a, a < 0 → ∀ b, b < 0 → a ≠ b → (TJ10 a).2.1 ≠ (TJ10 b).2.1 := by decide +kernel
theorem tyJ10_ok : ∀ k, k < 0 → parseFieldDescriptor (TJ10 k).2.2.1 = some (tyJ10 k) := by decide +kernel
def RJ7 : String := "java/util/Arrays"
def TJ7 : u_T := fun k => match k with
  | _ => ("", "", "", false)
def tyJ7 : Nat → FieldType := fun k => match k with
  | _ => .int
abbrev wsJ70 : List Cond := u_ws RJ7 TJ7 0
theorem nmJ7 : ∀ a, a < 0 → ∀ b, b < 0 → a ≠ b → (TJ7 a).2.1 ≠ (TJ7 b).2.1 := by decide +kernel
theorem tyJ7_ok : ∀ k, k < 0 → parseFieldDescriptor (TJ7 k).2.2.1 = some (tyJ7 k) := by decide +kernel
abbrev cJ7_fill_53178 : ByteArray := prog_16_method_103_code
def yJ7_fill_53178 : MethodName := ⟨RJ7, "fill", "([II)V"⟩
def RL : String := "DollCongressLaw"
abbrev cL_law : ByteArray := code
def yL_law : MethodName := ⟨RL, "law", "([I)Z"⟩
abbrev vwCl : List vw_C := [(RX0, TX0, 3), (RX1, TX1, 3), (RX2, TX2, 5), (RX3, TX3, 3), (RX4, TX4, 11), (RX5, TX5, 8), (RX7, TX7, 5), (RX8, TX8, 2), (RX9, TX9, 10), (RX10, TX10, 36)]
end
section
theorem dX0_init_0 : decode cX0_init 0 = .ok (.aload_n 0, 1) := by decide +kernel
theorem dX0_init_1 : decode cX0_init 1 = .ok (.invokespecial 3, 3) := by decide +kernel
theorem dX0_init_4 : decode cX0_init 4 = .ok (.aload_n 0, 1) := by decide +kernel
theorem dX0_init_5 : decode cX0_init 5 = .ok (.bipush 15, 2) := by decide +kernel
theorem dX0_init_7 : decode cX0_init 7 = .ok (.newarray .int, 2) := by decide +kernel
theorem dX0_init_9 : decode cX0_init 9 = .ok (.putfield 9, 3) := by decide +kernel
theorem dX0_init_12 : decode cX0_init 12 = .ok (.aload_n 0, 1) := by decide +kernel
theorem dX0_init_13 : decode cX0_init 13 = .ok (.bipush 15, 2) := by decide +kernel
theorem dX0_init_15 : decode cX0_init 15 = .ok (.newarray .int, 2) := by decide +kernel
theorem dX0_init_17 : decode cX0_init 17 = .ok (.putfield 15, 3) := by decide +kernel
theorem dX0_init_20 : decode cX0_init 20 = .ok (.return_, 1) := by decide +kernel
theorem dX0_add_0 : decode cX0_add 0 = .ok (.aload_n 0, 1) := by decide +kernel
theorem dX0_add_1 : decode cX0_add 1 = .ok (.getfield 18, 3) := by decide +kernel
theorem dX0_add_4 : decode cX0_add 4 = .ok (.bipush 15, 2) := by decide +kernel
theorem dX0_add_6 : decode cX0_add 6 = .ok (.if_icmp .ge 33, 3) := by decide +kernel
theorem dX0_add_9 : decode cX0_add 9 = .ok (.aload_n 0, 1) := by decide +kernel
theorem dX0_add_10 : decode cX0_add 10 = .ok (.getfield 9, 3) := by decide +kernel
theorem dX0_add_13 : decode cX0_add 13 = .ok (.aload_n 0, 1) := by decide +kernel
theorem dX0_add_14 : decode cX0_add 14 = .ok (.getfield 18, 3) := by decide +kernel
theorem dX0_add_17 : decode cX0_add 17 = .ok (.iload_n 1, 1) := by decide +kernel
theorem dX0_add_18 : decode cX0_add 18 = .ok (.iastore, 1) := by decide +kernel
theorem dX0_add_19 : decode cX0_add 19 = .ok (.aload_n 0, 1) := by decide +kernel
theorem dX0_add_20 : decode cX0_add 20 = .ok (.getfield 15, 3) := by decide +kernel
theorem dX0_add_23 : decode cX0_add 23 = .ok (.aload_n 0, 1) := by decide +kernel
theorem dX0_add_24 : decode cX0_add 24 = .ok (.getfield 18, 3) := by decide +kernel
theorem dX0_add_27 : decode cX0_add 27 = .ok (.iload_n 2, 1) := by decide +kernel
theorem dX0_add_28 : decode cX0_add 28 = .ok (.iastore, 1) := by decide +kernel
theorem dX0_add_29 : decode cX0_add 29 = .ok (.aload_n 0, 1) := by decide +kernel
theorem dX0_add_30 : decode cX0_add 30 = .ok (.dup, 1) := by decide +kernel
theorem dX0_add_31 : decode cX0_add 31 = .ok (.getfield 18, 3) := by decide +kernel
theorem dX0_add_34 : decode cX0_add 34 = .ok (.iconst 1, 1) := by decide +kernel
theorem dX0_add_35 : decode cX0_add 35 = .ok (.iadd, 1) := by decide +kernel
theorem dX0_add_36 : decode cX0_add 36 = .ok (.putfield 18, 3) := by decide +kernel
theorem dX0_add_39 : decode cX0_add 39 = .ok (.return_, 1) := by decide +kernel
theorem dX0_firstWrong_0 : decode cX0_firstWrong 0 = .ok (.iconst 0, 1) := by decide +kernel
theorem dX0_firstWrong_1 : decode cX0_firstWrong 1 = .ok (.istore_n 2, 1) := by decide +kernel
theorem dX0_firstWrong_2 : decode cX0_firstWrong 2 = .ok (.iload_n 2, 1) := by decide +kernel
theorem dX0_firstWrong_3 : decode cX0_firstWrong 3 = .ok (.aload_n 0, 1) := by decide +kernel
theorem dX0_firstWrong_4 : decode cX0_firstWrong 4 = .ok (.getfield 18, 3) := by decide +kernel
theorem dX0_firstWrong_7 : decode cX0_firstWrong 7 = .ok (.if_icmp .ge 31, 3) := by decide +kernel
theorem dX0_firstWrong_10 : decode cX0_firstWrong 10 = .ok (.aload_n 1, 1) := by decide +kernel
theorem dX0_firstWrong_11 : decode cX0_firstWrong 11 = .ok (.getfield 22, 3) := by decide +kernel
theorem dX0_firstWrong_14 : decode cX0_firstWrong 14 = .ok (.aload_n 0, 1) := by decide +kernel
theorem dX0_firstWrong_15 : decode cX0_firstWrong 15 = .ok (.getfield 9, 3) := by decide +kernel
theorem dX0_firstWrong_18 : decode cX0_firstWrong 18 = .ok (.iload_n 2, 1) := by decide +kernel
theorem dX0_firstWrong_19 : decode cX0_firstWrong 19 = .ok (.iaload, 1) := by decide +kernel
theorem dX0_firstWrong_20 : decode cX0_firstWrong 20 = .ok (.iaload, 1) := by decide +kernel
theorem dX0_firstWrong_21 : decode cX0_firstWrong 21 = .ok (.aload_n 0, 1) := by decide +kernel
theorem dX0_firstWrong_22 : decode cX0_firstWrong 22 = .ok (.getfield 15, 3) := by decide +kernel
theorem dX0_firstWrong_25 : decode cX0_firstWrong 25 = .ok (.iload_n 2, 1) := by decide +kernel
theorem dX0_firstWrong_26 : decode cX0_firstWrong 26 = .ok (.iaload, 1) := by decide +kernel
theorem dX0_firstWrong_27 : decode cX0_firstWrong 27 = .ok (.if_icmp .eq 5, 3) := by decide +kernel
theorem dX0_firstWrong_30 : decode cX0_firstWrong 30 = .ok (.iload_n 2, 1) := by decide +kernel
theorem dX0_firstWrong_31 : decode cX0_firstWrong 31 = .ok (.ireturn, 1) := by decide +kernel
theorem dX0_firstWrong_32 : decode cX0_firstWrong 32 = .ok (.iinc 2 1, 3) := by decide +kernel
theorem dX0_firstWrong_35 : decode cX0_firstWrong 35 = .ok (.goto (-33), 3) := by decide +kernel
theorem dX0_firstWrong_38 : decode cX0_firstWrong 38 = .ok (.iconst (-1), 1) := by decide +kernel
theorem dX0_firstWrong_39 : decode cX0_firstWrong 39 = .ok (.ireturn, 1) := by decide +kernel
theorem dX1_init_0 : decode cX1_init 0 = .ok (.aload_n 0, 1) := by decide +kernel
theorem dX1_init_1 : decode cX1_init 1 = .ok (.invokespecial 1, 3) := by decide +kernel
theorem dX1_init_4 : decode cX1_init 4 = .ok (.aload_n 0, 1) := by decide +kernel
theorem dX1_init_5 : decode cX1_init 5 = .ok (.new 7, 3) := by decide +kernel
theorem dX1_init_8 : decode cX1_init 8 = .ok (.dup, 1) := by decide +kernel
theorem dX1_init_9 : decode cX1_init 9 = .ok (.invokespecial 9, 3) := by decide +kernel
theorem dX1_init_12 : decode cX1_init 12 = .ok (.putfield 10, 3) := by decide +kernel
theorem dX1_init_15 : decode cX1_init 15 = .ok (.return_, 1) := by decide +kernel
theorem dX2_init_0 : decode cX2_init 0 = .ok (.aload_n 0, 1) := by decide +kernel
theorem dX2_init_1 : decode cX2_init 1 = .ok (.invokespecial 3, 3) := by decide +kernel
theorem dX2_init_4 : decode cX2_init 4 = .ok (.aload_n 0, 1) := by decide +kernel
theorem dX2_init_5 : decode cX2_init 5 = .ok (.bipush 8, 2) := by decide +kernel
theorem dX2_init_7 : decode cX2_init 7 = .ok (.newarray .int, 2) := by decide +kernel
theorem dX2_init_9 : decode cX2_init 9 = .ok (.putfield 9, 3) := by decide +kernel
theorem dX2_init_12 : decode cX2_init 12 = .ok (.aload_n 0, 1) := by decide +kernel
theorem dX2_init_13 : decode cX2_init 13 = .ok (.bipush 8, 2) := by decide +kernel
theorem dX2_init_15 : decode cX2_init 15 = .ok (.newarray .int, 2) := by decide +kernel
theorem dX2_init_17 : decode cX2_init 17 = .ok (.putfield 15, 3) := by decide +kernel
theorem dX2_init_20 : decode cX2_init 20 = .ok (.aload_n 0, 1) := by decide +kernel
theorem dX2_init_21 : decode cX2_init 21 = .ok (.sipush 256, 3) := by decide +kernel
theorem dX2_init_24 : decode cX2_init 24 = .ok (.newarray .int, 2) := by decide +kernel
theorem dX2_init_26 : decode cX2_init 26 = .ok (.putfield 18, 3) := by decide +kernel
theorem dX2_init_29 : decode cX2_init 29 = .ok (.aload_n 0, 1) := by decide +kernel
theorem dX2_init_30 : decode cX2_init 30 = .ok (.sipush 256, 3) := by decide +kernel
theorem dX2_init_33 : decode cX2_init 33 = .ok (.newarray .int, 2) := by decide +kernel
theorem dX2_init_35 : decode cX2_init 35 = .ok (.putfield 21, 3) := by decide +kernel
theorem dX2_init_38 : decode cX2_init 38 = .ok (.return_, 1) := by decide +kernel
theorem dX2_fewest_0 : decode cX2_fewest 0 = .ok (.aload_n 0, 1) := by decide +kernel
theorem dX2_fewest_1 : decode cX2_fewest 1 = .ok (.aload_n 1, 1) := by decide +kernel
theorem dX2_fewest_2 : decode cX2_fewest 2 = .ok (.aload_n 2, 1) := by decide +kernel
theorem dX2_fewest_3 : decode cX2_fewest 3 = .ok (.invokevirtual 24, 3) := by decide +kernel
theorem dX2_fewest_6 : decode cX2_fewest 6 = .ok (.iconst 1, 1) := by decide +kernel
theorem dX2_fewest_7 : decode cX2_fewest 7 = .ok (.aload_n 0, 1) := by decide +kernel
theorem dX2_fewest_8 : decode cX2_fewest 8 = .ok (.getfield 28, 3) := by decide +kernel
theorem dX2_fewest_11 : decode cX2_fewest 11 = .ok (.ishl, 1) := by decide +kernel
theorem dX2_fewest_12 : decode cX2_fewest 12 = .ok (.iconst 1, 1) := by decide +kernel
theorem dX2_fewest_13 : decode cX2_fewest 13 = .ok (.isub, 1) := by decide +kernel
theorem dX2_fewest_14 : decode cX2_fewest 14 = .ok (.istore_n 3, 1) := by decide +kernel
theorem dX2_fewest_15 : decode cX2_fewest 15 = .ok (.aload_n 0, 1) := by decide +kernel
theorem dX2_fewest_16 : decode cX2_fewest 16 = .ok (.getfield 18, 3) := by decide +kernel
theorem dX2_fewest_19 : decode cX2_fewest 19 = .ok (.iconst 0, 1) := by decide +kernel
theorem dX2_fewest_20 : decode cX2_fewest 20 = .ok (.iconst 0, 1) := by decide +kernel
theorem dX2_fewest_21 : decode cX2_fewest 21 = .ok (.iastore, 1) := by decide +kernel
theorem dX2_fewest_22 : decode cX2_fewest 22 = .ok (.aload_n 0, 1) := by decide +kernel
theorem dX2_fewest_23 : decode cX2_fewest 23 = .ok (.getfield 21, 3) := by decide +kernel
theorem dX2_fewest_26 : decode cX2_fewest 26 = .ok (.iconst 0, 1) := by decide +kernel
theorem dX2_fewest_27 : decode cX2_fewest 27 = .ok (.iconst 0, 1) := by decide +kernel
theorem dX2_fewest_28 : decode cX2_fewest 28 = .ok (.iastore, 1) := by decide +kernel
theorem dX2_fewest_29 : decode cX2_fewest 29 = .ok (.iconst 1, 1) := by decide +kernel
theorem dX2_fewest_30 : decode cX2_fewest 30 = .ok (.istore 4, 2) := by decide +kernel
theorem dX2_fewest_32 : decode cX2_fewest 32 = .ok (.iload 4, 2) := by decide +kernel
theorem dX2_fewest_34 : decode cX2_fewest 34 = .ok (.iload_n 3, 1) := by decide +kernel
theorem dX2_fewest_35 : decode cX2_fewest 35 = .ok (.if_icmp .gt 15, 3) := by decide +kernel
theorem dX2_fewest_38 : decode cX2_fewest 38 = .ok (.aload_n 0, 1) := by decide +kernel
theorem dX2_fewest_39 : decode cX2_fewest 39 = .ok (.iload 4, 2) := by decide +kernel
theorem dX2_fewest_41 : decode cX2_fewest 41 = .ok (.invokevirtual 32, 3) := by decide +kernel
theorem dX2_fewest_44 : decode cX2_fewest 44 = .ok (.iinc 4 1, 3) := by decide +kernel
theorem dX2_fewest_47 : decode cX2_fewest 47 = .ok (.goto (-15), 3) := by decide +kernel
theorem dX2_fewest_50 : decode cX2_fewest 50 = .ok (.aload_n 0, 1) := by decide +kernel
theorem dX2_fewest_51 : decode cX2_fewest 51 = .ok (.getfield 18, 3) := by decide +kernel
theorem dX2_fewest_54 : decode cX2_fewest 54 = .ok (.iload_n 3, 1) := by decide +kernel
theorem dX2_fewest_55 : decode cX2_fewest 55 = .ok (.iaload, 1) := by decide +kernel
theorem dX2_fewest_56 : decode cX2_fewest 56 = .ok (.ifCond .ne 17, 3) := by decide +kernel
theorem dX2_fewest_59 : decode cX2_fewest 59 = .ok (.aload_n 0, 1) := by decide +kernel
theorem dX2_fewest_60 : decode cX2_fewest 60 = .ok (.getfield 28, 3) := by decide +kernel
theorem dX2_fewest_63 : decode cX2_fewest 63 = .ok (.aload_n 0, 1) := by decide +kernel
theorem dX2_fewest_64 : decode cX2_fewest 64 = .ok (.getfield 21, 3) := by decide +kernel
theorem dX2_fewest_67 : decode cX2_fewest 67 = .ok (.iload_n 3, 1) := by decide +kernel
theorem dX2_fewest_68 : decode cX2_fewest 68 = .ok (.iaload, 1) := by decide +kernel
theorem dX2_fewest_69 : decode cX2_fewest 69 = .ok (.isub, 1) := by decide +kernel
theorem dX2_fewest_70 : decode cX2_fewest 70 = .ok (.goto 4, 3) := by decide +kernel
theorem dX2_fewest_73 : decode cX2_fewest 73 = .ok (.iconst (-1), 1) := by decide +kernel
theorem dX2_fewest_74 : decode cX2_fewest 74 = .ok (.ireturn, 1) := by decide +kernel
theorem dX2_leastOpening_0 : decode cX2_leastOpening 0 = .ok (.aload_n 0, 1) := by decide +kernel
theorem dX2_leastOpening_1 : decode cX2_leastOpening 1 = .ok (.aload_n 1, 1) := by decide +kernel
theorem dX2_leastOpening_2 : decode cX2_leastOpening 2 = .ok (.aload_n 2, 1) := by decide +kernel
theorem dX2_leastOpening_3 : decode cX2_leastOpening 3 = .ok (.invokevirtual 36, 3) := by decide +kernel
theorem dX2_leastOpening_6 : decode cX2_leastOpening 6 = .ok (.ifCond .gt 5, 3) := by decide +kernel
theorem dX2_leastOpening_9 : decode cX2_leastOpening 9 = .ok (.iconst (-1), 1) := by decide +kernel
theorem dX2_leastOpening_10 : decode cX2_leastOpening 10 = .ok (.ireturn, 1) := by decide +kernel
theorem dX2_leastOpening_11 : decode cX2_leastOpening 11 = .ok (.iconst 1, 1) := by decide +kernel
theorem dX2_leastOpening_12 : decode cX2_leastOpening 12 = .ok (.aload_n 0, 1) := by decide +kernel
theorem dX2_leastOpening_13 : decode cX2_leastOpening 13 = .ok (.getfield 28, 3) := by decide +kernel
theorem dX2_leastOpening_16 : decode cX2_leastOpening 16 = .ok (.ishl, 1) := by decide +kernel
theorem dX2_leastOpening_17 : decode cX2_leastOpening 17 = .ok (.iconst 1, 1) := by decide +kernel
theorem dX2_leastOpening_18 : decode cX2_leastOpening 18 = .ok (.isub, 1) := by decide +kernel
theorem dX2_leastOpening_19 : decode cX2_leastOpening 19 = .ok (.istore_n 3, 1) := by decide +kernel
theorem dX2_leastOpening_20 : decode cX2_leastOpening 20 = .ok (.iconst (-1), 1) := by decide +kernel
theorem dX2_leastOpening_21 : decode cX2_leastOpening 21 = .ok (.istore 4, 2) := by decide +kernel
theorem dX2_leastOpening_23 : decode cX2_leastOpening 23 = .ok (.iconst 1, 1) := by decide +kernel
theorem dX2_leastOpening_24 : decode cX2_leastOpening 24 = .ok (.istore 5, 2) := by decide +kernel
theorem dX2_leastOpening_26 : decode cX2_leastOpening 26 = .ok (.iload 5, 2) := by decide +kernel
theorem dX2_leastOpening_28 : decode cX2_leastOpening 28 = .ok (.iload_n 3, 1) := by decide +kernel
theorem dX2_leastOpening_29 : decode cX2_leastOpening 29 = .ok (.if_icmp .gt 67, 3) := by decide +kernel
theorem dX2_leastOpening_32 : decode cX2_leastOpening 32 = .ok (.aload_n 0, 1) := by decide +kernel
theorem dX2_leastOpening_33 : decode cX2_leastOpening 33 = .ok (.getfield 18, 3) := by decide +kernel
theorem dX2_leastOpening_36 : decode cX2_leastOpening 36 = .ok (.iload 5, 2) := by decide +kernel
theorem dX2_leastOpening_38 : decode cX2_leastOpening 38 = .ok (.iaload, 1) := by decide +kernel
theorem dX2_leastOpening_39 : decode cX2_leastOpening 39 = .ok (.ifCond .ne 51, 3) := by decide +kernel
theorem dX2_leastOpening_42 : decode cX2_leastOpening 42 = .ok (.aload_n 0, 1) := by decide +kernel
theorem dX2_leastOpening_43 : decode cX2_leastOpening 43 = .ok (.getfield 21, 3) := by decide +kernel
theorem dX2_leastOpening_46 : decode cX2_leastOpening 46 = .ok (.iload_n 3, 1) := by decide +kernel
theorem dX2_leastOpening_47 : decode cX2_leastOpening 47 = .ok (.iload 5, 2) := by decide +kernel
theorem dX2_leastOpening_49 : decode cX2_leastOpening 49 = .ok (.ixor, 1) := by decide +kernel
theorem dX2_leastOpening_50 : decode cX2_leastOpening 50 = .ok (.iaload, 1) := by decide +kernel
theorem dX2_leastOpening_51 : decode cX2_leastOpening 51 = .ok (.iconst 1, 1) := by decide +kernel
theorem dX2_leastOpening_52 : decode cX2_leastOpening 52 = .ok (.iadd, 1) := by decide +kernel
theorem dX2_leastOpening_53 : decode cX2_leastOpening 53 = .ok (.aload_n 0, 1) := by decide +kernel
theorem dX2_leastOpening_54 : decode cX2_leastOpening 54 = .ok (.getfield 21, 3) := by decide +kernel
theorem dX2_leastOpening_57 : decode cX2_leastOpening 57 = .ok (.iload_n 3, 1) := by decide +kernel
theorem dX2_leastOpening_58 : decode cX2_leastOpening 58 = .ok (.iaload, 1) := by decide +kernel
theorem dX2_leastOpening_59 : decode cX2_leastOpening 59 = .ok (.if_icmp .ne 31, 3) := by decide +kernel
theorem dX2_leastOpening_62 : decode cX2_leastOpening 62 = .ok (.aload_n 0, 1) := by decide +kernel
theorem dX2_leastOpening_63 : decode cX2_leastOpening 63 = .ok (.iload 5, 2) := by decide +kernel
theorem dX2_leastOpening_65 : decode cX2_leastOpening 65 = .ok (.invokevirtual 40, 3) := by decide +kernel
theorem dX2_leastOpening_68 : decode cX2_leastOpening 68 = .ok (.istore 6, 2) := by decide +kernel
theorem dX2_leastOpening_70 : decode cX2_leastOpening 70 = .ok (.iload 4, 2) := by decide +kernel
theorem dX2_leastOpening_72 : decode cX2_leastOpening 72 = .ok (.iconst (-1), 1) := by decide +kernel
theorem dX2_leastOpening_73 : decode cX2_leastOpening 73 = .ok (.if_icmp .ne 8, 3) := by decide +kernel
theorem dX2_leastOpening_76 : decode cX2_leastOpening 76 = .ok (.iload 6, 2) := by decide +kernel
theorem dX2_leastOpening_78 : decode cX2_leastOpening 78 = .ok (.goto 10, 3) := by decide +kernel
theorem dX2_leastOpening_81 : decode cX2_leastOpening 81 = .ok (.iload 4, 2) := by decide +kernel
theorem dX2_leastOpening_83 : decode cX2_leastOpening 83 = .ok (.iload 6, 2) := by decide +kernel
theorem dX2_leastOpening_85 : decode cX2_leastOpening 85 = .ok (.invokestatic 44, 3) := by decide +kernel
theorem dX2_leastOpening_88 : decode cX2_leastOpening 88 = .ok (.istore 4, 2) := by decide +kernel
theorem dX2_leastOpening_90 : decode cX2_leastOpening 90 = .ok (.iinc 5 1, 3) := by decide +kernel
theorem dX2_leastOpening_93 : decode cX2_leastOpening 93 = .ok (.goto (-67), 3) := by decide +kernel
theorem dX2_leastOpening_96 : decode cX2_leastOpening 96 = .ok (.iload 4, 2) := by decide +kernel
theorem dX2_leastOpening_98 : decode cX2_leastOpening 98 = .ok (.ireturn, 1) := by decide +kernel
theorem dX2_leastPair_0 : decode cX2_leastPair 0 = .ok (.iconst (-1), 1) := by decide +kernel
theorem dX2_leastPair_1 : decode cX2_leastPair 1 = .ok (.istore_n 2, 1) := by decide +kernel
theorem dX2_leastPair_2 : decode cX2_leastPair 2 = .ok (.iconst 0, 1) := by decide +kernel
theorem dX2_leastPair_3 : decode cX2_leastPair 3 = .ok (.istore_n 3, 1) := by decide +kernel
theorem dX2_leastPair_4 : decode cX2_leastPair 4 = .ok (.iload_n 3, 1) := by decide +kernel
theorem dX2_leastPair_5 : decode cX2_leastPair 5 = .ok (.aload_n 0, 1) := by decide +kernel
theorem dX2_leastPair_6 : decode cX2_leastPair 6 = .ok (.getfield 28, 3) := by decide +kernel
theorem dX2_leastPair_9 : decode cX2_leastPair 9 = .ok (.if_icmp .ge 42, 3) := by decide +kernel
theorem dX2_leastPair_12 : decode cX2_leastPair 12 = .ok (.iload_n 1, 1) := by decide +kernel
theorem dX2_leastPair_13 : decode cX2_leastPair 13 = .ok (.iload_n 3, 1) := by decide +kernel
theorem dX2_leastPair_14 : decode cX2_leastPair 14 = .ok (.ishr, 1) := by decide +kernel
theorem dX2_leastPair_15 : decode cX2_leastPair 15 = .ok (.iconst 1, 1) := by decide +kernel
theorem dX2_leastPair_16 : decode cX2_leastPair 16 = .ok (.iand, 1) := by decide +kernel
theorem dX2_leastPair_17 : decode cX2_leastPair 17 = .ok (.iconst 1, 1) := by decide +kernel
theorem dX2_leastPair_18 : decode cX2_leastPair 18 = .ok (.if_icmp .ne 27, 3) := by decide +kernel
theorem dX2_leastPair_21 : decode cX2_leastPair 21 = .ok (.iload_n 2, 1) := by decide +kernel
theorem dX2_leastPair_22 : decode cX2_leastPair 22 = .ok (.iconst (-1), 1) := by decide +kernel
theorem dX2_leastPair_23 : decode cX2_leastPair 23 = .ok (.if_icmp .eq 15, 3) := by decide +kernel
theorem dX2_leastPair_26 : decode cX2_leastPair 26 = .ok (.bipush 10, 2) := by decide +kernel
theorem dX2_leastPair_28 : decode cX2_leastPair 28 = .ok (.iload_n 2, 1) := by decide +kernel
theorem dX2_leastPair_29 : decode cX2_leastPair 29 = .ok (.imul, 1) := by decide +kernel
theorem dX2_leastPair_30 : decode cX2_leastPair 30 = .ok (.aload_n 0, 1) := by decide +kernel
theorem dX2_leastPair_31 : decode cX2_leastPair 31 = .ok (.getfield 9, 3) := by decide +kernel
theorem dX2_leastPair_34 : decode cX2_leastPair 34 = .ok (.iload_n 3, 1) := by decide +kernel
theorem dX2_leastPair_35 : decode cX2_leastPair 35 = .ok (.iaload, 1) := by decide +kernel
theorem dX2_leastPair_36 : decode cX2_leastPair 36 = .ok (.iadd, 1) := by decide +kernel
theorem dX2_leastPair_37 : decode cX2_leastPair 37 = .ok (.ireturn, 1) := by decide +kernel
theorem dX2_leastPair_38 : decode cX2_leastPair 38 = .ok (.aload_n 0, 1) := by decide +kernel
theorem dX2_leastPair_39 : decode cX2_leastPair 39 = .ok (.getfield 9, 3) := by decide +kernel
theorem dX2_leastPair_42 : decode cX2_leastPair 42 = .ok (.iload_n 3, 1) := by decide +kernel
theorem dX2_leastPair_43 : decode cX2_leastPair 43 = .ok (.iaload, 1) := by decide +kernel
theorem dX2_leastPair_44 : decode cX2_leastPair 44 = .ok (.istore_n 2, 1) := by decide +kernel
theorem dX2_leastPair_45 : decode cX2_leastPair 45 = .ok (.iinc 3 1, 3) := by decide +kernel
theorem dX2_leastPair_48 : decode cX2_leastPair 48 = .ok (.goto (-44), 3) := by decide +kernel
theorem dX2_leastPair_51 : decode cX2_leastPair 51 = .ok (.iconst (-1), 1) := by decide +kernel
theorem dX2_leastPair_52 : decode cX2_leastPair 52 = .ok (.ireturn, 1) := by decide +kernel
theorem dX2_gatherStrays_0 : decode cX2_gatherStrays 0 = .ok (.aload_n 0, 1) := by decide +kernel
theorem dX2_gatherStrays_1 : decode cX2_gatherStrays 1 = .ok (.iconst 0, 1) := by decide +kernel
theorem dX2_gatherStrays_2 : decode cX2_gatherStrays 2 = .ok (.putfield 28, 3) := by decide +kernel
theorem dX2_gatherStrays_5 : decode cX2_gatherStrays 5 = .ok (.iconst 0, 1) := by decide +kernel
theorem dX2_gatherStrays_6 : decode cX2_gatherStrays 6 = .ok (.istore_n 3, 1) := by decide +kernel
theorem dX2_gatherStrays_7 : decode cX2_gatherStrays 7 = .ok (.iload_n 3, 1) := by decide +kernel
theorem dX2_gatherStrays_8 : decode cX2_gatherStrays 8 = .ok (.aload_n 1, 1) := by decide +kernel
theorem dX2_gatherStrays_9 : decode cX2_gatherStrays 9 = .ok (.getfield 50, 3) := by decide +kernel
theorem dX2_gatherStrays_12 : decode cX2_gatherStrays 12 = .ok (.if_icmp .ge 74, 3) := by decide +kernel
theorem dX2_gatherStrays_15 : decode cX2_gatherStrays 15 = .ok (.aload_n 2, 1) := by decide +kernel
theorem dX2_gatherStrays_16 : decode cX2_gatherStrays 16 = .ok (.getfield 55, 3) := by decide +kernel
theorem dX2_gatherStrays_19 : decode cX2_gatherStrays 19 = .ok (.iload_n 3, 1) := by decide +kernel
theorem dX2_gatherStrays_20 : decode cX2_gatherStrays 20 = .ok (.iaload, 1) := by decide +kernel
theorem dX2_gatherStrays_21 : decode cX2_gatherStrays 21 = .ok (.aload_n 1, 1) := by decide +kernel
theorem dX2_gatherStrays_22 : decode cX2_gatherStrays 22 = .ok (.getfield 60, 3) := by decide +kernel
theorem dX2_gatherStrays_25 : decode cX2_gatherStrays 25 = .ok (.iload_n 3, 1) := by decide +kernel
theorem dX2_gatherStrays_26 : decode cX2_gatherStrays 26 = .ok (.iaload, 1) := by decide +kernel
theorem dX2_gatherStrays_27 : decode cX2_gatherStrays 27 = .ok (.if_icmp .eq 53, 3) := by decide +kernel
theorem dX2_gatherStrays_30 : decode cX2_gatherStrays 30 = .ok (.aload_n 0, 1) := by decide +kernel
theorem dX2_gatherStrays_31 : decode cX2_gatherStrays 31 = .ok (.getfield 9, 3) := by decide +kernel
theorem dX2_gatherStrays_34 : decode cX2_gatherStrays 34 = .ok (.aload_n 0, 1) := by decide +kernel
theorem dX2_gatherStrays_35 : decode cX2_gatherStrays 35 = .ok (.getfield 28, 3) := by decide +kernel
theorem dX2_gatherStrays_38 : decode cX2_gatherStrays 38 = .ok (.iload_n 3, 1) := by decide +kernel
theorem dX2_gatherStrays_39 : decode cX2_gatherStrays 39 = .ok (.iastore, 1) := by decide +kernel
theorem dX2_gatherStrays_40 : decode cX2_gatherStrays 40 = .ok (.aload_n 0, 1) := by decide +kernel
theorem dX2_gatherStrays_41 : decode cX2_gatherStrays 41 = .ok (.getfield 15, 3) := by decide +kernel
theorem dX2_gatherStrays_44 : decode cX2_gatherStrays 44 = .ok (.aload_n 0, 1) := by decide +kernel
theorem dX2_gatherStrays_45 : decode cX2_gatherStrays 45 = .ok (.getfield 28, 3) := by decide +kernel
theorem dX2_gatherStrays_48 : decode cX2_gatherStrays 48 = .ok (.iconst 1, 1) := by decide +kernel
theorem dX2_gatherStrays_49 : decode cX2_gatherStrays 49 = .ok (.iconst 4, 1) := by decide +kernel
theorem dX2_gatherStrays_50 : decode cX2_gatherStrays 50 = .ok (.aload_n 2, 1) := by decide +kernel
theorem dX2_gatherStrays_51 : decode cX2_gatherStrays 51 = .ok (.getfield 55, 3) := by decide +kernel
theorem dX2_gatherStrays_54 : decode cX2_gatherStrays 54 = .ok (.iload_n 3, 1) := by decide +kernel
theorem dX2_gatherStrays_55 : decode cX2_gatherStrays 55 = .ok (.iaload, 1) := by decide +kernel
theorem dX2_gatherStrays_56 : decode cX2_gatherStrays 56 = .ok (.imul, 1) := by decide +kernel
theorem dX2_gatherStrays_57 : decode cX2_gatherStrays 57 = .ok (.ishl, 1) := by decide +kernel
theorem dX2_gatherStrays_58 : decode cX2_gatherStrays 58 = .ok (.iconst 1, 1) := by decide +kernel
theorem dX2_gatherStrays_59 : decode cX2_gatherStrays 59 = .ok (.iconst 4, 1) := by decide +kernel
theorem dX2_gatherStrays_60 : decode cX2_gatherStrays 60 = .ok (.aload_n 1, 1) := by decide +kernel
theorem dX2_gatherStrays_61 : decode cX2_gatherStrays 61 = .ok (.getfield 60, 3) := by decide +kernel
theorem dX2_gatherStrays_64 : decode cX2_gatherStrays 64 = .ok (.iload_n 3, 1) := by decide +kernel
theorem dX2_gatherStrays_65 : decode cX2_gatherStrays 65 = .ok (.iaload, 1) := by decide +kernel
theorem dX2_gatherStrays_66 : decode cX2_gatherStrays 66 = .ok (.imul, 1) := by decide +kernel
theorem dX2_gatherStrays_67 : decode cX2_gatherStrays 67 = .ok (.ishl, 1) := by decide +kernel
theorem dX2_gatherStrays_68 : decode cX2_gatherStrays 68 = .ok (.isub, 1) := by decide +kernel
theorem dX2_gatherStrays_69 : decode cX2_gatherStrays 69 = .ok (.iastore, 1) := by decide +kernel
theorem dX2_gatherStrays_70 : decode cX2_gatherStrays 70 = .ok (.aload_n 0, 1) := by decide +kernel
theorem dX2_gatherStrays_71 : decode cX2_gatherStrays 71 = .ok (.dup, 1) := by decide +kernel
theorem dX2_gatherStrays_72 : decode cX2_gatherStrays 72 = .ok (.getfield 28, 3) := by decide +kernel
theorem dX2_gatherStrays_75 : decode cX2_gatherStrays 75 = .ok (.iconst 1, 1) := by decide +kernel
theorem dX2_gatherStrays_76 : decode cX2_gatherStrays 76 = .ok (.iadd, 1) := by decide +kernel
theorem dX2_gatherStrays_77 : decode cX2_gatherStrays 77 = .ok (.putfield 28, 3) := by decide +kernel
theorem dX2_gatherStrays_80 : decode cX2_gatherStrays 80 = .ok (.iinc 3 1, 3) := by decide +kernel
theorem dX2_gatherStrays_83 : decode cX2_gatherStrays 83 = .ok (.goto (-76), 3) := by decide +kernel
theorem dX2_gatherStrays_86 : decode cX2_gatherStrays 86 = .ok (.return_, 1) := by decide +kernel
theorem dX2_countRings_0 : decode cX2_countRings 0 = .ok (.iconst 0, 1) := by decide +kernel
theorem dX2_countRings_1 : decode cX2_countRings 1 = .ok (.istore_n 2, 1) := by decide +kernel
theorem dX2_countRings_2 : decode cX2_countRings 2 = .ok (.iconst 0, 1) := by decide +kernel
theorem dX2_countRings_3 : decode cX2_countRings 3 = .ok (.istore_n 3, 1) := by decide +kernel
theorem dX2_countRings_4 : decode cX2_countRings 4 = .ok (.iconst 0, 1) := by decide +kernel
theorem dX2_countRings_5 : decode cX2_countRings 5 = .ok (.istore 4, 2) := by decide +kernel
theorem dX2_countRings_7 : decode cX2_countRings 7 = .ok (.iload 4, 2) := by decide +kernel
theorem dX2_countRings_9 : decode cX2_countRings 9 = .ok (.aload_n 0, 1) := by decide +kernel
theorem dX2_countRings_10 : decode cX2_countRings 10 = .ok (.getfield 28, 3) := by decide +kernel
theorem dX2_countRings_13 : decode cX2_countRings 13 = .ok (.if_icmp .ge 55, 3) := by decide +kernel
theorem dX2_countRings_16 : decode cX2_countRings 16 = .ok (.iload_n 1, 1) := by decide +kernel
theorem dX2_countRings_17 : decode cX2_countRings 17 = .ok (.iload 4, 2) := by decide +kernel
theorem dX2_countRings_19 : decode cX2_countRings 19 = .ok (.ishr, 1) := by decide +kernel
theorem dX2_countRings_20 : decode cX2_countRings 20 = .ok (.iconst 1, 1) := by decide +kernel
theorem dX2_countRings_21 : decode cX2_countRings 21 = .ok (.iand, 1) := by decide +kernel
theorem dX2_countRings_22 : decode cX2_countRings 22 = .ok (.iconst 1, 1) := by decide +kernel
theorem dX2_countRings_23 : decode cX2_countRings 23 = .ok (.if_icmp .ne 39, 3) := by decide +kernel
theorem dX2_countRings_26 : decode cX2_countRings 26 = .ok (.iload_n 1, 1) := by decide +kernel
theorem dX2_countRings_27 : decode cX2_countRings 27 = .ok (.iconst 1, 1) := by decide +kernel
theorem dX2_countRings_28 : decode cX2_countRings 28 = .ok (.iload 4, 2) := by decide +kernel
theorem dX2_countRings_30 : decode cX2_countRings 30 = .ok (.ishl, 1) := by decide +kernel
theorem dX2_countRings_31 : decode cX2_countRings 31 = .ok (.ixor, 1) := by decide +kernel
theorem dX2_countRings_32 : decode cX2_countRings 32 = .ok (.istore 5, 2) := by decide +kernel
theorem dX2_countRings_34 : decode cX2_countRings 34 = .ok (.iload_n 2, 1) := by decide +kernel
theorem dX2_countRings_35 : decode cX2_countRings 35 = .ok (.aload_n 0, 1) := by decide +kernel
theorem dX2_countRings_36 : decode cX2_countRings 36 = .ok (.getfield 21, 3) := by decide +kernel
theorem dX2_countRings_39 : decode cX2_countRings 39 = .ok (.iload 5, 2) := by decide +kernel
theorem dX2_countRings_41 : decode cX2_countRings 41 = .ok (.iaload, 1) := by decide +kernel
theorem dX2_countRings_42 : decode cX2_countRings 42 = .ok (.invokestatic 63, 3) := by decide +kernel
theorem dX2_countRings_45 : decode cX2_countRings 45 = .ok (.istore_n 2, 1) := by decide +kernel
theorem dX2_countRings_46 : decode cX2_countRings 46 = .ok (.aload_n 0, 1) := by decide +kernel
theorem dX2_countRings_47 : decode cX2_countRings 47 = .ok (.getfield 18, 3) := by decide +kernel
theorem dX2_countRings_50 : decode cX2_countRings 50 = .ok (.iload 5, 2) := by decide +kernel
theorem dX2_countRings_52 : decode cX2_countRings 52 = .ok (.iaload, 1) := by decide +kernel
theorem dX2_countRings_53 : decode cX2_countRings 53 = .ok (.aload_n 0, 1) := by decide +kernel
theorem dX2_countRings_54 : decode cX2_countRings 54 = .ok (.getfield 15, 3) := by decide +kernel
theorem dX2_countRings_57 : decode cX2_countRings 57 = .ok (.iload 4, 2) := by decide +kernel
theorem dX2_countRings_59 : decode cX2_countRings 59 = .ok (.iaload, 1) := by decide +kernel
theorem dX2_countRings_60 : decode cX2_countRings 60 = .ok (.iadd, 1) := by decide +kernel
theorem dX2_countRings_61 : decode cX2_countRings 61 = .ok (.istore_n 3, 1) := by decide +kernel
theorem dX2_countRings_62 : decode cX2_countRings 62 = .ok (.iinc 4 1, 3) := by decide +kernel
theorem dX2_countRings_65 : decode cX2_countRings 65 = .ok (.goto (-58), 3) := by decide +kernel
theorem dX2_countRings_68 : decode cX2_countRings 68 = .ok (.aload_n 0, 1) := by decide +kernel
theorem dX2_countRings_69 : decode cX2_countRings 69 = .ok (.getfield 18, 3) := by decide +kernel
theorem dX2_countRings_72 : decode cX2_countRings 72 = .ok (.iload_n 1, 1) := by decide +kernel
theorem dX2_countRings_73 : decode cX2_countRings 73 = .ok (.iload_n 3, 1) := by decide +kernel
theorem dX2_countRings_74 : decode cX2_countRings 74 = .ok (.iastore, 1) := by decide +kernel
theorem dX2_countRings_75 : decode cX2_countRings 75 = .ok (.aload_n 0, 1) := by decide +kernel
theorem dX2_countRings_76 : decode cX2_countRings 76 = .ok (.getfield 21, 3) := by decide +kernel
theorem dX2_countRings_79 : decode cX2_countRings 79 = .ok (.iload_n 1, 1) := by decide +kernel
theorem dX2_countRings_80 : decode cX2_countRings 80 = .ok (.iload_n 3, 1) := by decide +kernel
theorem dX2_countRings_81 : decode cX2_countRings 81 = .ok (.ifCond .ne 9, 3) := by decide +kernel
theorem dX2_countRings_84 : decode cX2_countRings 84 = .ok (.iload_n 2, 1) := by decide +kernel
theorem dX2_countRings_85 : decode cX2_countRings 85 = .ok (.iconst 1, 1) := by decide +kernel
theorem dX2_countRings_86 : decode cX2_countRings 86 = .ok (.iadd, 1) := by decide +kernel
theorem dX2_countRings_87 : decode cX2_countRings 87 = .ok (.goto 4, 3) := by decide +kernel
theorem dX2_countRings_90 : decode cX2_countRings 90 = .ok (.iload_n 2, 1) := by decide +kernel
theorem dX2_countRings_91 : decode cX2_countRings 91 = .ok (.iastore, 1) := by decide +kernel
theorem dX2_countRings_92 : decode cX2_countRings 92 = .ok (.return_, 1) := by decide +kernel
theorem dX3_init_0 : decode cX3_init 0 = .ok (.aload_n 0, 1) := by decide +kernel
theorem dX3_init_1 : decode cX3_init 1 = .ok (.invokespecial 3, 3) := by decide +kernel
theorem dX3_init_4 : decode cX3_init 4 = .ok (.aload_n 0, 1) := by decide +kernel
theorem dX3_init_5 : decode cX3_init 5 = .ok (.bipush 16, 2) := by decide +kernel
theorem dX3_init_7 : decode cX3_init 7 = .ok (.anewarray 9, 3) := by decide +kernel
theorem dX3_init_10 : decode cX3_init 10 = .ok (.putfield 11, 3) := by decide +kernel
theorem dX3_init_13 : decode cX3_init 13 = .ok (.iconst 0, 1) := by decide +kernel
theorem dX3_init_14 : decode cX3_init 14 = .ok (.istore_n 1, 1) := by decide +kernel
theorem dX3_init_15 : decode cX3_init 15 = .ok (.iload_n 1, 1) := by decide +kernel
theorem dX3_init_16 : decode cX3_init 16 = .ok (.bipush 16, 2) := by decide +kernel
theorem dX3_init_18 : decode cX3_init 18 = .ok (.if_icmp .ge 22, 3) := by decide +kernel
theorem dX3_init_21 : decode cX3_init 21 = .ok (.aload_n 0, 1) := by decide +kernel
theorem dX3_init_22 : decode cX3_init 22 = .ok (.getfield 11, 3) := by decide +kernel
theorem dX3_init_25 : decode cX3_init 25 = .ok (.iload_n 1, 1) := by decide +kernel
theorem dX3_init_26 : decode cX3_init 26 = .ok (.new 9, 3) := by decide +kernel
theorem dX3_init_29 : decode cX3_init 29 = .ok (.dup, 1) := by decide +kernel
theorem dX3_init_30 : decode cX3_init 30 = .ok (.invokespecial 17, 3) := by decide +kernel
theorem dX3_init_33 : decode cX3_init 33 = .ok (.aastore, 1) := by decide +kernel
theorem dX3_init_34 : decode cX3_init 34 = .ok (.iinc 1 1, 3) := by decide +kernel
theorem dX3_init_37 : decode cX3_init 37 = .ok (.goto (-22), 3) := by decide +kernel
theorem dX3_init_40 : decode cX3_init 40 = .ok (.return_, 1) := by decide +kernel
theorem dX3_forget_0 : decode cX3_forget 0 = .ok (.aload_n 0, 1) := by decide +kernel
theorem dX3_forget_1 : decode cX3_forget 1 = .ok (.iconst 0, 1) := by decide +kernel
theorem dX3_forget_2 : decode cX3_forget 2 = .ok (.putfield 18, 3) := by decide +kernel
theorem dX3_forget_5 : decode cX3_forget 5 = .ok (.return_, 1) := by decide +kernel
theorem dX3_remember_0 : decode cX3_remember 0 = .ok (.aload_n 0, 1) := by decide +kernel
theorem dX3_remember_1 : decode cX3_remember 1 = .ok (.getfield 11, 3) := by decide +kernel
theorem dX3_remember_4 : decode cX3_remember 4 = .ok (.aload_n 0, 1) := by decide +kernel
theorem dX3_remember_5 : decode cX3_remember 5 = .ok (.getfield 22, 3) := by decide +kernel
theorem dX3_remember_8 : decode cX3_remember 8 = .ok (.aaload, 1) := by decide +kernel
theorem dX3_remember_9 : decode cX3_remember 9 = .ok (.aload_n 1, 1) := by decide +kernel
theorem dX3_remember_10 : decode cX3_remember 10 = .ok (.invokevirtual 25, 3) := by decide +kernel
theorem dX3_remember_13 : decode cX3_remember 13 = .ok (.aload_n 0, 1) := by decide +kernel
theorem dX3_remember_14 : decode cX3_remember 14 = .ok (.aload_n 0, 1) := by decide +kernel
theorem dX3_remember_15 : decode cX3_remember 15 = .ok (.getfield 22, 3) := by decide +kernel
theorem dX3_remember_18 : decode cX3_remember 18 = .ok (.iconst 1, 1) := by decide +kernel
theorem dX3_remember_19 : decode cX3_remember 19 = .ok (.iadd, 1) := by decide +kernel
theorem dX3_remember_20 : decode cX3_remember 20 = .ok (.bipush 16, 2) := by decide +kernel
theorem dX3_remember_22 : decode cX3_remember 22 = .ok (.irem, 1) := by decide +kernel
theorem dX3_remember_23 : decode cX3_remember 23 = .ok (.putfield 22, 3) := by decide +kernel
theorem dX3_remember_26 : decode cX3_remember 26 = .ok (.aload_n 0, 1) := by decide +kernel
theorem dX3_remember_27 : decode cX3_remember 27 = .ok (.aload_n 0, 1) := by decide +kernel
theorem dX3_remember_28 : decode cX3_remember 28 = .ok (.getfield 18, 3) := by decide +kernel
theorem dX3_remember_31 : decode cX3_remember 31 = .ok (.iconst 1, 1) := by decide +kernel
theorem dX3_remember_32 : decode cX3_remember 32 = .ok (.iadd, 1) := by decide +kernel
theorem dX3_remember_33 : decode cX3_remember 33 = .ok (.bipush 16, 2) := by decide +kernel
theorem dX3_remember_35 : decode cX3_remember 35 = .ok (.invokestatic 29, 3) := by decide +kernel
theorem dX3_remember_38 : decode cX3_remember 38 = .ok (.putfield 18, 3) := by decide +kernel
theorem dX3_remember_41 : decode cX3_remember 41 = .ok (.return_, 1) := by decide +kernel
theorem dX3_recall_0 : decode cX3_recall 0 = .ok (.aload_n 0, 1) := by decide +kernel
theorem dX3_recall_1 : decode cX3_recall 1 = .ok (.aload_n 0, 1) := by decide +kernel
theorem dX3_recall_2 : decode cX3_recall 2 = .ok (.getfield 22, 3) := by decide +kernel
theorem dX3_recall_5 : decode cX3_recall 5 = .ok (.bipush 16, 2) := by decide +kernel
theorem dX3_recall_7 : decode cX3_recall 7 = .ok (.iadd, 1) := by decide +kernel
theorem dX3_recall_8 : decode cX3_recall 8 = .ok (.iconst 1, 1) := by decide +kernel
theorem dX3_recall_9 : decode cX3_recall 9 = .ok (.isub, 1) := by decide +kernel
theorem dX3_recall_10 : decode cX3_recall 10 = .ok (.bipush 16, 2) := by decide +kernel
theorem dX3_recall_12 : decode cX3_recall 12 = .ok (.irem, 1) := by decide +kernel
theorem dX3_recall_13 : decode cX3_recall 13 = .ok (.putfield 22, 3) := by decide +kernel
theorem dX3_recall_16 : decode cX3_recall 16 = .ok (.aload_n 1, 1) := by decide +kernel
theorem dX3_recall_17 : decode cX3_recall 17 = .ok (.aload_n 0, 1) := by decide +kernel
theorem dX3_recall_18 : decode cX3_recall 18 = .ok (.getfield 11, 3) := by decide +kernel
theorem dX3_recall_21 : decode cX3_recall 21 = .ok (.aload_n 0, 1) := by decide +kernel
theorem dX3_recall_22 : decode cX3_recall 22 = .ok (.getfield 22, 3) := by decide +kernel
theorem dX3_recall_25 : decode cX3_recall 25 = .ok (.aaload, 1) := by decide +kernel
theorem dX3_recall_26 : decode cX3_recall 26 = .ok (.invokevirtual 25, 3) := by decide +kernel
theorem dX3_recall_29 : decode cX3_recall 29 = .ok (.aload_n 0, 1) := by decide +kernel
theorem dX3_recall_30 : decode cX3_recall 30 = .ok (.aload_n 0, 1) := by decide +kernel
theorem dX3_recall_31 : decode cX3_recall 31 = .ok (.getfield 18, 3) := by decide +kernel
theorem dX3_recall_34 : decode cX3_recall 34 = .ok (.iconst 1, 1) := by decide +kernel
theorem dX3_recall_35 : decode cX3_recall 35 = .ok (.isub, 1) := by decide +kernel
theorem dX3_recall_36 : decode cX3_recall 36 = .ok (.iconst 0, 1) := by decide +kernel
theorem dX3_recall_37 : decode cX3_recall 37 = .ok (.invokestatic 35, 3) := by decide +kernel
theorem dX3_recall_40 : decode cX3_recall 40 = .ok (.putfield 18, 3) := by decide +kernel
theorem dX3_recall_43 : decode cX3_recall 43 = .ok (.return_, 1) := by decide +kernel
theorem dX4_init_0 : decode cX4_init 0 = .ok (.aload_n 0, 1) := by decide +kernel
theorem dX4_init_1 : decode cX4_init 1 = .ok (.invokespecial 3, 3) := by decide +kernel
theorem dX4_init_4 : decode cX4_init 4 = .ok (.aload_n 0, 1) := by decide +kernel
theorem dX4_init_5 : decode cX4_init 5 = .ok (.bipush 7, 2) := by decide +kernel
theorem dX4_init_7 : decode cX4_init 7 = .ok (.newarray .int, 2) := by decide +kernel
theorem dX4_init_9 : decode cX4_init 9 = .ok (.putfield 9, 3) := by decide +kernel
theorem dX4_init_12 : decode cX4_init 12 = .ok (.aload_n 0, 1) := by decide +kernel
theorem dX4_init_13 : decode cX4_init 13 = .ok (.bipush 8, 2) := by decide +kernel
theorem dX4_init_15 : decode cX4_init 15 = .ok (.newarray .int, 2) := by decide +kernel
theorem dX4_init_17 : decode cX4_init 17 = .ok (.putfield 15, 3) := by decide +kernel
theorem dX4_init_20 : decode cX4_init 20 = .ok (.aload_n 0, 1) := by decide +kernel
theorem dX4_init_21 : decode cX4_init 21 = .ok (.bipush 8, 2) := by decide +kernel
theorem dX4_init_23 : decode cX4_init 23 = .ok (.newarray .int, 2) := by decide +kernel
theorem dX4_init_25 : decode cX4_init 25 = .ok (.putfield 18, 3) := by decide +kernel
theorem dX4_init_28 : decode cX4_init 28 = .ok (.aload_n 0, 1) := by decide +kernel
theorem dX4_init_29 : decode cX4_init 29 = .ok (.bipush 8, 2) := by decide +kernel
theorem dX4_init_31 : decode cX4_init 31 = .ok (.newarray .int, 2) := by decide +kernel
theorem dX4_init_33 : decode cX4_init 33 = .ok (.putfield 21, 3) := by decide +kernel
theorem dX4_init_36 : decode cX4_init 36 = .ok (.aload_n 0, 1) := by decide +kernel
theorem dX4_init_37 : decode cX4_init 37 = .ok (.sipush 128, 3) := by decide +kernel
theorem dX4_init_40 : decode cX4_init 40 = .ok (.newarray .int, 2) := by decide +kernel
theorem dX4_init_42 : decode cX4_init 42 = .ok (.putfield 24, 3) := by decide +kernel
theorem dX4_init_45 : decode cX4_init 45 = .ok (.return_, 1) := by decide +kernel
theorem dX4_clear_0 : decode cX4_clear 0 = .ok (.aload_n 0, 1) := by decide +kernel
theorem dX4_clear_1 : decode cX4_clear 1 = .ok (.iconst 0, 1) := by decide +kernel
theorem dX4_clear_2 : decode cX4_clear 2 = .ok (.putfield 27, 3) := by decide +kernel
theorem dX4_clear_5 : decode cX4_clear 5 = .ok (.aload_n 0, 1) := by decide +kernel
theorem dX4_clear_6 : decode cX4_clear 6 = .ok (.iconst 0, 1) := by decide +kernel
theorem dX4_clear_7 : decode cX4_clear 7 = .ok (.putfield 31, 3) := by decide +kernel
theorem dX4_clear_10 : decode cX4_clear 10 = .ok (.aload_n 0, 1) := by decide +kernel
theorem dX4_clear_11 : decode cX4_clear 11 = .ok (.iconst 0, 1) := by decide +kernel
theorem dX4_clear_12 : decode cX4_clear 12 = .ok (.putfield 34, 3) := by decide +kernel
theorem dX4_clear_15 : decode cX4_clear 15 = .ok (.aload_n 0, 1) := by decide +kernel
theorem dX4_clear_16 : decode cX4_clear 16 = .ok (.iconst 0, 1) := by decide +kernel
theorem dX4_clear_17 : decode cX4_clear 17 = .ok (.putfield 37, 3) := by decide +kernel
theorem dX4_clear_20 : decode cX4_clear 20 = .ok (.aload_n 0, 1) := by decide +kernel
theorem dX4_clear_21 : decode cX4_clear 21 = .ok (.iconst 0, 1) := by decide +kernel
theorem dX4_clear_22 : decode cX4_clear 22 = .ok (.putfield 40, 3) := by decide +kernel
theorem dX4_clear_25 : decode cX4_clear 25 = .ok (.aload_n 0, 1) := by decide +kernel
theorem dX4_clear_26 : decode cX4_clear 26 = .ok (.iconst 0, 1) := by decide +kernel
theorem dX4_clear_27 : decode cX4_clear 27 = .ok (.putfield 44, 3) := by decide +kernel
theorem dX4_clear_30 : decode cX4_clear 30 = .ok (.return_, 1) := by decide +kernel
theorem dX4_hasCourt_0 : decode cX4_hasCourt 0 = .ok (.iload_n 1, 1) := by decide +kernel
theorem dX4_hasCourt_1 : decode cX4_hasCourt 1 = .ok (.ifCond .lt 15, 3) := by decide +kernel
theorem dX4_hasCourt_4 : decode cX4_hasCourt 4 = .ok (.iload_n 1, 1) := by decide +kernel
theorem dX4_hasCourt_5 : decode cX4_hasCourt 5 = .ok (.aload_n 0, 1) := by decide +kernel
theorem dX4_hasCourt_6 : decode cX4_hasCourt 6 = .ok (.getfield 27, 3) := by decide +kernel
theorem dX4_hasCourt_9 : decode cX4_hasCourt 9 = .ok (.if_icmp .ge 7, 3) := by decide +kernel
theorem dX4_hasCourt_12 : decode cX4_hasCourt 12 = .ok (.iconst 1, 1) := by decide +kernel
theorem dX4_hasCourt_13 : decode cX4_hasCourt 13 = .ok (.goto 4, 3) := by decide +kernel
theorem dX4_hasCourt_16 : decode cX4_hasCourt 16 = .ok (.iconst 0, 1) := by decide +kernel
theorem dX4_hasCourt_17 : decode cX4_hasCourt 17 = .ok (.ireturn, 1) := by decide +kernel
theorem dX4_hasDoll_0 : decode cX4_hasDoll 0 = .ok (.iload_n 1, 1) := by decide +kernel
theorem dX4_hasDoll_1 : decode cX4_hasDoll 1 = .ok (.ifCond .lt 15, 3) := by decide +kernel
theorem dX4_hasDoll_4 : decode cX4_hasDoll 4 = .ok (.iload_n 1, 1) := by decide +kernel
theorem dX4_hasDoll_5 : decode cX4_hasDoll 5 = .ok (.aload_n 0, 1) := by decide +kernel
theorem dX4_hasDoll_6 : decode cX4_hasDoll 6 = .ok (.getfield 31, 3) := by decide +kernel
theorem dX4_hasDoll_9 : decode cX4_hasDoll 9 = .ok (.if_icmp .ge 7, 3) := by decide +kernel
theorem dX4_hasDoll_12 : decode cX4_hasDoll 12 = .ok (.iconst 1, 1) := by decide +kernel
theorem dX4_hasDoll_13 : decode cX4_hasDoll 13 = .ok (.goto 4, 3) := by decide +kernel
theorem dX4_hasDoll_16 : decode cX4_hasDoll 16 = .ok (.iconst 0, 1) := by decide +kernel
theorem dX4_hasDoll_17 : decode cX4_hasDoll 17 = .ok (.ireturn, 1) := by decide +kernel
theorem dX4_allCourts_0 : decode cX4_allCourts 0 = .ok (.iconst 1, 1) := by decide +kernel
theorem dX4_allCourts_1 : decode cX4_allCourts 1 = .ok (.aload_n 0, 1) := by decide +kernel
theorem dX4_allCourts_2 : decode cX4_allCourts 2 = .ok (.getfield 27, 3) := by decide +kernel
theorem dX4_allCourts_5 : decode cX4_allCourts 5 = .ok (.ishl, 1) := by decide +kernel
theorem dX4_allCourts_6 : decode cX4_allCourts 6 = .ok (.iconst 1, 1) := by decide +kernel
theorem dX4_allCourts_7 : decode cX4_allCourts 7 = .ok (.isub, 1) := by decide +kernel
theorem dX4_allCourts_8 : decode cX4_allCourts 8 = .ok (.ireturn, 1) := by decide +kernel
theorem dX4_addCourt_0 : decode cX4_addCourt 0 = .ok (.aload_n 0, 1) := by decide +kernel
theorem dX4_addCourt_1 : decode cX4_addCourt 1 = .ok (.getfield 27, 3) := by decide +kernel
theorem dX4_addCourt_4 : decode cX4_addCourt 4 = .ok (.bipush 7, 2) := by decide +kernel
theorem dX4_addCourt_6 : decode cX4_addCourt 6 = .ok (.if_icmp .ge 23, 3) := by decide +kernel
theorem dX4_addCourt_9 : decode cX4_addCourt 9 = .ok (.aload_n 0, 1) := by decide +kernel
theorem dX4_addCourt_10 : decode cX4_addCourt 10 = .ok (.getfield 9, 3) := by decide +kernel
theorem dX4_addCourt_13 : decode cX4_addCourt 13 = .ok (.aload_n 0, 1) := by decide +kernel
theorem dX4_addCourt_14 : decode cX4_addCourt 14 = .ok (.getfield 27, 3) := by decide +kernel
theorem dX4_addCourt_17 : decode cX4_addCourt 17 = .ok (.iload_n 1, 1) := by decide +kernel
theorem dX4_addCourt_18 : decode cX4_addCourt 18 = .ok (.iastore, 1) := by decide +kernel
theorem dX4_addCourt_19 : decode cX4_addCourt 19 = .ok (.aload_n 0, 1) := by decide +kernel
theorem dX4_addCourt_20 : decode cX4_addCourt 20 = .ok (.dup, 1) := by decide +kernel
theorem dX4_addCourt_21 : decode cX4_addCourt 21 = .ok (.getfield 27, 3) := by decide +kernel
theorem dX4_addCourt_24 : decode cX4_addCourt 24 = .ok (.iconst 1, 1) := by decide +kernel
theorem dX4_addCourt_25 : decode cX4_addCourt 25 = .ok (.iadd, 1) := by decide +kernel
theorem dX4_addCourt_26 : decode cX4_addCourt 26 = .ok (.putfield 27, 3) := by decide +kernel
theorem dX4_addCourt_29 : decode cX4_addCourt 29 = .ok (.return_, 1) := by decide +kernel
theorem dX4_addDoll_0 : decode cX4_addDoll 0 = .ok (.aload_n 0, 1) := by decide +kernel
theorem dX4_addDoll_1 : decode cX4_addDoll 1 = .ok (.getfield 31, 3) := by decide +kernel
theorem dX4_addDoll_4 : decode cX4_addDoll 4 = .ok (.bipush 8, 2) := by decide +kernel
theorem dX4_addDoll_6 : decode cX4_addDoll 6 = .ok (.if_icmp .ge 43, 3) := by decide +kernel
theorem dX4_addDoll_9 : decode cX4_addDoll 9 = .ok (.aload_n 0, 1) := by decide +kernel
theorem dX4_addDoll_10 : decode cX4_addDoll 10 = .ok (.getfield 15, 3) := by decide +kernel
theorem dX4_addDoll_13 : decode cX4_addDoll 13 = .ok (.aload_n 0, 1) := by decide +kernel
theorem dX4_addDoll_14 : decode cX4_addDoll 14 = .ok (.getfield 31, 3) := by decide +kernel
theorem dX4_addDoll_17 : decode cX4_addDoll 17 = .ok (.iload_n 1, 1) := by decide +kernel
theorem dX4_addDoll_18 : decode cX4_addDoll 18 = .ok (.iastore, 1) := by decide +kernel
theorem dX4_addDoll_19 : decode cX4_addDoll 19 = .ok (.aload_n 0, 1) := by decide +kernel
theorem dX4_addDoll_20 : decode cX4_addDoll 20 = .ok (.getfield 18, 3) := by decide +kernel
theorem dX4_addDoll_23 : decode cX4_addDoll 23 = .ok (.aload_n 0, 1) := by decide +kernel
theorem dX4_addDoll_24 : decode cX4_addDoll 24 = .ok (.getfield 31, 3) := by decide +kernel
theorem dX4_addDoll_27 : decode cX4_addDoll 27 = .ok (.iload_n 2, 1) := by decide +kernel
theorem dX4_addDoll_28 : decode cX4_addDoll 28 = .ok (.iastore, 1) := by decide +kernel
theorem dX4_addDoll_29 : decode cX4_addDoll 29 = .ok (.aload_n 0, 1) := by decide +kernel
theorem dX4_addDoll_30 : decode cX4_addDoll 30 = .ok (.getfield 21, 3) := by decide +kernel
theorem dX4_addDoll_33 : decode cX4_addDoll 33 = .ok (.aload_n 0, 1) := by decide +kernel
theorem dX4_addDoll_34 : decode cX4_addDoll 34 = .ok (.getfield 31, 3) := by decide +kernel
theorem dX4_addDoll_37 : decode cX4_addDoll 37 = .ok (.iload_n 3, 1) := by decide +kernel
theorem dX4_addDoll_38 : decode cX4_addDoll 38 = .ok (.iastore, 1) := by decide +kernel
theorem dX4_addDoll_39 : decode cX4_addDoll 39 = .ok (.aload_n 0, 1) := by decide +kernel
theorem dX4_addDoll_40 : decode cX4_addDoll 40 = .ok (.dup, 1) := by decide +kernel
theorem dX4_addDoll_41 : decode cX4_addDoll 41 = .ok (.getfield 31, 3) := by decide +kernel
theorem dX4_addDoll_44 : decode cX4_addDoll 44 = .ok (.iconst 1, 1) := by decide +kernel
theorem dX4_addDoll_45 : decode cX4_addDoll 45 = .ok (.iadd, 1) := by decide +kernel
theorem dX4_addDoll_46 : decode cX4_addDoll 46 = .ok (.putfield 31, 3) := by decide +kernel
theorem dX4_addDoll_49 : decode cX4_addDoll 49 = .ok (.return_, 1) := by decide +kernel
theorem dX4_settle_0 : decode cX4_settle 0 = .ok (.aload_n 0, 1) := by decide +kernel
theorem dX4_settle_1 : decode cX4_settle 1 = .ok (.getfield 24, 3) := by decide +kernel
theorem dX4_settle_4 : decode cX4_settle 4 = .ok (.iconst 0, 1) := by decide +kernel
theorem dX4_settle_5 : decode cX4_settle 5 = .ok (.iconst 0, 1) := by decide +kernel
theorem dX4_settle_6 : decode cX4_settle 6 = .ok (.iastore, 1) := by decide +kernel
theorem dX4_settle_7 : decode cX4_settle 7 = .ok (.iconst 0, 1) := by decide +kernel
theorem dX4_settle_8 : decode cX4_settle 8 = .ok (.istore_n 1, 1) := by decide +kernel
theorem dX4_settle_9 : decode cX4_settle 9 = .ok (.iload_n 1, 1) := by decide +kernel
theorem dX4_settle_10 : decode cX4_settle 10 = .ok (.aload_n 0, 1) := by decide +kernel
theorem dX4_settle_11 : decode cX4_settle 11 = .ok (.getfield 27, 3) := by decide +kernel
theorem dX4_settle_14 : decode cX4_settle 14 = .ok (.if_icmp .ge 47, 3) := by decide +kernel
theorem dX4_settle_17 : decode cX4_settle 17 = .ok (.iconst 1, 1) := by decide +kernel
theorem dX4_settle_18 : decode cX4_settle 18 = .ok (.iload_n 1, 1) := by decide +kernel
theorem dX4_settle_19 : decode cX4_settle 19 = .ok (.ishl, 1) := by decide +kernel
theorem dX4_settle_20 : decode cX4_settle 20 = .ok (.istore_n 2, 1) := by decide +kernel
theorem dX4_settle_21 : decode cX4_settle 21 = .ok (.iconst 0, 1) := by decide +kernel
theorem dX4_settle_22 : decode cX4_settle 22 = .ok (.istore_n 3, 1) := by decide +kernel
theorem dX4_settle_23 : decode cX4_settle 23 = .ok (.iload_n 3, 1) := by decide +kernel
theorem dX4_settle_24 : decode cX4_settle 24 = .ok (.iload_n 2, 1) := by decide +kernel
theorem dX4_settle_25 : decode cX4_settle 25 = .ok (.if_icmp .ge 30, 3) := by decide +kernel
theorem dX4_settle_28 : decode cX4_settle 28 = .ok (.aload_n 0, 1) := by decide +kernel
theorem dX4_settle_29 : decode cX4_settle 29 = .ok (.getfield 24, 3) := by decide +kernel
theorem dX4_settle_32 : decode cX4_settle 32 = .ok (.iload_n 3, 1) := by decide +kernel
theorem dX4_settle_33 : decode cX4_settle 33 = .ok (.iload_n 2, 1) := by decide +kernel
theorem dX4_settle_34 : decode cX4_settle 34 = .ok (.ior, 1) := by decide +kernel
theorem dX4_settle_35 : decode cX4_settle 35 = .ok (.aload_n 0, 1) := by decide +kernel
theorem dX4_settle_36 : decode cX4_settle 36 = .ok (.getfield 24, 3) := by decide +kernel
theorem dX4_settle_39 : decode cX4_settle 39 = .ok (.iload_n 3, 1) := by decide +kernel
theorem dX4_settle_40 : decode cX4_settle 40 = .ok (.iaload, 1) := by decide +kernel
theorem dX4_settle_41 : decode cX4_settle 41 = .ok (.aload_n 0, 1) := by decide +kernel
theorem dX4_settle_42 : decode cX4_settle 42 = .ok (.getfield 9, 3) := by decide +kernel
theorem dX4_settle_45 : decode cX4_settle 45 = .ok (.iload_n 1, 1) := by decide +kernel
theorem dX4_settle_46 : decode cX4_settle 46 = .ok (.iaload, 1) := by decide +kernel
theorem dX4_settle_47 : decode cX4_settle 47 = .ok (.iadd, 1) := by decide +kernel
theorem dX4_settle_48 : decode cX4_settle 48 = .ok (.iastore, 1) := by decide +kernel
theorem dX4_settle_49 : decode cX4_settle 49 = .ok (.iinc 3 1, 3) := by decide +kernel
theorem dX4_settle_52 : decode cX4_settle 52 = .ok (.goto (-29), 3) := by decide +kernel
theorem dX4_settle_55 : decode cX4_settle 55 = .ok (.iinc 1 1, 3) := by decide +kernel
theorem dX4_settle_58 : decode cX4_settle 58 = .ok (.goto (-49), 3) := by decide +kernel
theorem dX4_settle_61 : decode cX4_settle 61 = .ok (.aload_n 0, 1) := by decide +kernel
theorem dX4_settle_62 : decode cX4_settle 62 = .ok (.getfield 27, 3) := by decide +kernel
theorem dX4_settle_65 : decode cX4_settle 65 = .ok (.ifCond .le 27, 3) := by decide +kernel
theorem dX4_settle_68 : decode cX4_settle 68 = .ok (.aload_n 0, 1) := by decide +kernel
theorem dX4_settle_69 : decode cX4_settle 69 = .ok (.getfield 44, 3) := by decide +kernel
theorem dX4_settle_72 : decode cX4_settle 72 = .ok (.ifCond .ne 20, 3) := by decide +kernel
theorem dX4_settle_75 : decode cX4_settle 75 = .ok (.aload_n 0, 1) := by decide +kernel
theorem dX4_settle_76 : decode cX4_settle 76 = .ok (.aload_n 0, 1) := by decide +kernel
theorem dX4_settle_77 : decode cX4_settle 77 = .ok (.getfield 24, 3) := by decide +kernel
theorem dX4_settle_80 : decode cX4_settle 80 = .ok (.aload_n 0, 1) := by decide +kernel
theorem dX4_settle_81 : decode cX4_settle 81 = .ok (.invokevirtual 47, 3) := by decide +kernel
theorem dX4_settle_84 : decode cX4_settle 84 = .ok (.iaload, 1) := by decide +kernel
theorem dX4_settle_85 : decode cX4_settle 85 = .ok (.iconst 2, 1) := by decide +kernel
theorem dX4_settle_86 : decode cX4_settle 86 = .ok (.idiv, 1) := by decide +kernel
theorem dX4_settle_87 : decode cX4_settle 87 = .ok (.iconst 1, 1) := by decide +kernel
theorem dX4_settle_88 : decode cX4_settle 88 = .ok (.iadd, 1) := by decide +kernel
theorem dX4_settle_89 : decode cX4_settle 89 = .ok (.putfield 37, 3) := by decide +kernel
theorem dX4_settle_92 : decode cX4_settle 92 = .ok (.return_, 1) := by decide +kernel
theorem dX4_powerOf_0 : decode cX4_powerOf 0 = .ok (.iconst 0, 1) := by decide +kernel
theorem dX4_powerOf_1 : decode cX4_powerOf 1 = .ok (.istore_n 2, 1) := by decide +kernel
theorem dX4_powerOf_2 : decode cX4_powerOf 2 = .ok (.iconst 0, 1) := by decide +kernel
theorem dX4_powerOf_3 : decode cX4_powerOf 3 = .ok (.istore_n 3, 1) := by decide +kernel
theorem dX4_powerOf_4 : decode cX4_powerOf 4 = .ok (.iload_n 3, 1) := by decide +kernel
theorem dX4_powerOf_5 : decode cX4_powerOf 5 = .ok (.aload_n 0, 1) := by decide +kernel
theorem dX4_powerOf_6 : decode cX4_powerOf 6 = .ok (.invokevirtual 47, 3) := by decide +kernel
theorem dX4_powerOf_9 : decode cX4_powerOf 9 = .ok (.if_icmp .gt 91, 3) := by decide +kernel
theorem dX4_powerOf_12 : decode cX4_powerOf 12 = .ok (.aload_n 0, 1) := by decide +kernel
theorem dX4_powerOf_13 : decode cX4_powerOf 13 = .ok (.getfield 24, 3) := by decide +kernel
theorem dX4_powerOf_16 : decode cX4_powerOf 16 = .ok (.iload_n 3, 1) := by decide +kernel
theorem dX4_powerOf_17 : decode cX4_powerOf 17 = .ok (.iaload, 1) := by decide +kernel
theorem dX4_powerOf_18 : decode cX4_powerOf 18 = .ok (.aload_n 0, 1) := by decide +kernel
theorem dX4_powerOf_19 : decode cX4_powerOf 19 = .ok (.getfield 37, 3) := by decide +kernel
theorem dX4_powerOf_22 : decode cX4_powerOf 22 = .ok (.if_icmp .ge 27, 3) := by decide +kernel
theorem dX4_powerOf_25 : decode cX4_powerOf 25 = .ok (.aload_n 0, 1) := by decide +kernel
theorem dX4_powerOf_26 : decode cX4_powerOf 26 = .ok (.getfield 24, 3) := by decide +kernel
theorem dX4_powerOf_29 : decode cX4_powerOf 29 = .ok (.iload_n 3, 1) := by decide +kernel
theorem dX4_powerOf_30 : decode cX4_powerOf 30 = .ok (.iaload, 1) := by decide +kernel
theorem dX4_powerOf_31 : decode cX4_powerOf 31 = .ok (.aload_n 0, 1) := by decide +kernel
theorem dX4_powerOf_32 : decode cX4_powerOf 32 = .ok (.getfield 9, 3) := by decide +kernel
theorem dX4_powerOf_35 : decode cX4_powerOf 35 = .ok (.iload_n 1, 1) := by decide +kernel
theorem dX4_powerOf_36 : decode cX4_powerOf 36 = .ok (.iaload, 1) := by decide +kernel
theorem dX4_powerOf_37 : decode cX4_powerOf 37 = .ok (.iadd, 1) := by decide +kernel
theorem dX4_powerOf_38 : decode cX4_powerOf 38 = .ok (.aload_n 0, 1) := by decide +kernel
theorem dX4_powerOf_39 : decode cX4_powerOf 39 = .ok (.getfield 37, 3) := by decide +kernel
theorem dX4_powerOf_42 : decode cX4_powerOf 42 = .ok (.if_icmp .lt 7, 3) := by decide +kernel
theorem dX4_powerOf_45 : decode cX4_powerOf 45 = .ok (.iconst 1, 1) := by decide +kernel
theorem dX4_powerOf_46 : decode cX4_powerOf 46 = .ok (.goto 4, 3) := by decide +kernel
theorem dX4_powerOf_49 : decode cX4_powerOf 49 = .ok (.iconst 0, 1) := by decide +kernel
theorem dX4_powerOf_50 : decode cX4_powerOf 50 = .ok (.istore 4, 2) := by decide +kernel
theorem dX4_powerOf_52 : decode cX4_powerOf 52 = .ok (.iload_n 3, 1) := by decide +kernel
theorem dX4_powerOf_53 : decode cX4_powerOf 53 = .ok (.iload_n 1, 1) := by decide +kernel
theorem dX4_powerOf_54 : decode cX4_powerOf 54 = .ok (.ishr, 1) := by decide +kernel
theorem dX4_powerOf_55 : decode cX4_powerOf 55 = .ok (.iconst 1, 1) := by decide +kernel
theorem dX4_powerOf_56 : decode cX4_powerOf 56 = .ok (.iand, 1) := by decide +kernel
theorem dX4_powerOf_57 : decode cX4_powerOf 57 = .ok (.ifCond .ne 37, 3) := by decide +kernel
theorem dX4_powerOf_60 : decode cX4_powerOf 60 = .ok (.iload 4, 2) := by decide +kernel
theorem dX4_powerOf_62 : decode cX4_powerOf 62 = .ok (.ifCond .eq 32, 3) := by decide +kernel
theorem dX4_powerOf_65 : decode cX4_powerOf 65 = .ok (.iload_n 3, 1) := by decide +kernel
theorem dX4_powerOf_66 : decode cX4_powerOf 66 = .ok (.invokestatic 51, 3) := by decide +kernel
theorem dX4_powerOf_69 : decode cX4_powerOf 69 = .ok (.istore 5, 2) := by decide +kernel
theorem dX4_powerOf_71 : decode cX4_powerOf 71 = .ok (.iload_n 2, 1) := by decide +kernel
theorem dX4_powerOf_72 : decode cX4_powerOf 72 = .ok (.getstatic 57, 3) := by decide +kernel
theorem dX4_powerOf_75 : decode cX4_powerOf 75 = .ok (.iload 5, 2) := by decide +kernel
theorem dX4_powerOf_77 : decode cX4_powerOf 77 = .ok (.iaload, 1) := by decide +kernel
theorem dX4_powerOf_78 : decode cX4_powerOf 78 = .ok (.getstatic 57, 3) := by decide +kernel
theorem dX4_powerOf_81 : decode cX4_powerOf 81 = .ok (.aload_n 0, 1) := by decide +kernel
theorem dX4_powerOf_82 : decode cX4_powerOf 82 = .ok (.getfield 27, 3) := by decide +kernel
theorem dX4_powerOf_85 : decode cX4_powerOf 85 = .ok (.iconst 1, 1) := by decide +kernel
theorem dX4_powerOf_86 : decode cX4_powerOf 86 = .ok (.isub, 1) := by decide +kernel
theorem dX4_powerOf_87 : decode cX4_powerOf 87 = .ok (.iload 5, 2) := by decide +kernel
theorem dX4_powerOf_89 : decode cX4_powerOf 89 = .ok (.isub, 1) := by decide +kernel
theorem dX4_powerOf_90 : decode cX4_powerOf 90 = .ok (.iaload, 1) := by decide +kernel
theorem dX4_powerOf_91 : decode cX4_powerOf 91 = .ok (.imul, 1) := by decide +kernel
theorem dX4_powerOf_92 : decode cX4_powerOf 92 = .ok (.iadd, 1) := by decide +kernel
theorem dX4_powerOf_93 : decode cX4_powerOf 93 = .ok (.istore_n 2, 1) := by decide +kernel
theorem dX4_powerOf_94 : decode cX4_powerOf 94 = .ok (.iinc 3 1, 3) := by decide +kernel
theorem dX4_powerOf_97 : decode cX4_powerOf 97 = .ok (.goto (-93), 3) := by decide +kernel
theorem dX4_powerOf_100 : decode cX4_powerOf 100 = .ok (.iload_n 2, 1) := by decide +kernel
theorem dX4_powerOf_101 : decode cX4_powerOf 101 = .ok (.ireturn, 1) := by decide +kernel
theorem dX4_fewestBlocking_0 : decode cX4_fewestBlocking 0 = .ok (.aload_n 0, 1) := by decide +kernel
theorem dX4_fewestBlocking_1 : decode cX4_fewestBlocking 1 = .ok (.invokevirtual 47, 3) := by decide +kernel
theorem dX4_fewestBlocking_4 : decode cX4_fewestBlocking 4 = .ok (.istore_n 1, 1) := by decide +kernel
theorem dX4_fewestBlocking_5 : decode cX4_fewestBlocking 5 = .ok (.iload_n 1, 1) := by decide +kernel
theorem dX4_fewestBlocking_6 : decode cX4_fewestBlocking 6 = .ok (.istore_n 2, 1) := by decide +kernel
theorem dX4_fewestBlocking_7 : decode cX4_fewestBlocking 7 = .ok (.iconst 0, 1) := by decide +kernel
theorem dX4_fewestBlocking_8 : decode cX4_fewestBlocking 8 = .ok (.istore_n 3, 1) := by decide +kernel
theorem dX4_fewestBlocking_9 : decode cX4_fewestBlocking 9 = .ok (.iload_n 3, 1) := by decide +kernel
theorem dX4_fewestBlocking_10 : decode cX4_fewestBlocking 10 = .ok (.iload_n 1, 1) := by decide +kernel
theorem dX4_fewestBlocking_11 : decode cX4_fewestBlocking 11 = .ok (.if_icmp .gt 37, 3) := by decide +kernel
theorem dX4_fewestBlocking_14 : decode cX4_fewestBlocking 14 = .ok (.aload_n 0, 1) := by decide +kernel
theorem dX4_fewestBlocking_15 : decode cX4_fewestBlocking 15 = .ok (.getfield 24, 3) := by decide +kernel
theorem dX4_fewestBlocking_18 : decode cX4_fewestBlocking 18 = .ok (.iload_n 1, 1) := by decide +kernel
theorem dX4_fewestBlocking_19 : decode cX4_fewestBlocking 19 = .ok (.iload_n 3, 1) := by decide +kernel
theorem dX4_fewestBlocking_20 : decode cX4_fewestBlocking 20 = .ok (.ixor, 1) := by decide +kernel
theorem dX4_fewestBlocking_21 : decode cX4_fewestBlocking 21 = .ok (.iaload, 1) := by decide +kernel
theorem dX4_fewestBlocking_22 : decode cX4_fewestBlocking 22 = .ok (.aload_n 0, 1) := by decide +kernel
theorem dX4_fewestBlocking_23 : decode cX4_fewestBlocking 23 = .ok (.getfield 37, 3) := by decide +kernel
theorem dX4_fewestBlocking_26 : decode cX4_fewestBlocking 26 = .ok (.if_icmp .ge 16, 3) := by decide +kernel
theorem dX4_fewestBlocking_29 : decode cX4_fewestBlocking 29 = .ok (.iload_n 3, 1) := by decide +kernel
theorem dX4_fewestBlocking_30 : decode cX4_fewestBlocking 30 = .ok (.invokestatic 51, 3) := by decide +kernel
theorem dX4_fewestBlocking_33 : decode cX4_fewestBlocking 33 = .ok (.iload_n 2, 1) := by decide +kernel
theorem dX4_fewestBlocking_34 : decode cX4_fewestBlocking 34 = .ok (.invokestatic 51, 3) := by decide +kernel
theorem dX4_fewestBlocking_37 : decode cX4_fewestBlocking 37 = .ok (.if_icmp .ge 5, 3) := by decide +kernel
theorem dX4_fewestBlocking_40 : decode cX4_fewestBlocking 40 = .ok (.iload_n 3, 1) := by decide +kernel
theorem dX4_fewestBlocking_41 : decode cX4_fewestBlocking 41 = .ok (.istore_n 2, 1) := by decide +kernel
theorem dX4_fewestBlocking_42 : decode cX4_fewestBlocking 42 = .ok (.iinc 3 1, 3) := by decide +kernel
theorem dX4_fewestBlocking_45 : decode cX4_fewestBlocking 45 = .ok (.goto (-36), 3) := by decide +kernel
theorem dX4_fewestBlocking_48 : decode cX4_fewestBlocking 48 = .ok (.iload_n 2, 1) := by decide +kernel
theorem dX4_fewestBlocking_49 : decode cX4_fewestBlocking 49 = .ok (.ireturn, 1) := by decide +kernel
theorem dX4_fewestAgreeing_0 : decode cX4_fewestAgreeing 0 = .ok (.iconst (-1), 1) := by decide +kernel
theorem dX4_fewestAgreeing_1 : decode cX4_fewestAgreeing 1 = .ok (.istore_n 1, 1) := by decide +kernel
theorem dX4_fewestAgreeing_2 : decode cX4_fewestAgreeing 2 = .ok (.iconst 0, 1) := by decide +kernel
theorem dX4_fewestAgreeing_3 : decode cX4_fewestAgreeing 3 = .ok (.istore_n 2, 1) := by decide +kernel
theorem dX4_fewestAgreeing_4 : decode cX4_fewestAgreeing 4 = .ok (.iload_n 2, 1) := by decide +kernel
theorem dX4_fewestAgreeing_5 : decode cX4_fewestAgreeing 5 = .ok (.aload_n 0, 1) := by decide +kernel
theorem dX4_fewestAgreeing_6 : decode cX4_fewestAgreeing 6 = .ok (.invokevirtual 47, 3) := by decide +kernel
theorem dX4_fewestAgreeing_9 : decode cX4_fewestAgreeing 9 = .ok (.if_icmp .gt 40, 3) := by decide +kernel
theorem dX4_fewestAgreeing_12 : decode cX4_fewestAgreeing 12 = .ok (.aload_n 0, 1) := by decide +kernel
theorem dX4_fewestAgreeing_13 : decode cX4_fewestAgreeing 13 = .ok (.getfield 24, 3) := by decide +kernel
theorem dX4_fewestAgreeing_16 : decode cX4_fewestAgreeing 16 = .ok (.iload_n 2, 1) := by decide +kernel
theorem dX4_fewestAgreeing_17 : decode cX4_fewestAgreeing 17 = .ok (.iaload, 1) := by decide +kernel
theorem dX4_fewestAgreeing_18 : decode cX4_fewestAgreeing 18 = .ok (.aload_n 0, 1) := by decide +kernel
theorem dX4_fewestAgreeing_19 : decode cX4_fewestAgreeing 19 = .ok (.getfield 37, 3) := by decide +kernel
theorem dX4_fewestAgreeing_22 : decode cX4_fewestAgreeing 22 = .ok (.if_icmp .lt 21, 3) := by decide +kernel
theorem dX4_fewestAgreeing_25 : decode cX4_fewestAgreeing 25 = .ok (.iload_n 1, 1) := by decide +kernel
theorem dX4_fewestAgreeing_26 : decode cX4_fewestAgreeing 26 = .ok (.iconst (-1), 1) := by decide +kernel
theorem dX4_fewestAgreeing_27 : decode cX4_fewestAgreeing 27 = .ok (.if_icmp .eq 14, 3) := by decide +kernel
theorem dX4_fewestAgreeing_30 : decode cX4_fewestAgreeing 30 = .ok (.iload_n 2, 1) := by decide +kernel
theorem dX4_fewestAgreeing_31 : decode cX4_fewestAgreeing 31 = .ok (.invokestatic 51, 3) := by decide +kernel
theorem dX4_fewestAgreeing_34 : decode cX4_fewestAgreeing 34 = .ok (.iload_n 1, 1) := by decide +kernel
theorem dX4_fewestAgreeing_35 : decode cX4_fewestAgreeing 35 = .ok (.invokestatic 51, 3) := by decide +kernel
theorem dX4_fewestAgreeing_38 : decode cX4_fewestAgreeing 38 = .ok (.if_icmp .ge 5, 3) := by decide +kernel
theorem dX4_fewestAgreeing_41 : decode cX4_fewestAgreeing 41 = .ok (.iload_n 2, 1) := by decide +kernel
theorem dX4_fewestAgreeing_42 : decode cX4_fewestAgreeing 42 = .ok (.istore_n 1, 1) := by decide +kernel
theorem dX4_fewestAgreeing_43 : decode cX4_fewestAgreeing 43 = .ok (.iinc 2 1, 3) := by decide +kernel
theorem dX4_fewestAgreeing_46 : decode cX4_fewestAgreeing 46 = .ok (.goto (-42), 3) := by decide +kernel
theorem dX4_fewestAgreeing_49 : decode cX4_fewestAgreeing 49 = .ok (.iload_n 1, 1) := by decide +kernel
theorem dX4_fewestAgreeing_50 : decode cX4_fewestAgreeing 50 = .ok (.ireturn, 1) := by decide +kernel
theorem dX4_winnerFrom_0 : decode cX4_winnerFrom 0 = .ok (.iconst 3, 1) := by decide +kernel
theorem dX4_winnerFrom_1 : decode cX4_winnerFrom 1 = .ok (.iload_n 1, 1) := by decide +kernel
theorem dX4_winnerFrom_2 : decode cX4_winnerFrom 2 = .ok (.isub, 1) := by decide +kernel
theorem dX4_winnerFrom_3 : decode cX4_winnerFrom 3 = .ok (.iload_n 2, 1) := by decide +kernel
theorem dX4_winnerFrom_4 : decode cX4_winnerFrom 4 = .ok (.isub, 1) := by decide +kernel
theorem dX4_winnerFrom_5 : decode cX4_winnerFrom 5 = .ok (.istore_n 3, 1) := by decide +kernel
theorem dX4_winnerFrom_6 : decode cX4_winnerFrom 6 = .ok (.aload_n 0, 1) := by decide +kernel
theorem dX4_winnerFrom_7 : decode cX4_winnerFrom 7 = .ok (.aload_n 0, 1) := by decide +kernel
theorem dX4_winnerFrom_8 : decode cX4_winnerFrom 8 = .ok (.iload_n 1, 1) := by decide +kernel
theorem dX4_winnerFrom_9 : decode cX4_winnerFrom 9 = .ok (.iload_n 2, 1) := by decide +kernel
theorem dX4_winnerFrom_10 : decode cX4_winnerFrom 10 = .ok (.invokevirtual 60, 3) := by decide +kernel
theorem dX4_winnerFrom_13 : decode cX4_winnerFrom 13 = .ok (.iload_n 3, 1) := by decide +kernel
theorem dX4_winnerFrom_14 : decode cX4_winnerFrom 14 = .ok (.invokevirtual 60, 3) := by decide +kernel
theorem dX4_winnerFrom_17 : decode cX4_winnerFrom 17 = .ok (.ireturn, 1) := by decide +kernel
theorem dX4_winnerOf_0 : decode cX4_winnerOf 0 = .ok (.iload_n 1, 1) := by decide +kernel
theorem dX4_winnerOf_1 : decode cX4_winnerOf 1 = .ok (.iload_n 2, 1) := by decide +kernel
theorem dX4_winnerOf_2 : decode cX4_winnerOf 2 = .ok (.invokestatic 64, 3) := by decide +kernel
theorem dX4_winnerOf_5 : decode cX4_winnerOf 5 = .ok (.istore_n 3, 1) := by decide +kernel
theorem dX4_winnerOf_6 : decode cX4_winnerOf 6 = .ok (.iload_n 1, 1) := by decide +kernel
theorem dX4_winnerOf_7 : decode cX4_winnerOf 7 = .ok (.iload_n 2, 1) := by decide +kernel
theorem dX4_winnerOf_8 : decode cX4_winnerOf 8 = .ok (.invokestatic 69, 3) := by decide +kernel
theorem dX4_winnerOf_11 : decode cX4_winnerOf 11 = .ok (.istore 4, 2) := by decide +kernel
theorem dX4_winnerOf_13 : decode cX4_winnerOf 13 = .ok (.iconst 0, 1) := by decide +kernel
theorem dX4_winnerOf_14 : decode cX4_winnerOf 14 = .ok (.istore 5, 2) := by decide +kernel
theorem dX4_winnerOf_16 : decode cX4_winnerOf 16 = .ok (.iconst 0, 1) := by decide +kernel
theorem dX4_winnerOf_17 : decode cX4_winnerOf 17 = .ok (.istore 6, 2) := by decide +kernel
theorem dX4_winnerOf_19 : decode cX4_winnerOf 19 = .ok (.iload 6, 2) := by decide +kernel
theorem dX4_winnerOf_21 : decode cX4_winnerOf 21 = .ok (.aload_n 0, 1) := by decide +kernel
theorem dX4_winnerOf_22 : decode cX4_winnerOf 22 = .ok (.getfield 27, 3) := by decide +kernel
theorem dX4_winnerOf_25 : decode cX4_winnerOf 25 = .ok (.if_icmp .ge 73, 3) := by decide +kernel
theorem dX4_winnerOf_28 : decode cX4_winnerOf 28 = .ok (.iload 6, 2) := by decide +kernel
theorem dX4_winnerOf_30 : decode cX4_winnerOf 30 = .ok (.bipush 6, 2) := by decide +kernel
theorem dX4_winnerOf_32 : decode cX4_winnerOf 32 = .ok (.irem, 1) := by decide +kernel
theorem dX4_winnerOf_33 : decode cX4_winnerOf 33 = .ok (.iconst 3, 1) := by decide +kernel
theorem dX4_winnerOf_34 : decode cX4_winnerOf 34 = .ok (.imul, 1) := by decide +kernel
theorem dX4_winnerOf_35 : decode cX4_winnerOf 35 = .ok (.istore 7, 2) := by decide +kernel
theorem dX4_winnerOf_37 : decode cX4_winnerOf 37 = .ok (.getstatic 72, 3) := by decide +kernel
theorem dX4_winnerOf_40 : decode cX4_winnerOf 40 = .ok (.iload 7, 2) := by decide +kernel
theorem dX4_winnerOf_42 : decode cX4_winnerOf 42 = .ok (.iload_n 3, 1) := by decide +kernel
theorem dX4_winnerOf_43 : decode cX4_winnerOf 43 = .ok (.iadd, 1) := by decide +kernel
theorem dX4_winnerOf_44 : decode cX4_winnerOf 44 = .ok (.iaload, 1) := by decide +kernel
theorem dX4_winnerOf_45 : decode cX4_winnerOf 45 = .ok (.getstatic 72, 3) := by decide +kernel
theorem dX4_winnerOf_48 : decode cX4_winnerOf 48 = .ok (.iload 7, 2) := by decide +kernel
theorem dX4_winnerOf_50 : decode cX4_winnerOf 50 = .ok (.iload 4, 2) := by decide +kernel
theorem dX4_winnerOf_52 : decode cX4_winnerOf 52 = .ok (.iadd, 1) := by decide +kernel
theorem dX4_winnerOf_53 : decode cX4_winnerOf 53 = .ok (.iaload, 1) := by decide +kernel
theorem dX4_winnerOf_54 : decode cX4_winnerOf 54 = .ok (.if_icmp .ge 7, 3) := by decide +kernel
theorem dX4_winnerOf_57 : decode cX4_winnerOf 57 = .ok (.iconst 1, 1) := by decide +kernel
theorem dX4_winnerOf_58 : decode cX4_winnerOf 58 = .ok (.goto 4, 3) := by decide +kernel
theorem dX4_winnerOf_61 : decode cX4_winnerOf 61 = .ok (.iconst 0, 1) := by decide +kernel
theorem dX4_winnerOf_62 : decode cX4_winnerOf 62 = .ok (.istore 8, 2) := by decide +kernel
theorem dX4_winnerOf_64 : decode cX4_winnerOf 64 = .ok (.iload 5, 2) := by decide +kernel
theorem dX4_winnerOf_66 : decode cX4_winnerOf 66 = .ok (.iload 8, 2) := by decide +kernel
theorem dX4_winnerOf_68 : decode cX4_winnerOf 68 = .ok (.ifCond .eq 13, 3) := by decide +kernel
theorem dX4_winnerOf_71 : decode cX4_winnerOf 71 = .ok (.aload_n 0, 1) := by decide +kernel
theorem dX4_winnerOf_72 : decode cX4_winnerOf 72 = .ok (.getfield 9, 3) := by decide +kernel
theorem dX4_winnerOf_75 : decode cX4_winnerOf 75 = .ok (.iload 6, 2) := by decide +kernel
theorem dX4_winnerOf_77 : decode cX4_winnerOf 77 = .ok (.iaload, 1) := by decide +kernel
theorem dX4_winnerOf_78 : decode cX4_winnerOf 78 = .ok (.goto 11, 3) := by decide +kernel
theorem dX4_winnerOf_81 : decode cX4_winnerOf 81 = .ok (.aload_n 0, 1) := by decide +kernel
theorem dX4_winnerOf_82 : decode cX4_winnerOf 82 = .ok (.getfield 9, 3) := by decide +kernel
theorem dX4_winnerOf_85 : decode cX4_winnerOf 85 = .ok (.iload 6, 2) := by decide +kernel
theorem dX4_winnerOf_87 : decode cX4_winnerOf 87 = .ok (.iaload, 1) := by decide +kernel
theorem dX4_winnerOf_88 : decode cX4_winnerOf 88 = .ok (.ineg, 1) := by decide +kernel
theorem dX4_winnerOf_89 : decode cX4_winnerOf 89 = .ok (.iadd, 1) := by decide +kernel
theorem dX4_winnerOf_90 : decode cX4_winnerOf 90 = .ok (.istore 5, 2) := by decide +kernel
theorem dX4_winnerOf_92 : decode cX4_winnerOf 92 = .ok (.iinc 6 1, 3) := by decide +kernel
theorem dX4_winnerOf_95 : decode cX4_winnerOf 95 = .ok (.goto (-76), 3) := by decide +kernel
theorem dX4_winnerOf_98 : decode cX4_winnerOf 98 = .ok (.iload 5, 2) := by decide +kernel
theorem dX4_winnerOf_100 : decode cX4_winnerOf 100 = .ok (.ifCond .lt 7, 3) := by decide +kernel
theorem dX4_winnerOf_103 : decode cX4_winnerOf 103 = .ok (.iload_n 3, 1) := by decide +kernel
theorem dX4_winnerOf_104 : decode cX4_winnerOf 104 = .ok (.goto 5, 3) := by decide +kernel
theorem dX4_winnerOf_107 : decode cX4_winnerOf 107 = .ok (.iload 4, 2) := by decide +kernel
theorem dX4_winnerOf_109 : decode cX4_winnerOf 109 = .ok (.ireturn, 1) := by decide +kernel
theorem dX4_toldOn_0 : decode cX4_toldOn 0 = .ok (.iload_n 1, 1) := by decide +kernel
theorem dX4_toldOn_1 : decode cX4_toldOn 1 = .ok (.istore_n 2, 1) := by decide +kernel
theorem dX4_toldOn_2 : decode cX4_toldOn 2 = .ok (.iconst 0, 1) := by decide +kernel
theorem dX4_toldOn_3 : decode cX4_toldOn 3 = .ok (.istore_n 3, 1) := by decide +kernel
theorem dX4_toldOn_4 : decode cX4_toldOn 4 = .ok (.iload_n 3, 1) := by decide +kernel
theorem dX4_toldOn_5 : decode cX4_toldOn 5 = .ok (.aload_n 0, 1) := by decide +kernel
theorem dX4_toldOn_6 : decode cX4_toldOn 6 = .ok (.getfield 27, 3) := by decide +kernel
theorem dX4_toldOn_9 : decode cX4_toldOn 9 = .ok (.if_icmp .ge 42, 3) := by decide +kernel
theorem dX4_toldOn_12 : decode cX4_toldOn 12 = .ok (.iload_n 1, 1) := by decide +kernel
theorem dX4_toldOn_13 : decode cX4_toldOn 13 = .ok (.iload_n 3, 1) := by decide +kernel
theorem dX4_toldOn_14 : decode cX4_toldOn 14 = .ok (.ishr, 1) := by decide +kernel
theorem dX4_toldOn_15 : decode cX4_toldOn 15 = .ok (.iconst 1, 1) := by decide +kernel
theorem dX4_toldOn_16 : decode cX4_toldOn 16 = .ok (.iand, 1) := by decide +kernel
theorem dX4_toldOn_17 : decode cX4_toldOn 17 = .ok (.iconst 1, 1) := by decide +kernel
theorem dX4_toldOn_18 : decode cX4_toldOn 18 = .ok (.if_icmp .ne 27, 3) := by decide +kernel
theorem dX4_toldOn_21 : decode cX4_toldOn 21 = .ok (.iload_n 2, 1) := by decide +kernel
theorem dX4_toldOn_22 : decode cX4_toldOn 22 = .ok (.iconst 1, 1) := by decide +kernel
theorem dX4_toldOn_23 : decode cX4_toldOn 23 = .ok (.iload_n 3, 1) := by decide +kernel
theorem dX4_toldOn_24 : decode cX4_toldOn 24 = .ok (.iconst 1, 1) := by decide +kernel
theorem dX4_toldOn_25 : decode cX4_toldOn 25 = .ok (.iadd, 1) := by decide +kernel
theorem dX4_toldOn_26 : decode cX4_toldOn 26 = .ok (.aload_n 0, 1) := by decide +kernel
theorem dX4_toldOn_27 : decode cX4_toldOn 27 = .ok (.getfield 27, 3) := by decide +kernel
theorem dX4_toldOn_30 : decode cX4_toldOn 30 = .ok (.irem, 1) := by decide +kernel
theorem dX4_toldOn_31 : decode cX4_toldOn 31 = .ok (.ishl, 1) := by decide +kernel
theorem dX4_toldOn_32 : decode cX4_toldOn 32 = .ok (.iconst 1, 1) := by decide +kernel
theorem dX4_toldOn_33 : decode cX4_toldOn 33 = .ok (.iload_n 3, 1) := by decide +kernel
theorem dX4_toldOn_34 : decode cX4_toldOn 34 = .ok (.iconst 3, 1) := by decide +kernel
theorem dX4_toldOn_35 : decode cX4_toldOn 35 = .ok (.iadd, 1) := by decide +kernel
theorem dX4_toldOn_36 : decode cX4_toldOn 36 = .ok (.aload_n 0, 1) := by decide +kernel
theorem dX4_toldOn_37 : decode cX4_toldOn 37 = .ok (.getfield 27, 3) := by decide +kernel
theorem dX4_toldOn_40 : decode cX4_toldOn 40 = .ok (.irem, 1) := by decide +kernel
theorem dX4_toldOn_41 : decode cX4_toldOn 41 = .ok (.ishl, 1) := by decide +kernel
theorem dX4_toldOn_42 : decode cX4_toldOn 42 = .ok (.ior, 1) := by decide +kernel
theorem dX4_toldOn_43 : decode cX4_toldOn 43 = .ok (.ior, 1) := by decide +kernel
theorem dX4_toldOn_44 : decode cX4_toldOn 44 = .ok (.istore_n 2, 1) := by decide +kernel
theorem dX4_toldOn_45 : decode cX4_toldOn 45 = .ok (.iinc 3 1, 3) := by decide +kernel
theorem dX4_toldOn_48 : decode cX4_toldOn 48 = .ok (.goto (-44), 3) := by decide +kernel
theorem dX4_toldOn_51 : decode cX4_toldOn 51 = .ok (.iload_n 2, 1) := by decide +kernel
theorem dX4_toldOn_52 : decode cX4_toldOn 52 = .ok (.ireturn, 1) := by decide +kernel
theorem dX5_init_0 : decode cX5_init 0 = .ok (.aload_n 0, 1) := by decide +kernel
theorem dX5_init_1 : decode cX5_init 1 = .ok (.invokespecial 3, 3) := by decide +kernel
theorem dX5_init_4 : decode cX5_init 4 = .ok (.aload_n 0, 1) := by decide +kernel
theorem dX5_init_5 : decode cX5_init 5 = .ok (.bipush 8, 2) := by decide +kernel
theorem dX5_init_7 : decode cX5_init 7 = .ok (.newarray .int, 2) := by decide +kernel
theorem dX5_init_9 : decode cX5_init 9 = .ok (.putfield 9, 3) := by decide +kernel
theorem dX5_init_12 : decode cX5_init 12 = .ok (.aload_n 0, 1) := by decide +kernel
theorem dX5_init_13 : decode cX5_init 13 = .ok (.bipush 8, 2) := by decide +kernel
theorem dX5_init_15 : decode cX5_init 15 = .ok (.newarray .int, 2) := by decide +kernel
theorem dX5_init_17 : decode cX5_init 17 = .ok (.putfield 15, 3) := by decide +kernel
theorem dX5_init_20 : decode cX5_init 20 = .ok (.aload_n 0, 1) := by decide +kernel
theorem dX5_init_21 : decode cX5_init 21 = .ok (.bipush 8, 2) := by decide +kernel
theorem dX5_init_23 : decode cX5_init 23 = .ok (.newarray .int, 2) := by decide +kernel
theorem dX5_init_25 : decode cX5_init 25 = .ok (.putfield 18, 3) := by decide +kernel
theorem dX5_init_28 : decode cX5_init 28 = .ok (.aload_n 0, 1) := by decide +kernel
theorem dX5_init_29 : decode cX5_init 29 = .ok (.bipush 8, 2) := by decide +kernel
theorem dX5_init_31 : decode cX5_init 31 = .ok (.newarray .int, 2) := by decide +kernel
theorem dX5_init_33 : decode cX5_init 33 = .ok (.putfield 21, 3) := by decide +kernel
theorem dX5_init_36 : decode cX5_init 36 = .ok (.return_, 1) := by decide +kernel
theorem dX5_begin_0 : decode cX5_begin 0 = .ok (.aload_n 1, 1) := by decide +kernel
theorem dX5_begin_1 : decode cX5_begin 1 = .ok (.getfield 24, 3) := by decide +kernel
theorem dX5_begin_4 : decode cX5_begin 4 = .ok (.iconst 0, 1) := by decide +kernel
theorem dX5_begin_5 : decode cX5_begin 5 = .ok (.aload_n 0, 1) := by decide +kernel
theorem dX5_begin_6 : decode cX5_begin 6 = .ok (.getfield 9, 3) := by decide +kernel
theorem dX5_begin_9 : decode cX5_begin 9 = .ok (.iconst 0, 1) := by decide +kernel
theorem dX5_begin_10 : decode cX5_begin 10 = .ok (.bipush 8, 2) := by decide +kernel
theorem dX5_begin_12 : decode cX5_begin 12 = .ok (.invokestatic 29, 3) := by decide +kernel
theorem dX5_begin_15 : decode cX5_begin 15 = .ok (.aload_n 1, 1) := by decide +kernel
theorem dX5_begin_16 : decode cX5_begin 16 = .ok (.getfield 35, 3) := by decide +kernel
theorem dX5_begin_19 : decode cX5_begin 19 = .ok (.iconst 0, 1) := by decide +kernel
theorem dX5_begin_20 : decode cX5_begin 20 = .ok (.aload_n 0, 1) := by decide +kernel
theorem dX5_begin_21 : decode cX5_begin 21 = .ok (.getfield 15, 3) := by decide +kernel
theorem dX5_begin_24 : decode cX5_begin 24 = .ok (.iconst 0, 1) := by decide +kernel
theorem dX5_begin_25 : decode cX5_begin 25 = .ok (.bipush 8, 2) := by decide +kernel
theorem dX5_begin_27 : decode cX5_begin 27 = .ok (.invokestatic 29, 3) := by decide +kernel
theorem dX5_begin_30 : decode cX5_begin 30 = .ok (.aload_n 0, 1) := by decide +kernel
theorem dX5_begin_31 : decode cX5_begin 31 = .ok (.getfield 18, 3) := by decide +kernel
theorem dX5_begin_34 : decode cX5_begin 34 = .ok (.iconst 0, 1) := by decide +kernel
theorem dX5_begin_35 : decode cX5_begin 35 = .ok (.invokestatic 36, 3) := by decide +kernel
theorem dX5_begin_38 : decode cX5_begin 38 = .ok (.aload_n 0, 1) := by decide +kernel
theorem dX5_begin_39 : decode cX5_begin 39 = .ok (.getfield 21, 3) := by decide +kernel
theorem dX5_begin_42 : decode cX5_begin 42 = .ok (.iconst 0, 1) := by decide +kernel
theorem dX5_begin_43 : decode cX5_begin 43 = .ok (.invokestatic 36, 3) := by decide +kernel
theorem dX5_begin_46 : decode cX5_begin 46 = .ok (.aload_n 0, 1) := by decide +kernel
theorem dX5_begin_47 : decode cX5_begin 47 = .ok (.iconst 1, 1) := by decide +kernel
theorem dX5_begin_48 : decode cX5_begin 48 = .ok (.aload_n 1, 1) := by decide +kernel
theorem dX5_begin_49 : decode cX5_begin 49 = .ok (.getfield 42, 3) := by decide +kernel
theorem dX5_begin_52 : decode cX5_begin 52 = .ok (.ishl, 1) := by decide +kernel
theorem dX5_begin_53 : decode cX5_begin 53 = .ok (.iconst 1, 1) := by decide +kernel
theorem dX5_begin_54 : decode cX5_begin 54 = .ok (.isub, 1) := by decide +kernel
theorem dX5_begin_55 : decode cX5_begin 55 = .ok (.putfield 46, 3) := by decide +kernel
theorem dX5_begin_58 : decode cX5_begin 58 = .ok (.aload_n 0, 1) := by decide +kernel
theorem dX5_begin_59 : decode cX5_begin 59 = .ok (.iconst 0, 1) := by decide +kernel
theorem dX5_begin_60 : decode cX5_begin 60 = .ok (.putfield 49, 3) := by decide +kernel
theorem dX5_begin_63 : decode cX5_begin 63 = .ok (.aload_n 0, 1) := by decide +kernel
theorem dX5_begin_64 : decode cX5_begin 64 = .ok (.iconst 0, 1) := by decide +kernel
theorem dX5_begin_65 : decode cX5_begin 65 = .ok (.putfield 52, 3) := by decide +kernel
theorem dX5_begin_68 : decode cX5_begin 68 = .ok (.aload_n 0, 1) := by decide +kernel
theorem dX5_begin_69 : decode cX5_begin 69 = .ok (.iconst 0, 1) := by decide +kernel
theorem dX5_begin_70 : decode cX5_begin 70 = .ok (.putfield 55, 3) := by decide +kernel
theorem dX5_begin_73 : decode cX5_begin 73 = .ok (.return_, 1) := by decide +kernel
theorem dX5_copyFrom_0 : decode cX5_copyFrom 0 = .ok (.aload_n 1, 1) := by decide +kernel
theorem dX5_copyFrom_1 : decode cX5_copyFrom 1 = .ok (.getfield 9, 3) := by decide +kernel
theorem dX5_copyFrom_4 : decode cX5_copyFrom 4 = .ok (.iconst 0, 1) := by decide +kernel
theorem dX5_copyFrom_5 : decode cX5_copyFrom 5 = .ok (.aload_n 0, 1) := by decide +kernel
theorem dX5_copyFrom_6 : decode cX5_copyFrom 6 = .ok (.getfield 9, 3) := by decide +kernel
theorem dX5_copyFrom_9 : decode cX5_copyFrom 9 = .ok (.iconst 0, 1) := by decide +kernel
theorem dX5_copyFrom_10 : decode cX5_copyFrom 10 = .ok (.bipush 8, 2) := by decide +kernel
theorem dX5_copyFrom_12 : decode cX5_copyFrom 12 = .ok (.invokestatic 29, 3) := by decide +kernel
theorem dX5_copyFrom_15 : decode cX5_copyFrom 15 = .ok (.aload_n 1, 1) := by decide +kernel
theorem dX5_copyFrom_16 : decode cX5_copyFrom 16 = .ok (.getfield 15, 3) := by decide +kernel
theorem dX5_copyFrom_19 : decode cX5_copyFrom 19 = .ok (.iconst 0, 1) := by decide +kernel
theorem dX5_copyFrom_20 : decode cX5_copyFrom 20 = .ok (.aload_n 0, 1) := by decide +kernel
theorem dX5_copyFrom_21 : decode cX5_copyFrom 21 = .ok (.getfield 15, 3) := by decide +kernel
theorem dX5_copyFrom_24 : decode cX5_copyFrom 24 = .ok (.iconst 0, 1) := by decide +kernel
theorem dX5_copyFrom_25 : decode cX5_copyFrom 25 = .ok (.bipush 8, 2) := by decide +kernel
theorem dX5_copyFrom_27 : decode cX5_copyFrom 27 = .ok (.invokestatic 29, 3) := by decide +kernel
theorem dX5_copyFrom_30 : decode cX5_copyFrom 30 = .ok (.aload_n 1, 1) := by decide +kernel
theorem dX5_copyFrom_31 : decode cX5_copyFrom 31 = .ok (.getfield 18, 3) := by decide +kernel
theorem dX5_copyFrom_34 : decode cX5_copyFrom 34 = .ok (.iconst 0, 1) := by decide +kernel
theorem dX5_copyFrom_35 : decode cX5_copyFrom 35 = .ok (.aload_n 0, 1) := by decide +kernel
theorem dX5_copyFrom_36 : decode cX5_copyFrom 36 = .ok (.getfield 18, 3) := by decide +kernel
theorem dX5_copyFrom_39 : decode cX5_copyFrom 39 = .ok (.iconst 0, 1) := by decide +kernel
end
section
theorem dX5_copyFrom_40 : decode cX5_copyFrom 40 = .ok (.bipush 8, 2) := by decide +kernel
theorem dX5_copyFrom_42 : decode cX5_copyFrom 42 = .ok (.invokestatic 29, 3) := by decide +kernel
theorem dX5_copyFrom_45 : decode cX5_copyFrom 45 = .ok (.aload_n 1, 1) := by decide +kernel
theorem dX5_copyFrom_46 : decode cX5_copyFrom 46 = .ok (.getfield 21, 3) := by decide +kernel
theorem dX5_copyFrom_49 : decode cX5_copyFrom 49 = .ok (.iconst 0, 1) := by decide +kernel
theorem dX5_copyFrom_50 : decode cX5_copyFrom 50 = .ok (.aload_n 0, 1) := by decide +kernel
theorem dX5_copyFrom_51 : decode cX5_copyFrom 51 = .ok (.getfield 21, 3) := by decide +kernel
theorem dX5_copyFrom_54 : decode cX5_copyFrom 54 = .ok (.iconst 0, 1) := by decide +kernel
theorem dX5_copyFrom_55 : decode cX5_copyFrom 55 = .ok (.bipush 8, 2) := by decide +kernel
theorem dX5_copyFrom_57 : decode cX5_copyFrom 57 = .ok (.invokestatic 29, 3) := by decide +kernel
theorem dX5_copyFrom_60 : decode cX5_copyFrom 60 = .ok (.aload_n 0, 1) := by decide +kernel
theorem dX5_copyFrom_61 : decode cX5_copyFrom 61 = .ok (.aload_n 1, 1) := by decide +kernel
theorem dX5_copyFrom_62 : decode cX5_copyFrom 62 = .ok (.getfield 46, 3) := by decide +kernel
theorem dX5_copyFrom_65 : decode cX5_copyFrom 65 = .ok (.putfield 46, 3) := by decide +kernel
theorem dX5_copyFrom_68 : decode cX5_copyFrom 68 = .ok (.aload_n 0, 1) := by decide +kernel
theorem dX5_copyFrom_69 : decode cX5_copyFrom 69 = .ok (.aload_n 1, 1) := by decide +kernel
theorem dX5_copyFrom_70 : decode cX5_copyFrom 70 = .ok (.getfield 49, 3) := by decide +kernel
theorem dX5_copyFrom_73 : decode cX5_copyFrom 73 = .ok (.putfield 49, 3) := by decide +kernel
theorem dX5_copyFrom_76 : decode cX5_copyFrom 76 = .ok (.aload_n 0, 1) := by decide +kernel
theorem dX5_copyFrom_77 : decode cX5_copyFrom 77 = .ok (.aload_n 1, 1) := by decide +kernel
theorem dX5_copyFrom_78 : decode cX5_copyFrom 78 = .ok (.getfield 52, 3) := by decide +kernel
theorem dX5_copyFrom_81 : decode cX5_copyFrom 81 = .ok (.putfield 52, 3) := by decide +kernel
theorem dX5_copyFrom_84 : decode cX5_copyFrom 84 = .ok (.aload_n 0, 1) := by decide +kernel
theorem dX5_copyFrom_85 : decode cX5_copyFrom 85 = .ok (.aload_n 1, 1) := by decide +kernel
theorem dX5_copyFrom_86 : decode cX5_copyFrom 86 = .ok (.getfield 55, 3) := by decide +kernel
theorem dX5_copyFrom_89 : decode cX5_copyFrom 89 = .ok (.putfield 55, 3) := by decide +kernel
theorem dX5_copyFrom_92 : decode cX5_copyFrom 92 = .ok (.return_, 1) := by decide +kernel
theorem dX5_isUp_0 : decode cX5_isUp 0 = .ok (.aload_n 0, 1) := by decide +kernel
theorem dX5_isUp_1 : decode cX5_isUp 1 = .ok (.getfield 46, 3) := by decide +kernel
theorem dX5_isUp_4 : decode cX5_isUp 4 = .ok (.iload_n 1, 1) := by decide +kernel
theorem dX5_isUp_5 : decode cX5_isUp 5 = .ok (.ishr, 1) := by decide +kernel
theorem dX5_isUp_6 : decode cX5_isUp 6 = .ok (.iconst 1, 1) := by decide +kernel
theorem dX5_isUp_7 : decode cX5_isUp 7 = .ok (.iand, 1) := by decide +kernel
theorem dX5_isUp_8 : decode cX5_isUp 8 = .ok (.iconst 1, 1) := by decide +kernel
theorem dX5_isUp_9 : decode cX5_isUp 9 = .ok (.if_icmp .ne 7, 3) := by decide +kernel
theorem dX5_isUp_12 : decode cX5_isUp 12 = .ok (.iconst 1, 1) := by decide +kernel
theorem dX5_isUp_13 : decode cX5_isUp 13 = .ok (.goto 4, 3) := by decide +kernel
theorem dX5_isUp_16 : decode cX5_isUp 16 = .ok (.iconst 0, 1) := by decide +kernel
theorem dX5_isUp_17 : decode cX5_isUp 17 = .ok (.ireturn, 1) := by decide +kernel
theorem dX5_raise_0 : decode cX5_raise 0 = .ok (.aload_n 0, 1) := by decide +kernel
theorem dX5_raise_1 : decode cX5_raise 1 = .ok (.dup, 1) := by decide +kernel
theorem dX5_raise_2 : decode cX5_raise 2 = .ok (.getfield 46, 3) := by decide +kernel
theorem dX5_raise_5 : decode cX5_raise 5 = .ok (.iconst 1, 1) := by decide +kernel
theorem dX5_raise_6 : decode cX5_raise 6 = .ok (.iload_n 1, 1) := by decide +kernel
theorem dX5_raise_7 : decode cX5_raise 7 = .ok (.ishl, 1) := by decide +kernel
theorem dX5_raise_8 : decode cX5_raise 8 = .ok (.ior, 1) := by decide +kernel
theorem dX5_raise_9 : decode cX5_raise 9 = .ok (.putfield 46, 3) := by decide +kernel
theorem dX5_raise_12 : decode cX5_raise 12 = .ok (.return_, 1) := by decide +kernel
theorem dX5_layBack_0 : decode cX5_layBack 0 = .ok (.aload_n 0, 1) := by decide +kernel
theorem dX5_layBack_1 : decode cX5_layBack 1 = .ok (.dup, 1) := by decide +kernel
theorem dX5_layBack_2 : decode cX5_layBack 2 = .ok (.getfield 46, 3) := by decide +kernel
theorem dX5_layBack_5 : decode cX5_layBack 5 = .ok (.iconst 1, 1) := by decide +kernel
theorem dX5_layBack_6 : decode cX5_layBack 6 = .ok (.iload_n 1, 1) := by decide +kernel
theorem dX5_layBack_7 : decode cX5_layBack 7 = .ok (.ishl, 1) := by decide +kernel
theorem dX5_layBack_8 : decode cX5_layBack 8 = .ok (.iconst (-1), 1) := by decide +kernel
theorem dX5_layBack_9 : decode cX5_layBack 9 = .ok (.ixor, 1) := by decide +kernel
theorem dX5_layBack_10 : decode cX5_layBack 10 = .ok (.iand, 1) := by decide +kernel
theorem dX5_layBack_11 : decode cX5_layBack 11 = .ok (.putfield 46, 3) := by decide +kernel
theorem dX5_layBack_14 : decode cX5_layBack 14 = .ok (.return_, 1) := by decide +kernel
theorem dX5_send_0 : decode cX5_send 0 = .ok (.aload_n 0, 1) := by decide +kernel
theorem dX5_send_1 : decode cX5_send 1 = .ok (.getfield 9, 3) := by decide +kernel
theorem dX5_send_4 : decode cX5_send 4 = .ok (.iload_n 1, 1) := by decide +kernel
theorem dX5_send_5 : decode cX5_send 5 = .ok (.iload_n 2, 1) := by decide +kernel
theorem dX5_send_6 : decode cX5_send 6 = .ok (.iastore, 1) := by decide +kernel
theorem dX5_send_7 : decode cX5_send 7 = .ok (.aload_n 0, 1) := by decide +kernel
theorem dX5_send_8 : decode cX5_send 8 = .ok (.iload_n 1, 1) := by decide +kernel
theorem dX5_send_9 : decode cX5_send 9 = .ok (.invokevirtual 58, 3) := by decide +kernel
theorem dX5_send_12 : decode cX5_send 12 = .ok (.return_, 1) := by decide +kernel
theorem dX5_exchange_0 : decode cX5_exchange 0 = .ok (.aload_n 0, 1) := by decide +kernel
theorem dX5_exchange_1 : decode cX5_exchange 1 = .ok (.getfield 9, 3) := by decide +kernel
theorem dX5_exchange_4 : decode cX5_exchange 4 = .ok (.iload_n 1, 1) := by decide +kernel
theorem dX5_exchange_5 : decode cX5_exchange 5 = .ok (.iaload, 1) := by decide +kernel
theorem dX5_exchange_6 : decode cX5_exchange 6 = .ok (.istore_n 3, 1) := by decide +kernel
theorem dX5_exchange_7 : decode cX5_exchange 7 = .ok (.aload_n 0, 1) := by decide +kernel
theorem dX5_exchange_8 : decode cX5_exchange 8 = .ok (.iload_n 1, 1) := by decide +kernel
theorem dX5_exchange_9 : decode cX5_exchange 9 = .ok (.aload_n 0, 1) := by decide +kernel
theorem dX5_exchange_10 : decode cX5_exchange 10 = .ok (.getfield 9, 3) := by decide +kernel
theorem dX5_exchange_13 : decode cX5_exchange 13 = .ok (.iload_n 2, 1) := by decide +kernel
theorem dX5_exchange_14 : decode cX5_exchange 14 = .ok (.iaload, 1) := by decide +kernel
theorem dX5_exchange_15 : decode cX5_exchange 15 = .ok (.invokevirtual 62, 3) := by decide +kernel
theorem dX5_exchange_18 : decode cX5_exchange 18 = .ok (.aload_n 0, 1) := by decide +kernel
theorem dX5_exchange_19 : decode cX5_exchange 19 = .ok (.iload_n 2, 1) := by decide +kernel
theorem dX5_exchange_20 : decode cX5_exchange 20 = .ok (.iload_n 3, 1) := by decide +kernel
theorem dX5_exchange_21 : decode cX5_exchange 21 = .ok (.invokevirtual 62, 3) := by decide +kernel
theorem dX5_exchange_24 : decode cX5_exchange 24 = .ok (.return_, 1) := by decide +kernel
theorem dX5_strays_0 : decode cX5_strays 0 = .ok (.iconst 0, 1) := by decide +kernel
theorem dX5_strays_1 : decode cX5_strays 1 = .ok (.istore_n 2, 1) := by decide +kernel
theorem dX5_strays_2 : decode cX5_strays 2 = .ok (.iconst 0, 1) := by decide +kernel
theorem dX5_strays_3 : decode cX5_strays 3 = .ok (.istore_n 3, 1) := by decide +kernel
theorem dX5_strays_4 : decode cX5_strays 4 = .ok (.iload_n 3, 1) := by decide +kernel
theorem dX5_strays_5 : decode cX5_strays 5 = .ok (.aload_n 1, 1) := by decide +kernel
theorem dX5_strays_6 : decode cX5_strays 6 = .ok (.getfield 42, 3) := by decide +kernel
theorem dX5_strays_9 : decode cX5_strays 9 = .ok (.if_icmp .ge 30, 3) := by decide +kernel
theorem dX5_strays_12 : decode cX5_strays 12 = .ok (.aload_n 0, 1) := by decide +kernel
theorem dX5_strays_13 : decode cX5_strays 13 = .ok (.getfield 9, 3) := by decide +kernel
theorem dX5_strays_16 : decode cX5_strays 16 = .ok (.iload_n 3, 1) := by decide +kernel
theorem dX5_strays_17 : decode cX5_strays 17 = .ok (.iaload, 1) := by decide +kernel
theorem dX5_strays_18 : decode cX5_strays 18 = .ok (.aload_n 1, 1) := by decide +kernel
theorem dX5_strays_19 : decode cX5_strays 19 = .ok (.getfield 24, 3) := by decide +kernel
theorem dX5_strays_22 : decode cX5_strays 22 = .ok (.iload_n 3, 1) := by decide +kernel
theorem dX5_strays_23 : decode cX5_strays 23 = .ok (.iaload, 1) := by decide +kernel
theorem dX5_strays_24 : decode cX5_strays 24 = .ok (.if_icmp .eq 9, 3) := by decide +kernel
theorem dX5_strays_27 : decode cX5_strays 27 = .ok (.iload_n 2, 1) := by decide +kernel
theorem dX5_strays_28 : decode cX5_strays 28 = .ok (.iconst 1, 1) := by decide +kernel
theorem dX5_strays_29 : decode cX5_strays 29 = .ok (.iload_n 3, 1) := by decide +kernel
theorem dX5_strays_30 : decode cX5_strays 30 = .ok (.ishl, 1) := by decide +kernel
theorem dX5_strays_31 : decode cX5_strays 31 = .ok (.ior, 1) := by decide +kernel
theorem dX5_strays_32 : decode cX5_strays 32 = .ok (.istore_n 2, 1) := by decide +kernel
theorem dX5_strays_33 : decode cX5_strays 33 = .ok (.iinc 3 1, 3) := by decide +kernel
theorem dX5_strays_36 : decode cX5_strays 36 = .ok (.goto (-32), 3) := by decide +kernel
theorem dX5_strays_39 : decode cX5_strays 39 = .ok (.iload_n 2, 1) := by decide +kernel
theorem dX5_strays_40 : decode cX5_strays 40 = .ok (.ireturn, 1) := by decide +kernel
theorem dX5_nodding_0 : decode cX5_nodding 0 = .ok (.iconst 0, 1) := by decide +kernel
theorem dX5_nodding_1 : decode cX5_nodding 1 = .ok (.istore_n 2, 1) := by decide +kernel
theorem dX5_nodding_2 : decode cX5_nodding 2 = .ok (.iconst 0, 1) := by decide +kernel
theorem dX5_nodding_3 : decode cX5_nodding 3 = .ok (.istore_n 3, 1) := by decide +kernel
theorem dX5_nodding_4 : decode cX5_nodding 4 = .ok (.iconst 0, 1) := by decide +kernel
theorem dX5_nodding_5 : decode cX5_nodding 5 = .ok (.istore 4, 2) := by decide +kernel
theorem dX5_nodding_7 : decode cX5_nodding 7 = .ok (.iload 4, 2) := by decide +kernel
theorem dX5_nodding_9 : decode cX5_nodding 9 = .ok (.aload_n 1, 1) := by decide +kernel
theorem dX5_nodding_10 : decode cX5_nodding 10 = .ok (.getfield 42, 3) := by decide +kernel
theorem dX5_nodding_13 : decode cX5_nodding 13 = .ok (.if_icmp .ge 53, 3) := by decide +kernel
theorem dX5_nodding_16 : decode cX5_nodding 16 = .ok (.aload_n 0, 1) := by decide +kernel
theorem dX5_nodding_17 : decode cX5_nodding 17 = .ok (.iload 4, 2) := by decide +kernel
theorem dX5_nodding_19 : decode cX5_nodding 19 = .ok (.invokevirtual 66, 3) := by decide +kernel
theorem dX5_nodding_22 : decode cX5_nodding 22 = .ok (.ifCond .eq 38, 3) := by decide +kernel
theorem dX5_nodding_25 : decode cX5_nodding 25 = .ok (.iload_n 2, 1) := by decide +kernel
theorem dX5_nodding_26 : decode cX5_nodding 26 = .ok (.iconst 1, 1) := by decide +kernel
theorem dX5_nodding_27 : decode cX5_nodding 27 = .ok (.aload_n 0, 1) := by decide +kernel
theorem dX5_nodding_28 : decode cX5_nodding 28 = .ok (.getfield 9, 3) := by decide +kernel
theorem dX5_nodding_31 : decode cX5_nodding 31 = .ok (.iload 4, 2) := by decide +kernel
theorem dX5_nodding_33 : decode cX5_nodding 33 = .ok (.iaload, 1) := by decide +kernel
theorem dX5_nodding_34 : decode cX5_nodding 34 = .ok (.ishl, 1) := by decide +kernel
theorem dX5_nodding_35 : decode cX5_nodding 35 = .ok (.ior, 1) := by decide +kernel
theorem dX5_nodding_36 : decode cX5_nodding 36 = .ok (.istore_n 2, 1) := by decide +kernel
theorem dX5_nodding_37 : decode cX5_nodding 37 = .ok (.aload_n 1, 1) := by decide +kernel
theorem dX5_nodding_38 : decode cX5_nodding 38 = .ok (.getfield 70, 3) := by decide +kernel
theorem dX5_nodding_41 : decode cX5_nodding 41 = .ok (.iload 4, 2) := by decide +kernel
theorem dX5_nodding_43 : decode cX5_nodding 43 = .ok (.iaload, 1) := by decide +kernel
theorem dX5_nodding_44 : decode cX5_nodding 44 = .ok (.iconst 1, 1) := by decide +kernel
theorem dX5_nodding_45 : decode cX5_nodding 45 = .ok (.if_icmp .ne 15, 3) := by decide +kernel
theorem dX5_nodding_48 : decode cX5_nodding 48 = .ok (.iload_n 3, 1) := by decide +kernel
theorem dX5_nodding_49 : decode cX5_nodding 49 = .ok (.iconst 1, 1) := by decide +kernel
theorem dX5_nodding_50 : decode cX5_nodding 50 = .ok (.aload_n 0, 1) := by decide +kernel
theorem dX5_nodding_51 : decode cX5_nodding 51 = .ok (.getfield 9, 3) := by decide +kernel
theorem dX5_nodding_54 : decode cX5_nodding 54 = .ok (.iload 4, 2) := by decide +kernel
theorem dX5_nodding_56 : decode cX5_nodding 56 = .ok (.iaload, 1) := by decide +kernel
theorem dX5_nodding_57 : decode cX5_nodding 57 = .ok (.ishl, 1) := by decide +kernel
theorem dX5_nodding_58 : decode cX5_nodding 58 = .ok (.ior, 1) := by decide +kernel
theorem dX5_nodding_59 : decode cX5_nodding 59 = .ok (.istore_n 3, 1) := by decide +kernel
theorem dX5_nodding_60 : decode cX5_nodding 60 = .ok (.iinc 4 1, 3) := by decide +kernel
theorem dX5_nodding_63 : decode cX5_nodding 63 = .ok (.goto (-56), 3) := by decide +kernel
theorem dX5_nodding_66 : decode cX5_nodding 66 = .ok (.iload_n 2, 1) := by decide +kernel
theorem dX5_nodding_67 : decode cX5_nodding 67 = .ok (.iload_n 3, 1) := by decide +kernel
theorem dX5_nodding_68 : decode cX5_nodding 68 = .ok (.iconst (-1), 1) := by decide +kernel
theorem dX5_nodding_69 : decode cX5_nodding 69 = .ok (.ixor, 1) := by decide +kernel
theorem dX5_nodding_70 : decode cX5_nodding 70 = .ok (.iand, 1) := by decide +kernel
theorem dX5_nodding_71 : decode cX5_nodding 71 = .ok (.ireturn, 1) := by decide +kernel
theorem dX5_holdAudience_0 : decode cX5_holdAudience 0 = .ok (.aload_n 1, 1) := by decide +kernel
theorem dX5_holdAudience_1 : decode cX5_holdAudience 1 = .ok (.getfield 73, 3) := by decide +kernel
theorem dX5_holdAudience_4 : decode cX5_holdAudience 4 = .ok (.aload_n 0, 1) := by decide +kernel
theorem dX5_holdAudience_5 : decode cX5_holdAudience 5 = .ok (.aload_n 1, 1) := by decide +kernel
theorem dX5_holdAudience_6 : decode cX5_holdAudience 6 = .ok (.invokevirtual 76, 3) := by decide +kernel
theorem dX5_holdAudience_9 : decode cX5_holdAudience 9 = .ok (.iaload, 1) := by decide +kernel
theorem dX5_holdAudience_10 : decode cX5_holdAudience 10 = .ok (.aload_n 1, 1) := by decide +kernel
theorem dX5_holdAudience_11 : decode cX5_holdAudience 11 = .ok (.getfield 80, 3) := by decide +kernel
theorem dX5_holdAudience_14 : decode cX5_holdAudience 14 = .ok (.if_icmp .lt 7, 3) := by decide +kernel
theorem dX5_holdAudience_17 : decode cX5_holdAudience 17 = .ok (.iconst 1, 1) := by decide +kernel
theorem dX5_holdAudience_18 : decode cX5_holdAudience 18 = .ok (.goto 4, 3) := by decide +kernel
theorem dX5_holdAudience_21 : decode cX5_holdAudience 21 = .ok (.iconst 0, 1) := by decide +kernel
theorem dX5_holdAudience_22 : decode cX5_holdAudience 22 = .ok (.istore_n 2, 1) := by decide +kernel
theorem dX5_holdAudience_23 : decode cX5_holdAudience 23 = .ok (.aload_n 0, 1) := by decide +kernel
theorem dX5_holdAudience_24 : decode cX5_holdAudience 24 = .ok (.dup, 1) := by decide +kernel
theorem dX5_holdAudience_25 : decode cX5_holdAudience 25 = .ok (.getfield 52, 3) := by decide +kernel
theorem dX5_holdAudience_28 : decode cX5_holdAudience 28 = .ok (.iconst 1, 1) := by decide +kernel
theorem dX5_holdAudience_29 : decode cX5_holdAudience 29 = .ok (.iadd, 1) := by decide +kernel
theorem dX5_holdAudience_30 : decode cX5_holdAudience 30 = .ok (.putfield 52, 3) := by decide +kernel
theorem dX5_holdAudience_33 : decode cX5_holdAudience 33 = .ok (.iload_n 2, 1) := by decide +kernel
theorem dX5_holdAudience_34 : decode cX5_holdAudience 34 = .ok (.ifCond .eq 13, 3) := by decide +kernel
theorem dX5_holdAudience_37 : decode cX5_holdAudience 37 = .ok (.aload_n 0, 1) := by decide +kernel
theorem dX5_holdAudience_38 : decode cX5_holdAudience 38 = .ok (.dup, 1) := by decide +kernel
theorem dX5_holdAudience_39 : decode cX5_holdAudience 39 = .ok (.getfield 55, 3) := by decide +kernel
theorem dX5_holdAudience_42 : decode cX5_holdAudience 42 = .ok (.iconst 1, 1) := by decide +kernel
theorem dX5_holdAudience_43 : decode cX5_holdAudience 43 = .ok (.iadd, 1) := by decide +kernel
theorem dX5_holdAudience_44 : decode cX5_holdAudience 44 = .ok (.putfield 55, 3) := by decide +kernel
theorem dX5_holdAudience_47 : decode cX5_holdAudience 47 = .ok (.iload_n 2, 1) := by decide +kernel
theorem dX5_holdAudience_48 : decode cX5_holdAudience 48 = .ok (.ireturn, 1) := by decide +kernel
theorem dX5_passYear_0 : decode cX5_passYear 0 = .ok (.iconst 0, 1) := by decide +kernel
theorem dX5_passYear_1 : decode cX5_passYear 1 = .ok (.istore_n 2, 1) := by decide +kernel
theorem dX5_passYear_2 : decode cX5_passYear 2 = .ok (.iload_n 2, 1) := by decide +kernel
theorem dX5_passYear_3 : decode cX5_passYear 3 = .ok (.aload_n 1, 1) := by decide +kernel
theorem dX5_passYear_4 : decode cX5_passYear 4 = .ok (.getfield 42, 3) := by decide +kernel
theorem dX5_passYear_7 : decode cX5_passYear 7 = .ok (.if_icmp .ge 99, 3) := by decide +kernel
theorem dX5_passYear_10 : decode cX5_passYear 10 = .ok (.aload_n 0, 1) := by decide +kernel
theorem dX5_passYear_11 : decode cX5_passYear 11 = .ok (.getfield 18, 3) := by decide +kernel
theorem dX5_passYear_14 : decode cX5_passYear 14 = .ok (.iload_n 2, 1) := by decide +kernel
theorem dX5_passYear_15 : decode cX5_passYear 15 = .ok (.aload_n 1, 1) := by decide +kernel
theorem dX5_passYear_16 : decode cX5_passYear 16 = .ok (.getfield 70, 3) := by decide +kernel
theorem dX5_passYear_19 : decode cX5_passYear 19 = .ok (.iload_n 2, 1) := by decide +kernel
theorem dX5_passYear_20 : decode cX5_passYear 20 = .ok (.iaload, 1) := by decide +kernel
theorem dX5_passYear_21 : decode cX5_passYear 21 = .ok (.aload_n 0, 1) := by decide +kernel
theorem dX5_passYear_22 : decode cX5_passYear 22 = .ok (.iload_n 2, 1) := by decide +kernel
theorem dX5_passYear_23 : decode cX5_passYear 23 = .ok (.invokevirtual 66, 3) := by decide +kernel
theorem dX5_passYear_26 : decode cX5_passYear 26 = .ok (.aload_n 0, 1) := by decide +kernel
theorem dX5_passYear_27 : decode cX5_passYear 27 = .ok (.getfield 18, 3) := by decide +kernel
theorem dX5_passYear_30 : decode cX5_passYear 30 = .ok (.iload_n 2, 1) := by decide +kernel
theorem dX5_passYear_31 : decode cX5_passYear 31 = .ok (.iaload, 1) := by decide +kernel
theorem dX5_passYear_32 : decode cX5_passYear 32 = .ok (.aload_n 0, 1) := by decide +kernel
theorem dX5_passYear_33 : decode cX5_passYear 33 = .ok (.getfield 49, 3) := by decide +kernel
theorem dX5_passYear_36 : decode cX5_passYear 36 = .ok (.invokestatic 83, 3) := by decide +kernel
theorem dX5_passYear_39 : decode cX5_passYear 39 = .ok (.iastore, 1) := by decide +kernel
theorem dX5_passYear_40 : decode cX5_passYear 40 = .ok (.aload_n 1, 1) := by decide +kernel
theorem dX5_passYear_41 : decode cX5_passYear 41 = .ok (.getfield 70, 3) := by decide +kernel
theorem dX5_passYear_44 : decode cX5_passYear 44 = .ok (.iload_n 2, 1) := by decide +kernel
theorem dX5_passYear_45 : decode cX5_passYear 45 = .ok (.iaload, 1) := by decide +kernel
theorem dX5_passYear_46 : decode cX5_passYear 46 = .ok (.iconst 2, 1) := by decide +kernel
theorem dX5_passYear_47 : decode cX5_passYear 47 = .ok (.if_icmp .ne 26, 3) := by decide +kernel
theorem dX5_passYear_50 : decode cX5_passYear 50 = .ok (.aload_n 0, 1) := by decide +kernel
theorem dX5_passYear_51 : decode cX5_passYear 51 = .ok (.iload_n 2, 1) := by decide +kernel
theorem dX5_passYear_52 : decode cX5_passYear 52 = .ok (.invokevirtual 66, 3) := by decide +kernel
theorem dX5_passYear_55 : decode cX5_passYear 55 = .ok (.ifCond .eq 18, 3) := by decide +kernel
theorem dX5_passYear_58 : decode cX5_passYear 58 = .ok (.aload_n 0, 1) := by decide +kernel
theorem dX5_passYear_59 : decode cX5_passYear 59 = .ok (.getfield 18, 3) := by decide +kernel
theorem dX5_passYear_62 : decode cX5_passYear 62 = .ok (.iload_n 2, 1) := by decide +kernel
theorem dX5_passYear_63 : decode cX5_passYear 63 = .ok (.iaload, 1) := by decide +kernel
theorem dX5_passYear_64 : decode cX5_passYear 64 = .ok (.bipush 20, 2) := by decide +kernel
theorem dX5_passYear_66 : decode cX5_passYear 66 = .ok (.if_icmp .lt 7, 3) := by decide +kernel
theorem dX5_passYear_69 : decode cX5_passYear 69 = .ok (.iconst 1, 1) := by decide +kernel
theorem dX5_passYear_70 : decode cX5_passYear 70 = .ok (.goto 4, 3) := by decide +kernel
theorem dX5_passYear_73 : decode cX5_passYear 73 = .ok (.iconst 0, 1) := by decide +kernel
theorem dX5_passYear_74 : decode cX5_passYear 74 = .ok (.istore_n 3, 1) := by decide +kernel
theorem dX5_passYear_75 : decode cX5_passYear 75 = .ok (.iload_n 3, 1) := by decide +kernel
theorem dX5_passYear_76 : decode cX5_passYear 76 = .ok (.ifCond .eq 24, 3) := by decide +kernel
theorem dX5_passYear_79 : decode cX5_passYear 79 = .ok (.aload_n 0, 1) := by decide +kernel
theorem dX5_passYear_80 : decode cX5_passYear 80 = .ok (.getfield 21, 3) := by decide +kernel
theorem dX5_passYear_83 : decode cX5_passYear 83 = .ok (.iload_n 2, 1) := by decide +kernel
theorem dX5_passYear_84 : decode cX5_passYear 84 = .ok (.iaload, 1) := by decide +kernel
theorem dX5_passYear_85 : decode cX5_passYear 85 = .ok (.ldc 87, 2) := by decide +kernel
theorem dX5_passYear_87 : decode cX5_passYear 87 = .ok (.if_icmp .ge 13, 3) := by decide +kernel
theorem dX5_passYear_90 : decode cX5_passYear 90 = .ok (.aload_n 0, 1) := by decide +kernel
theorem dX5_passYear_91 : decode cX5_passYear 91 = .ok (.getfield 21, 3) := by decide +kernel
theorem dX5_passYear_94 : decode cX5_passYear 94 = .ok (.iload_n 2, 1) := by decide +kernel
theorem dX5_passYear_95 : decode cX5_passYear 95 = .ok (.dup2, 1) := by decide +kernel
theorem dX5_passYear_96 : decode cX5_passYear 96 = .ok (.iaload, 1) := by decide +kernel
theorem dX5_passYear_97 : decode cX5_passYear 97 = .ok (.iconst 1, 1) := by decide +kernel
theorem dX5_passYear_98 : decode cX5_passYear 98 = .ok (.iadd, 1) := by decide +kernel
theorem dX5_passYear_99 : decode cX5_passYear 99 = .ok (.iastore, 1) := by decide +kernel
theorem dX5_passYear_100 : decode cX5_passYear 100 = .ok (.iinc 2 1, 3) := by decide +kernel
theorem dX5_passYear_103 : decode cX5_passYear 103 = .ok (.goto (-101), 3) := by decide +kernel
theorem dX5_passYear_106 : decode cX5_passYear 106 = .ok (.aload_n 0, 1) := by decide +kernel
theorem dX5_passYear_107 : decode cX5_passYear 107 = .ok (.dup, 1) := by decide +kernel
theorem dX5_passYear_108 : decode cX5_passYear 108 = .ok (.getfield 49, 3) := by decide +kernel
theorem dX5_passYear_111 : decode cX5_passYear 111 = .ok (.iconst 1, 1) := by decide +kernel
theorem dX5_passYear_112 : decode cX5_passYear 112 = .ok (.iadd, 1) := by decide +kernel
theorem dX5_passYear_113 : decode cX5_passYear 113 = .ok (.putfield 49, 3) := by decide +kernel
theorem dX5_passYear_116 : decode cX5_passYear 116 = .ok (.return_, 1) := by decide +kernel
theorem dX5_warmthBehind_0 : decode cX5_warmthBehind 0 = .ok (.aload_n 0, 1) := by decide +kernel
theorem dX5_warmthBehind_1 : decode cX5_warmthBehind 1 = .ok (.getfield 18, 3) := by decide +kernel
theorem dX5_warmthBehind_4 : decode cX5_warmthBehind 4 = .ok (.iload_n 2, 1) := by decide +kernel
theorem dX5_warmthBehind_5 : decode cX5_warmthBehind 5 = .ok (.iaload, 1) := by decide +kernel
theorem dX5_warmthBehind_6 : decode cX5_warmthBehind 6 = .ok (.istore 4, 2) := by decide +kernel
theorem dX5_warmthBehind_8 : decode cX5_warmthBehind 8 = .ok (.iconst 0, 1) := by decide +kernel
theorem dX5_warmthBehind_9 : decode cX5_warmthBehind 9 = .ok (.istore 5, 2) := by decide +kernel
theorem dX5_warmthBehind_11 : decode cX5_warmthBehind 11 = .ok (.iload 5, 2) := by decide +kernel
theorem dX5_warmthBehind_13 : decode cX5_warmthBehind 13 = .ok (.iload_n 3, 1) := by decide +kernel
theorem dX5_warmthBehind_14 : decode cX5_warmthBehind 14 = .ok (.if_icmp .ge 34, 3) := by decide +kernel
theorem dX5_warmthBehind_17 : decode cX5_warmthBehind 17 = .ok (.aload_n 1, 1) := by decide +kernel
theorem dX5_warmthBehind_18 : decode cX5_warmthBehind 18 = .ok (.getfield 70, 3) := by decide +kernel
theorem dX5_warmthBehind_21 : decode cX5_warmthBehind 21 = .ok (.iload_n 2, 1) := by decide +kernel
theorem dX5_warmthBehind_22 : decode cX5_warmthBehind 22 = .ok (.iaload, 1) := by decide +kernel
theorem dX5_warmthBehind_23 : decode cX5_warmthBehind 23 = .ok (.aload_n 0, 1) := by decide +kernel
theorem dX5_warmthBehind_24 : decode cX5_warmthBehind 24 = .ok (.iload_n 2, 1) := by decide +kernel
theorem dX5_warmthBehind_25 : decode cX5_warmthBehind 25 = .ok (.invokevirtual 66, 3) := by decide +kernel
theorem dX5_warmthBehind_28 : decode cX5_warmthBehind 28 = .ok (.iload 4, 2) := by decide +kernel
theorem dX5_warmthBehind_30 : decode cX5_warmthBehind 30 = .ok (.aload_n 0, 1) := by decide +kernel
theorem dX5_warmthBehind_31 : decode cX5_warmthBehind 31 = .ok (.getfield 49, 3) := by decide +kernel
theorem dX5_warmthBehind_34 : decode cX5_warmthBehind 34 = .ok (.iload 5, 2) := by decide +kernel
theorem dX5_warmthBehind_36 : decode cX5_warmthBehind 36 = .ok (.iadd, 1) := by decide +kernel
theorem dX5_warmthBehind_37 : decode cX5_warmthBehind 37 = .ok (.invokestatic 83, 3) := by decide +kernel
theorem dX5_warmthBehind_40 : decode cX5_warmthBehind 40 = .ok (.istore 4, 2) := by decide +kernel
theorem dX5_warmthBehind_42 : decode cX5_warmthBehind 42 = .ok (.iinc 5 1, 3) := by decide +kernel
theorem dX5_warmthBehind_45 : decode cX5_warmthBehind 45 = .ok (.goto (-34), 3) := by decide +kernel
theorem dX5_warmthBehind_48 : decode cX5_warmthBehind 48 = .ok (.iload 4, 2) := by decide +kernel
theorem dX5_warmthBehind_50 : decode cX5_warmthBehind 50 = .ok (.ireturn, 1) := by decide +kernel
theorem dX5_yearsUntilWarm_0 : decode cX5_yearsUntilWarm 0 = .ok (.aload_n 0, 1) := by decide +kernel
theorem dX5_yearsUntilWarm_1 : decode cX5_yearsUntilWarm 1 = .ok (.getfield 18, 3) := by decide +kernel
theorem dX5_yearsUntilWarm_4 : decode cX5_yearsUntilWarm 4 = .ok (.iload_n 2, 1) := by decide +kernel
theorem dX5_yearsUntilWarm_5 : decode cX5_yearsUntilWarm 5 = .ok (.iaload, 1) := by decide +kernel
theorem dX5_yearsUntilWarm_6 : decode cX5_yearsUntilWarm 6 = .ok (.istore 4, 2) := by decide +kernel
theorem dX5_yearsUntilWarm_8 : decode cX5_yearsUntilWarm 8 = .ok (.iconst 0, 1) := by decide +kernel
theorem dX5_yearsUntilWarm_9 : decode cX5_yearsUntilWarm 9 = .ok (.istore 5, 2) := by decide +kernel
theorem dX5_yearsUntilWarm_11 : decode cX5_yearsUntilWarm 11 = .ok (.iload 5, 2) := by decide +kernel
theorem dX5_yearsUntilWarm_13 : decode cX5_yearsUntilWarm 13 = .ok (.sipush 200, 3) := by decide +kernel
theorem dX5_yearsUntilWarm_16 : decode cX5_yearsUntilWarm 16 = .ok (.if_icmp .gt 43, 3) := by decide +kernel
theorem dX5_yearsUntilWarm_19 : decode cX5_yearsUntilWarm 19 = .ok (.iload 4, 2) := by decide +kernel
theorem dX5_yearsUntilWarm_21 : decode cX5_yearsUntilWarm 21 = .ok (.iload_n 3, 1) := by decide +kernel
theorem dX5_yearsUntilWarm_22 : decode cX5_yearsUntilWarm 22 = .ok (.if_icmp .lt 6, 3) := by decide +kernel
theorem dX5_yearsUntilWarm_25 : decode cX5_yearsUntilWarm 25 = .ok (.iload 5, 2) := by decide +kernel
theorem dX5_yearsUntilWarm_27 : decode cX5_yearsUntilWarm 27 = .ok (.ireturn, 1) := by decide +kernel
theorem dX5_yearsUntilWarm_28 : decode cX5_yearsUntilWarm 28 = .ok (.aload_n 1, 1) := by decide +kernel
theorem dX5_yearsUntilWarm_29 : decode cX5_yearsUntilWarm 29 = .ok (.getfield 70, 3) := by decide +kernel
theorem dX5_yearsUntilWarm_32 : decode cX5_yearsUntilWarm 32 = .ok (.iload_n 2, 1) := by decide +kernel
theorem dX5_yearsUntilWarm_33 : decode cX5_yearsUntilWarm 33 = .ok (.iaload, 1) := by decide +kernel
theorem dX5_yearsUntilWarm_34 : decode cX5_yearsUntilWarm 34 = .ok (.aload_n 0, 1) := by decide +kernel
theorem dX5_yearsUntilWarm_35 : decode cX5_yearsUntilWarm 35 = .ok (.iload_n 2, 1) := by decide +kernel
theorem dX5_yearsUntilWarm_36 : decode cX5_yearsUntilWarm 36 = .ok (.invokevirtual 66, 3) := by decide +kernel
theorem dX5_yearsUntilWarm_39 : decode cX5_yearsUntilWarm 39 = .ok (.iload 4, 2) := by decide +kernel
theorem dX5_yearsUntilWarm_41 : decode cX5_yearsUntilWarm 41 = .ok (.aload_n 0, 1) := by decide +kernel
theorem dX5_yearsUntilWarm_42 : decode cX5_yearsUntilWarm 42 = .ok (.getfield 49, 3) := by decide +kernel
theorem dX5_yearsUntilWarm_45 : decode cX5_yearsUntilWarm 45 = .ok (.iload 5, 2) := by decide +kernel
theorem dX5_yearsUntilWarm_47 : decode cX5_yearsUntilWarm 47 = .ok (.iadd, 1) := by decide +kernel
theorem dX5_yearsUntilWarm_48 : decode cX5_yearsUntilWarm 48 = .ok (.invokestatic 83, 3) := by decide +kernel
theorem dX5_yearsUntilWarm_51 : decode cX5_yearsUntilWarm 51 = .ok (.istore 4, 2) := by decide +kernel
theorem dX5_yearsUntilWarm_53 : decode cX5_yearsUntilWarm 53 = .ok (.iinc 5 1, 3) := by decide +kernel
theorem dX5_yearsUntilWarm_56 : decode cX5_yearsUntilWarm 56 = .ok (.goto (-45), 3) := by decide +kernel
theorem dX5_yearsUntilWarm_59 : decode cX5_yearsUntilWarm 59 = .ok (.iconst (-1), 1) := by decide +kernel
theorem dX5_yearsUntilWarm_60 : decode cX5_yearsUntilWarm 60 = .ok (.ireturn, 1) := by decide +kernel
theorem dX5_warmthNext_0 : decode cX5_warmthNext 0 = .ok (.iload_n 1, 1) := by decide +kernel
theorem dX5_warmthNext_1 : decode cX5_warmthNext 1 = .ok (.ifCond .ne 11, 3) := by decide +kernel
theorem dX5_warmthNext_4 : decode cX5_warmthNext 4 = .ok (.iload_n 2, 1) := by decide +kernel
theorem dX5_warmthNext_5 : decode cX5_warmthNext 5 = .ok (.iconst 1, 1) := by decide +kernel
theorem dX5_warmthNext_6 : decode cX5_warmthNext 6 = .ok (.isub, 1) := by decide +kernel
theorem dX5_warmthNext_7 : decode cX5_warmthNext 7 = .ok (.iconst 0, 1) := by decide +kernel
theorem dX5_warmthNext_8 : decode cX5_warmthNext 8 = .ok (.invokestatic 88, 3) := by decide +kernel
theorem dX5_warmthNext_11 : decode cX5_warmthNext 11 = .ok (.ireturn, 1) := by decide +kernel
theorem dX5_warmthNext_12 : decode cX5_warmthNext 12 = .ok (.iconst 0, 1) := by decide +kernel
theorem dX5_warmthNext_13 : decode cX5_warmthNext 13 = .ok (.istore 4, 2) := by decide +kernel
theorem dX5_warmthNext_15 : decode cX5_warmthNext 15 = .ok (.iload_n 0, 1) := by decide +kernel
theorem dX5_warmthNext_16 : decode cX5_warmthNext 16 = .ok (.tableswitch 60 0 3 #[32, 60, 38, 44], 32) := by decide +kernel
theorem dX5_warmthNext_48 : decode cX5_warmthNext 48 = .ok (.iconst 1, 1) := by decide +kernel
theorem dX5_warmthNext_49 : decode cX5_warmthNext 49 = .ok (.istore 4, 2) := by decide +kernel
theorem dX5_warmthNext_51 : decode cX5_warmthNext 51 = .ok (.goto 25, 3) := by decide +kernel
theorem dX5_warmthNext_54 : decode cX5_warmthNext 54 = .ok (.iconst 3, 1) := by decide +kernel
theorem dX5_warmthNext_55 : decode cX5_warmthNext 55 = .ok (.istore 4, 2) := by decide +kernel
theorem dX5_warmthNext_57 : decode cX5_warmthNext 57 = .ok (.goto 19, 3) := by decide +kernel
theorem dX5_warmthNext_60 : decode cX5_warmthNext 60 = .ok (.iload_n 3, 1) := by decide +kernel
theorem dX5_warmthNext_61 : decode cX5_warmthNext 61 = .ok (.iconst 2, 1) := by decide +kernel
theorem dX5_warmthNext_62 : decode cX5_warmthNext 62 = .ok (.irem, 1) := by decide +kernel
theorem dX5_warmthNext_63 : decode cX5_warmthNext 63 = .ok (.ifCond .ne 7, 3) := by decide +kernel
theorem dX5_warmthNext_66 : decode cX5_warmthNext 66 = .ok (.iconst 2, 1) := by decide +kernel
theorem dX5_warmthNext_67 : decode cX5_warmthNext 67 = .ok (.goto 4, 3) := by decide +kernel
theorem dX5_warmthNext_70 : decode cX5_warmthNext 70 = .ok (.iconst 0, 1) := by decide +kernel
theorem dX5_warmthNext_71 : decode cX5_warmthNext 71 = .ok (.istore 4, 2) := by decide +kernel
theorem dX5_warmthNext_73 : decode cX5_warmthNext 73 = .ok (.goto 3, 3) := by decide +kernel
theorem dX5_warmthNext_76 : decode cX5_warmthNext 76 = .ok (.iload_n 2, 1) := by decide +kernel
theorem dX5_warmthNext_77 : decode cX5_warmthNext 77 = .ok (.iload 4, 2) := by decide +kernel
theorem dX5_warmthNext_79 : decode cX5_warmthNext 79 = .ok (.iadd, 1) := by decide +kernel
theorem dX5_warmthNext_80 : decode cX5_warmthNext 80 = .ok (.bipush 99, 2) := by decide +kernel
theorem dX5_warmthNext_82 : decode cX5_warmthNext 82 = .ok (.invokestatic 94, 3) := by decide +kernel
theorem dX5_warmthNext_85 : decode cX5_warmthNext 85 = .ok (.ireturn, 1) := by decide +kernel
theorem dX6_within_0 : decode cX6_within 0 = .ok (.iconst 0, 1) := by decide +kernel
theorem dX6_within_1 : decode cX6_within 1 = .ok (.istore_n 3, 1) := by decide +kernel
theorem dX6_within_2 : decode cX6_within 2 = .ok (.iconst 0, 1) := by decide +kernel
theorem dX6_within_3 : decode cX6_within 3 = .ok (.istore 4, 2) := by decide +kernel
theorem dX6_within_5 : decode cX6_within 5 = .ok (.iload 4, 2) := by decide +kernel
theorem dX6_within_7 : decode cX6_within 7 = .ok (.aload_n 0, 1) := by decide +kernel
theorem dX6_within_8 : decode cX6_within 8 = .ok (.getfield 9, 3) := by decide +kernel
theorem dX6_within_11 : decode cX6_within 11 = .ok (.if_icmp .ge 35, 3) := by decide +kernel
theorem dX6_within_14 : decode cX6_within 14 = .ok (.aload_n 1, 1) := by decide +kernel
theorem dX6_within_15 : decode cX6_within 15 = .ok (.getfield 15, 3) := by decide +kernel
theorem dX6_within_18 : decode cX6_within 18 = .ok (.iload 4, 2) := by decide +kernel
theorem dX6_within_20 : decode cX6_within 20 = .ok (.iaload, 1) := by decide +kernel
theorem dX6_within_21 : decode cX6_within 21 = .ok (.aload_n 0, 1) := by decide +kernel
theorem dX6_within_22 : decode cX6_within 22 = .ok (.getfield 21, 3) := by decide +kernel
theorem dX6_within_25 : decode cX6_within 25 = .ok (.ixor, 1) := by decide +kernel
theorem dX6_within_26 : decode cX6_within 26 = .ok (.invokestatic 24, 3) := by decide +kernel
theorem dX6_within_29 : decode cX6_within 29 = .ok (.iload_n 2, 1) := by decide +kernel
theorem dX6_within_30 : decode cX6_within 30 = .ok (.if_icmp .gt 10, 3) := by decide +kernel
theorem dX6_within_33 : decode cX6_within 33 = .ok (.iload_n 3, 1) := by decide +kernel
theorem dX6_within_34 : decode cX6_within 34 = .ok (.iconst 1, 1) := by decide +kernel
theorem dX6_within_35 : decode cX6_within 35 = .ok (.iload 4, 2) := by decide +kernel
theorem dX6_within_37 : decode cX6_within 37 = .ok (.ishl, 1) := by decide +kernel
theorem dX6_within_38 : decode cX6_within 38 = .ok (.ior, 1) := by decide +kernel
theorem dX6_within_39 : decode cX6_within 39 = .ok (.istore_n 3, 1) := by decide +kernel
theorem dX6_within_40 : decode cX6_within 40 = .ok (.iinc 4 1, 3) := by decide +kernel
theorem dX6_within_43 : decode cX6_within 43 = .ok (.goto (-38), 3) := by decide +kernel
theorem dX6_within_46 : decode cX6_within 46 = .ok (.iload_n 3, 1) := by decide +kernel
theorem dX6_within_47 : decode cX6_within 47 = .ok (.ireturn, 1) := by decide +kernel
theorem dX6_fitting_0 : decode cX6_fitting 0 = .ok (.iconst 0, 1) := by decide +kernel
theorem dX6_fitting_1 : decode cX6_fitting 1 = .ok (.istore_n 3, 1) := by decide +kernel
theorem dX6_fitting_2 : decode cX6_fitting 2 = .ok (.iconst 0, 1) := by decide +kernel
theorem dX6_fitting_3 : decode cX6_fitting 3 = .ok (.istore 4, 2) := by decide +kernel
theorem dX6_fitting_5 : decode cX6_fitting 5 = .ok (.iload 4, 2) := by decide +kernel
theorem dX6_fitting_7 : decode cX6_fitting 7 = .ok (.aload_n 0, 1) := by decide +kernel
theorem dX6_fitting_8 : decode cX6_fitting 8 = .ok (.getfield 9, 3) := by decide +kernel
theorem dX6_fitting_11 : decode cX6_fitting 11 = .ok (.if_icmp .ge 33, 3) := by decide +kernel
theorem dX6_fitting_14 : decode cX6_fitting 14 = .ok (.aload_n 1, 1) := by decide +kernel
theorem dX6_fitting_15 : decode cX6_fitting 15 = .ok (.getfield 15, 3) := by decide +kernel
theorem dX6_fitting_18 : decode cX6_fitting 18 = .ok (.iload 4, 2) := by decide +kernel
theorem dX6_fitting_20 : decode cX6_fitting 20 = .ok (.iaload, 1) := by decide +kernel
theorem dX6_fitting_21 : decode cX6_fitting 21 = .ok (.aload_n 0, 1) := by decide +kernel
theorem dX6_fitting_22 : decode cX6_fitting 22 = .ok (.getfield 21, 3) := by decide +kernel
theorem dX6_fitting_25 : decode cX6_fitting 25 = .ok (.ixor, 1) := by decide +kernel
theorem dX6_fitting_26 : decode cX6_fitting 26 = .ok (.iload_n 2, 1) := by decide +kernel
theorem dX6_fitting_27 : decode cX6_fitting 27 = .ok (.iand, 1) := by decide +kernel
theorem dX6_fitting_28 : decode cX6_fitting 28 = .ok (.ifCond .ne 10, 3) := by decide +kernel
theorem dX6_fitting_31 : decode cX6_fitting 31 = .ok (.iload_n 3, 1) := by decide +kernel
theorem dX6_fitting_32 : decode cX6_fitting 32 = .ok (.iconst 1, 1) := by decide +kernel
theorem dX6_fitting_33 : decode cX6_fitting 33 = .ok (.iload 4, 2) := by decide +kernel
theorem dX6_fitting_35 : decode cX6_fitting 35 = .ok (.ishl, 1) := by decide +kernel
theorem dX6_fitting_36 : decode cX6_fitting 36 = .ok (.ior, 1) := by decide +kernel
theorem dX6_fitting_37 : decode cX6_fitting 37 = .ok (.istore_n 3, 1) := by decide +kernel
theorem dX6_fitting_38 : decode cX6_fitting 38 = .ok (.iinc 4 1, 3) := by decide +kernel
theorem dX6_fitting_41 : decode cX6_fitting 41 = .ok (.goto (-36), 3) := by decide +kernel
theorem dX6_fitting_44 : decode cX6_fitting 44 = .ok (.iload_n 3, 1) := by decide +kernel
theorem dX6_fitting_45 : decode cX6_fitting 45 = .ok (.ireturn, 1) := by decide +kernel
theorem dX6_parting_0 : decode cX6_parting 0 = .ok (.iload_n 2, 1) := by decide +kernel
theorem dX6_parting_1 : decode cX6_parting 1 = .ok (.invokestatic 24, 3) := by decide +kernel
theorem dX6_parting_4 : decode cX6_parting 4 = .ok (.istore_n 3, 1) := by decide +kernel
theorem dX6_parting_5 : decode cX6_parting 5 = .ok (.iconst (-1), 1) := by decide +kernel
theorem dX6_parting_6 : decode cX6_parting 6 = .ok (.istore 4, 2) := by decide +kernel
theorem dX6_parting_8 : decode cX6_parting 8 = .ok (.iload_n 3, 1) := by decide +kernel
theorem dX6_parting_9 : decode cX6_parting 9 = .ok (.istore 5, 2) := by decide +kernel
theorem dX6_parting_11 : decode cX6_parting 11 = .ok (.iconst 0, 1) := by decide +kernel
theorem dX6_parting_12 : decode cX6_parting 12 = .ok (.istore 6, 2) := by decide +kernel
theorem dX6_parting_14 : decode cX6_parting 14 = .ok (.iload 6, 2) := by decide +kernel
theorem dX6_parting_16 : decode cX6_parting 16 = .ok (.bipush 6, 2) := by decide +kernel
theorem dX6_parting_18 : decode cX6_parting 18 = .ok (.if_icmp .ge 78, 3) := by decide +kernel
theorem dX6_parting_21 : decode cX6_parting 21 = .ok (.iconst 0, 1) := by decide +kernel
theorem dX6_parting_22 : decode cX6_parting 22 = .ok (.istore 7, 2) := by decide +kernel
theorem dX6_parting_24 : decode cX6_parting 24 = .ok (.iconst 0, 1) := by decide +kernel
theorem dX6_parting_25 : decode cX6_parting 25 = .ok (.istore 8, 2) := by decide +kernel
theorem dX6_parting_27 : decode cX6_parting 27 = .ok (.iload 8, 2) := by decide +kernel
theorem dX6_parting_29 : decode cX6_parting 29 = .ok (.aload_n 0, 1) := by decide +kernel
theorem dX6_parting_30 : decode cX6_parting 30 = .ok (.getfield 9, 3) := by decide +kernel
theorem dX6_parting_33 : decode cX6_parting 33 = .ok (.if_icmp .ge 31, 3) := by decide +kernel
theorem dX6_parting_36 : decode cX6_parting 36 = .ok (.iload 7, 2) := by decide +kernel
theorem dX6_parting_38 : decode cX6_parting 38 = .ok (.iload_n 2, 1) := by decide +kernel
theorem dX6_parting_39 : decode cX6_parting 39 = .ok (.iload 8, 2) := by decide +kernel
theorem dX6_parting_41 : decode cX6_parting 41 = .ok (.ishr, 1) := by decide +kernel
theorem dX6_parting_42 : decode cX6_parting 42 = .ok (.aload_n 1, 1) := by decide +kernel
theorem dX6_parting_43 : decode cX6_parting 43 = .ok (.getfield 15, 3) := by decide +kernel
theorem dX6_parting_46 : decode cX6_parting 46 = .ok (.iload 8, 2) := by decide +kernel
theorem dX6_parting_48 : decode cX6_parting 48 = .ok (.iaload, 1) := by decide +kernel
theorem dX6_parting_49 : decode cX6_parting 49 = .ok (.iload 6, 2) := by decide +kernel
theorem dX6_parting_51 : decode cX6_parting 51 = .ok (.ishr, 1) := by decide +kernel
theorem dX6_parting_52 : decode cX6_parting 52 = .ok (.iand, 1) := by decide +kernel
theorem dX6_parting_53 : decode cX6_parting 53 = .ok (.iconst 1, 1) := by decide +kernel
theorem dX6_parting_54 : decode cX6_parting 54 = .ok (.iand, 1) := by decide +kernel
theorem dX6_parting_55 : decode cX6_parting 55 = .ok (.iadd, 1) := by decide +kernel
theorem dX6_parting_56 : decode cX6_parting 56 = .ok (.istore 7, 2) := by decide +kernel
theorem dX6_parting_58 : decode cX6_parting 58 = .ok (.iinc 8 1, 3) := by decide +kernel
theorem dX6_parting_61 : decode cX6_parting 61 = .ok (.goto (-34), 3) := by decide +kernel
theorem dX6_parting_64 : decode cX6_parting 64 = .ok (.iload 7, 2) := by decide +kernel
theorem dX6_parting_66 : decode cX6_parting 66 = .ok (.iload_n 3, 1) := by decide +kernel
theorem dX6_parting_67 : decode cX6_parting 67 = .ok (.iload 7, 2) := by decide +kernel
theorem dX6_parting_69 : decode cX6_parting 69 = .ok (.isub, 1) := by decide +kernel
theorem dX6_parting_70 : decode cX6_parting 70 = .ok (.invokestatic 30, 3) := by decide +kernel
theorem dX6_parting_73 : decode cX6_parting 73 = .ok (.istore 8, 2) := by decide +kernel
theorem dX6_parting_75 : decode cX6_parting 75 = .ok (.iload 8, 2) := by decide +kernel
theorem dX6_parting_77 : decode cX6_parting 77 = .ok (.iload 5, 2) := by decide +kernel
theorem dX6_parting_79 : decode cX6_parting 79 = .ok (.if_icmp .ge 11, 3) := by decide +kernel
theorem dX6_parting_82 : decode cX6_parting 82 = .ok (.iload 6, 2) := by decide +kernel
theorem dX6_parting_84 : decode cX6_parting 84 = .ok (.istore 4, 2) := by decide +kernel
theorem dX6_parting_86 : decode cX6_parting 86 = .ok (.iload 8, 2) := by decide +kernel
theorem dX6_parting_88 : decode cX6_parting 88 = .ok (.istore 5, 2) := by decide +kernel
theorem dX6_parting_90 : decode cX6_parting 90 = .ok (.iinc 6 1, 3) := by decide +kernel
theorem dX6_parting_93 : decode cX6_parting 93 = .ok (.goto (-79), 3) := by decide +kernel
theorem dX6_parting_96 : decode cX6_parting 96 = .ok (.iload 4, 2) := by decide +kernel
theorem dX6_parting_98 : decode cX6_parting 98 = .ok (.ireturn, 1) := by decide +kernel
theorem dX6_telling_0 : decode cX6_telling 0 = .ok (.bipush 63, 2) := by decide +kernel
theorem dX6_telling_2 : decode cX6_telling 2 = .ok (.istore_n 2, 1) := by decide +kernel
theorem dX6_telling_3 : decode cX6_telling 3 = .ok (.iconst 0, 1) := by decide +kernel
theorem dX6_telling_4 : decode cX6_telling 4 = .ok (.istore_n 3, 1) := by decide +kernel
theorem dX6_telling_5 : decode cX6_telling 5 = .ok (.iload_n 3, 1) := by decide +kernel
theorem dX6_telling_6 : decode cX6_telling 6 = .ok (.bipush 63, 2) := by decide +kernel
theorem dX6_telling_8 : decode cX6_telling 8 = .ok (.if_icmp .ge 31, 3) := by decide +kernel
theorem dX6_telling_11 : decode cX6_telling 11 = .ok (.iload_n 3, 1) := by decide +kernel
theorem dX6_telling_12 : decode cX6_telling 12 = .ok (.invokestatic 24, 3) := by decide +kernel
theorem dX6_telling_15 : decode cX6_telling 15 = .ok (.iload_n 2, 1) := by decide +kernel
theorem dX6_telling_16 : decode cX6_telling 16 = .ok (.invokestatic 24, 3) := by decide +kernel
theorem dX6_telling_19 : decode cX6_telling 19 = .ok (.if_icmp .ge 14, 3) := by decide +kernel
theorem dX6_telling_22 : decode cX6_telling 22 = .ok (.aload_n 0, 1) := by decide +kernel
theorem dX6_telling_23 : decode cX6_telling 23 = .ok (.aload_n 1, 1) := by decide +kernel
theorem dX6_telling_24 : decode cX6_telling 24 = .ok (.iload_n 3, 1) := by decide +kernel
theorem dX6_telling_25 : decode cX6_telling 25 = .ok (.invokestatic 36, 3) := by decide +kernel
theorem dX6_telling_28 : decode cX6_telling 28 = .ok (.ifCond .eq 5, 3) := by decide +kernel
theorem dX6_telling_31 : decode cX6_telling 31 = .ok (.iload_n 3, 1) := by decide +kernel
theorem dX6_telling_32 : decode cX6_telling 32 = .ok (.istore_n 2, 1) := by decide +kernel
theorem dX6_telling_33 : decode cX6_telling 33 = .ok (.iinc 3 1, 3) := by decide +kernel
theorem dX6_telling_36 : decode cX6_telling 36 = .ok (.goto (-31), 3) := by decide +kernel
theorem dX6_telling_39 : decode cX6_telling 39 = .ok (.iload_n 2, 1) := by decide +kernel
theorem dX6_telling_40 : decode cX6_telling 40 = .ok (.ireturn, 1) := by decide +kernel
theorem dX6_tells_0 : decode cX6_tells 0 = .ok (.iconst 0, 1) := by decide +kernel
theorem dX6_tells_1 : decode cX6_tells 1 = .ok (.istore_n 3, 1) := by decide +kernel
theorem dX6_tells_2 : decode cX6_tells 2 = .ok (.iload_n 3, 1) := by decide +kernel
theorem dX6_tells_3 : decode cX6_tells 3 = .ok (.aload_n 0, 1) := by decide +kernel
theorem dX6_tells_4 : decode cX6_tells 4 = .ok (.getfield 9, 3) := by decide +kernel
theorem dX6_tells_7 : decode cX6_tells 7 = .ok (.if_icmp .ge 59, 3) := by decide +kernel
theorem dX6_tells_10 : decode cX6_tells 10 = .ok (.iload_n 3, 1) := by decide +kernel
theorem dX6_tells_11 : decode cX6_tells 11 = .ok (.iconst 1, 1) := by decide +kernel
theorem dX6_tells_12 : decode cX6_tells 12 = .ok (.iadd, 1) := by decide +kernel
theorem dX6_tells_13 : decode cX6_tells 13 = .ok (.istore 4, 2) := by decide +kernel
theorem dX6_tells_15 : decode cX6_tells 15 = .ok (.iload 4, 2) := by decide +kernel
theorem dX6_tells_17 : decode cX6_tells 17 = .ok (.aload_n 0, 1) := by decide +kernel
theorem dX6_tells_18 : decode cX6_tells 18 = .ok (.getfield 9, 3) := by decide +kernel
theorem dX6_tells_21 : decode cX6_tells 21 = .ok (.if_icmp .ge 39, 3) := by decide +kernel
theorem dX6_tells_24 : decode cX6_tells 24 = .ok (.aload_n 1, 1) := by decide +kernel
theorem dX6_tells_25 : decode cX6_tells 25 = .ok (.getfield 15, 3) := by decide +kernel
theorem dX6_tells_28 : decode cX6_tells 28 = .ok (.iload_n 3, 1) := by decide +kernel
theorem dX6_tells_29 : decode cX6_tells 29 = .ok (.iaload, 1) := by decide +kernel
theorem dX6_tells_30 : decode cX6_tells 30 = .ok (.aload_n 1, 1) := by decide +kernel
theorem dX6_tells_31 : decode cX6_tells 31 = .ok (.getfield 15, 3) := by decide +kernel
theorem dX6_tells_34 : decode cX6_tells 34 = .ok (.iload 4, 2) := by decide +kernel
theorem dX6_tells_36 : decode cX6_tells 36 = .ok (.iaload, 1) := by decide +kernel
theorem dX6_tells_37 : decode cX6_tells 37 = .ok (.ixor, 1) := by decide +kernel
theorem dX6_tells_38 : decode cX6_tells 38 = .ok (.istore 5, 2) := by decide +kernel
theorem dX6_tells_40 : decode cX6_tells 40 = .ok (.iload 5, 2) := by decide +kernel
theorem dX6_tells_42 : decode cX6_tells 42 = .ok (.ifCond .eq 12, 3) := by decide +kernel
theorem dX6_tells_45 : decode cX6_tells 45 = .ok (.iload 5, 2) := by decide +kernel
theorem dX6_tells_47 : decode cX6_tells 47 = .ok (.iload_n 2, 1) := by decide +kernel
theorem dX6_tells_48 : decode cX6_tells 48 = .ok (.iand, 1) := by decide +kernel
theorem dX6_tells_49 : decode cX6_tells 49 = .ok (.ifCond .ne 5, 3) := by decide +kernel
theorem dX6_tells_52 : decode cX6_tells 52 = .ok (.iconst 0, 1) := by decide +kernel
theorem dX6_tells_53 : decode cX6_tells 53 = .ok (.ireturn, 1) := by decide +kernel
theorem dX6_tells_54 : decode cX6_tells 54 = .ok (.iinc 4 1, 3) := by decide +kernel
theorem dX6_tells_57 : decode cX6_tells 57 = .ok (.goto (-42), 3) := by decide +kernel
theorem dX6_tells_60 : decode cX6_tells 60 = .ok (.iinc 3 1, 3) := by decide +kernel
theorem dX6_tells_63 : decode cX6_tells 63 = .ok (.goto (-61), 3) := by decide +kernel
theorem dX6_tells_66 : decode cX6_tells 66 = .ok (.iconst 1, 1) := by decide +kernel
theorem dX6_tells_67 : decode cX6_tells 67 = .ok (.ireturn, 1) := by decide +kernel
theorem dX7_init_0 : decode cX7_init 0 = .ok (.aload_n 0, 1) := by decide +kernel
theorem dX7_init_1 : decode cX7_init 1 = .ok (.invokespecial 3, 3) := by decide +kernel
theorem dX7_init_4 : decode cX7_init 4 = .ok (.aload_n 0, 1) := by decide +kernel
theorem dX7_init_5 : decode cX7_init 5 = .ok (.sipush 240, 3) := by decide +kernel
theorem dX7_init_8 : decode cX7_init 8 = .ok (.newarray .int, 2) := by decide +kernel
theorem dX7_init_10 : decode cX7_init 10 = .ok (.putfield 9, 3) := by decide +kernel
theorem dX7_init_13 : decode cX7_init 13 = .ok (.aload_n 0, 1) := by decide +kernel
theorem dX7_init_14 : decode cX7_init 14 = .ok (.iconst (-1), 1) := by decide +kernel
theorem dX7_init_15 : decode cX7_init 15 = .ok (.putfield 15, 3) := by decide +kernel
theorem dX7_init_18 : decode cX7_init 18 = .ok (.return_, 1) := by decide +kernel
theorem dX7_readInto_0 : decode cX7_readInto 0 = .ok (.aload_n 0, 1) := by decide +kernel
theorem dX7_readInto_1 : decode cX7_readInto 1 = .ok (.iconst 0, 1) := by decide +kernel
theorem dX7_readInto_2 : decode cX7_readInto 2 = .ok (.putfield 19, 3) := by decide +kernel
theorem dX7_readInto_5 : decode cX7_readInto 5 = .ok (.aload_n 0, 1) := by decide +kernel
theorem dX7_readInto_6 : decode cX7_readInto 6 = .ok (.iconst 0, 1) := by decide +kernel
theorem dX7_readInto_7 : decode cX7_readInto 7 = .ok (.putfield 22, 3) := by decide +kernel
theorem dX7_readInto_10 : decode cX7_readInto 10 = .ok (.aload_n 0, 1) := by decide +kernel
theorem dX7_readInto_11 : decode cX7_readInto 11 = .ok (.iconst (-1), 1) := by decide +kernel
theorem dX7_readInto_12 : decode cX7_readInto 12 = .ok (.putfield 15, 3) := by decide +kernel
theorem dX7_readInto_15 : decode cX7_readInto 15 = .ok (.aload_n 1, 1) := by decide +kernel
theorem dX7_readInto_16 : decode cX7_readInto 16 = .ok (.invokevirtual 25, 3) := by decide +kernel
theorem dX7_readInto_19 : decode cX7_readInto 19 = .ok (.aload_n 0, 1) := by decide +kernel
theorem dX7_readInto_20 : decode cX7_readInto 20 = .ok (.invokevirtual 30, 3) := by decide +kernel
theorem dX7_readInto_23 : decode cX7_readInto 23 = .ok (.iconst 0, 1) := by decide +kernel
theorem dX7_readInto_24 : decode cX7_readInto 24 = .ok (.istore_n 2, 1) := by decide +kernel
theorem dX7_readInto_25 : decode cX7_readInto 25 = .ok (.iload_n 2, 1) := by decide +kernel
theorem dX7_readInto_26 : decode cX7_readInto 26 = .ok (.sipush 240, 3) := by decide +kernel
theorem dX7_readInto_29 : decode cX7_readInto 29 = .ok (.if_icmp .ge 36, 3) := by decide +kernel
theorem dX7_readInto_32 : decode cX7_readInto 32 = .ok (.aload_n 0, 1) := by decide +kernel
theorem dX7_readInto_33 : decode cX7_readInto 33 = .ok (.getfield 22, 3) := by decide +kernel
theorem dX7_readInto_36 : decode cX7_readInto 36 = .ok (.ifCond .ne 29, 3) := by decide +kernel
theorem dX7_readInto_39 : decode cX7_readInto 39 = .ok (.aload_n 0, 1) := by decide +kernel
theorem dX7_readInto_40 : decode cX7_readInto 40 = .ok (.getfield 19, 3) := by decide +kernel
theorem dX7_readInto_43 : decode cX7_readInto 43 = .ok (.aload_n 0, 1) := by decide +kernel
theorem dX7_readInto_44 : decode cX7_readInto 44 = .ok (.getfield 33, 3) := by decide +kernel
theorem dX7_readInto_47 : decode cX7_readInto 47 = .ok (.if_icmp .ge 18, 3) := by decide +kernel
theorem dX7_readInto_50 : decode cX7_readInto 50 = .ok (.aload_n 0, 1) := by decide +kernel
theorem dX7_readInto_51 : decode cX7_readInto 51 = .ok (.aload_n 1, 1) := by decide +kernel
theorem dX7_readInto_52 : decode cX7_readInto 52 = .ok (.invokevirtual 36, 3) := by decide +kernel
theorem dX7_readInto_55 : decode cX7_readInto 55 = .ok (.aload_n 0, 1) := by decide +kernel
theorem dX7_readInto_56 : decode cX7_readInto 56 = .ok (.invokevirtual 30, 3) := by decide +kernel
theorem dX7_readInto_59 : decode cX7_readInto 59 = .ok (.iinc 2 1, 3) := by decide +kernel
theorem dX7_readInto_62 : decode cX7_readInto 62 = .ok (.goto (-37), 3) := by decide +kernel
theorem dX7_readInto_65 : decode cX7_readInto 65 = .ok (.aload_n 0, 1) := by decide +kernel
theorem dX7_readInto_66 : decode cX7_readInto 66 = .ok (.iconst 0, 1) := by decide +kernel
theorem dX7_readInto_67 : decode cX7_readInto 67 = .ok (.putfield 33, 3) := by decide +kernel
theorem dX7_readInto_70 : decode cX7_readInto 70 = .ok (.aload_n 0, 1) := by decide +kernel
theorem dX7_readInto_71 : decode cX7_readInto 71 = .ok (.getfield 22, 3) := by decide +kernel
theorem dX7_readInto_74 : decode cX7_readInto 74 = .ok (.ifCond .eq 5, 3) := by decide +kernel
theorem dX7_readInto_77 : decode cX7_readInto 77 = .ok (.iconst 0, 1) := by decide +kernel
theorem dX7_readInto_78 : decode cX7_readInto 78 = .ok (.ireturn, 1) := by decide +kernel
theorem dX7_readInto_79 : decode cX7_readInto 79 = .ok (.aload_n 1, 1) := by decide +kernel
theorem dX7_readInto_80 : decode cX7_readInto 80 = .ok (.invokevirtual 40, 3) := by decide +kernel
theorem dX7_readInto_83 : decode cX7_readInto 83 = .ok (.iconst 1, 1) := by decide +kernel
theorem dX7_readInto_84 : decode cX7_readInto 84 = .ok (.ireturn, 1) := by decide +kernel
theorem dX7_readClause_0 : decode cX7_readClause 0 = .ok (.aload_n 0, 1) := by decide +kernel
theorem dX7_readClause_1 : decode cX7_readClause 1 = .ok (.invokevirtual 43, 3) := by decide +kernel
theorem dX7_readClause_4 : decode cX7_readClause 4 = .ok (.istore_n 2, 1) := by decide +kernel
theorem dX7_readClause_5 : decode cX7_readClause 5 = .ok (.iload_n 2, 1) := by decide +kernel
theorem dX7_readClause_6 : decode cX7_readClause 6 = .ok (.bipush 99, 2) := by decide +kernel
theorem dX7_readClause_8 : decode cX7_readClause 8 = .ok (.if_icmp .eq 20, 3) := by decide +kernel
theorem dX7_readClause_11 : decode cX7_readClause 11 = .ok (.aload_n 1, 1) := by decide +kernel
theorem dX7_readClause_12 : decode cX7_readClause 12 = .ok (.getfield 47, 3) := by decide +kernel
theorem dX7_readClause_15 : decode cX7_readClause 15 = .ok (.ifCond .ne 13, 3) := by decide +kernel
theorem dX7_readClause_18 : decode cX7_readClause 18 = .ok (.aload_n 0, 1) := by decide +kernel
theorem dX7_readClause_19 : decode cX7_readClause 19 = .ok (.iconst 1, 1) := by decide +kernel
theorem dX7_readClause_20 : decode cX7_readClause 20 = .ok (.aload_n 0, 1) := by decide +kernel
theorem dX7_readClause_21 : decode cX7_readClause 21 = .ok (.getfield 19, 3) := by decide +kernel
theorem dX7_readClause_24 : decode cX7_readClause 24 = .ok (.invokevirtual 50, 3) := by decide +kernel
theorem dX7_readClause_27 : decode cX7_readClause 27 = .ok (.return_, 1) := by decide +kernel
theorem dX7_readClause_28 : decode cX7_readClause 28 = .ok (.iload_n 2, 1) := by decide +kernel
theorem dX7_readClause_29 : decode cX7_readClause 29 = .ok (.lookupswitch 75 #[(99, 43), (100, 51), (113, 67), (115, 59)], 43) := by decide +kernel
theorem dX7_readClause_72 : decode cX7_readClause 72 = .ok (.aload_n 0, 1) := by decide +kernel
theorem dX7_readClause_73 : decode cX7_readClause 73 = .ok (.aload_n 1, 1) := by decide +kernel
theorem dX7_readClause_74 : decode cX7_readClause 74 = .ok (.invokevirtual 54, 3) := by decide +kernel
theorem dX7_readClause_77 : decode cX7_readClause 77 = .ok (.goto 36, 3) := by decide +kernel
theorem dX7_readClause_80 : decode cX7_readClause 80 = .ok (.aload_n 0, 1) := by decide +kernel
theorem dX7_readClause_81 : decode cX7_readClause 81 = .ok (.aload_n 1, 1) := by decide +kernel
theorem dX7_readClause_82 : decode cX7_readClause 82 = .ok (.invokevirtual 57, 3) := by decide +kernel
theorem dX7_readClause_85 : decode cX7_readClause 85 = .ok (.goto 28, 3) := by decide +kernel
theorem dX7_readClause_88 : decode cX7_readClause 88 = .ok (.aload_n 0, 1) := by decide +kernel
theorem dX7_readClause_89 : decode cX7_readClause 89 = .ok (.aload_n 1, 1) := by decide +kernel
theorem dX7_readClause_90 : decode cX7_readClause 90 = .ok (.invokevirtual 60, 3) := by decide +kernel
theorem dX7_readClause_93 : decode cX7_readClause 93 = .ok (.goto 20, 3) := by decide +kernel
theorem dX7_readClause_96 : decode cX7_readClause 96 = .ok (.aload_n 0, 1) := by decide +kernel
theorem dX7_readClause_97 : decode cX7_readClause 97 = .ok (.aload_n 1, 1) := by decide +kernel
theorem dX7_readClause_98 : decode cX7_readClause 98 = .ok (.invokevirtual 63, 3) := by decide +kernel
theorem dX7_readClause_101 : decode cX7_readClause 101 = .ok (.goto 12, 3) := by decide +kernel
theorem dX7_readClause_104 : decode cX7_readClause 104 = .ok (.aload_n 0, 1) := by decide +kernel
theorem dX7_readClause_105 : decode cX7_readClause 105 = .ok (.iconst 1, 1) := by decide +kernel
theorem dX7_readClause_106 : decode cX7_readClause 106 = .ok (.aload_n 0, 1) := by decide +kernel
theorem dX7_readClause_107 : decode cX7_readClause 107 = .ok (.getfield 19, 3) := by decide +kernel
theorem dX7_readClause_110 : decode cX7_readClause 110 = .ok (.invokevirtual 50, 3) := by decide +kernel
theorem dX7_readClause_113 : decode cX7_readClause 113 = .ok (.return_, 1) := by decide +kernel
theorem dX7_readCourts_0 : decode cX7_readCourts 0 = .ok (.aload_n 1, 1) := by decide +kernel
theorem dX7_readCourts_1 : decode cX7_readCourts 1 = .ok (.getfield 47, 3) := by decide +kernel
theorem dX7_readCourts_4 : decode cX7_readCourts 4 = .ok (.ifCond .le 13, 3) := by decide +kernel
theorem dX7_readCourts_7 : decode cX7_readCourts 7 = .ok (.aload_n 0, 1) := by decide +kernel
theorem dX7_readCourts_8 : decode cX7_readCourts 8 = .ok (.iconst 3, 1) := by decide +kernel
theorem dX7_readCourts_9 : decode cX7_readCourts 9 = .ok (.aload_n 0, 1) := by decide +kernel
theorem dX7_readCourts_10 : decode cX7_readCourts 10 = .ok (.getfield 19, 3) := by decide +kernel
theorem dX7_readCourts_13 : decode cX7_readCourts 13 = .ok (.invokevirtual 50, 3) := by decide +kernel
theorem dX7_readCourts_16 : decode cX7_readCourts 16 = .ok (.return_, 1) := by decide +kernel
theorem dX7_readCourts_17 : decode cX7_readCourts 17 = .ok (.aload_n 0, 1) := by decide +kernel
theorem dX7_readCourts_18 : decode cX7_readCourts 18 = .ok (.dup, 1) := by decide +kernel
theorem dX7_readCourts_19 : decode cX7_readCourts 19 = .ok (.getfield 19, 3) := by decide +kernel
theorem dX7_readCourts_22 : decode cX7_readCourts 22 = .ok (.iconst 1, 1) := by decide +kernel
theorem dX7_readCourts_23 : decode cX7_readCourts 23 = .ok (.iadd, 1) := by decide +kernel
theorem dX7_readCourts_24 : decode cX7_readCourts 24 = .ok (.putfield 19, 3) := by decide +kernel
theorem dX7_readCourts_27 : decode cX7_readCourts 27 = .ok (.iconst 1, 1) := by decide +kernel
theorem dX7_readCourts_28 : decode cX7_readCourts 28 = .ok (.istore_n 2, 1) := by decide +kernel
theorem dX7_readCourts_29 : decode cX7_readCourts 29 = .ok (.iconst 0, 1) := by decide +kernel
theorem dX7_readCourts_30 : decode cX7_readCourts 30 = .ok (.istore_n 3, 1) := by decide +kernel
theorem dX7_readCourts_31 : decode cX7_readCourts 31 = .ok (.iload_n 2, 1) := by decide +kernel
theorem dX7_readCourts_32 : decode cX7_readCourts 32 = .ok (.ifCond .eq 44, 3) := by decide +kernel
theorem dX7_readCourts_35 : decode cX7_readCourts 35 = .ok (.iload_n 3, 1) := by decide +kernel
theorem dX7_readCourts_36 : decode cX7_readCourts 36 = .ok (.bipush 7, 2) := by decide +kernel
theorem dX7_readCourts_38 : decode cX7_readCourts 38 = .ok (.if_icmp .ge 38, 3) := by decide +kernel
theorem dX7_readCourts_41 : decode cX7_readCourts 41 = .ok (.aload_n 0, 1) := by decide +kernel
theorem dX7_readCourts_42 : decode cX7_readCourts 42 = .ok (.iconst 1, 1) := by decide +kernel
theorem dX7_readCourts_43 : decode cX7_readCourts 43 = .ok (.bipush 9, 2) := by decide +kernel
theorem dX7_readCourts_45 : decode cX7_readCourts 45 = .ok (.invokevirtual 66, 3) := by decide +kernel
theorem dX7_readCourts_48 : decode cX7_readCourts 48 = .ok (.istore 4, 2) := by decide +kernel
theorem dX7_readCourts_50 : decode cX7_readCourts 50 = .ok (.aload_n 0, 1) := by decide +kernel
theorem dX7_readCourts_51 : decode cX7_readCourts 51 = .ok (.getfield 22, 3) := by decide +kernel
theorem dX7_readCourts_54 : decode cX7_readCourts 54 = .ok (.ifCond .eq 4, 3) := by decide +kernel
theorem dX7_readCourts_57 : decode cX7_readCourts 57 = .ok (.return_, 1) := by decide +kernel
theorem dX7_readCourts_58 : decode cX7_readCourts 58 = .ok (.aload_n 1, 1) := by decide +kernel
theorem dX7_readCourts_59 : decode cX7_readCourts 59 = .ok (.iload 4, 2) := by decide +kernel
theorem dX7_readCourts_61 : decode cX7_readCourts 61 = .ok (.invokevirtual 70, 3) := by decide +kernel
theorem dX7_readCourts_64 : decode cX7_readCourts 64 = .ok (.aload_n 0, 1) := by decide +kernel
theorem dX7_readCourts_65 : decode cX7_readCourts 65 = .ok (.aload_n 1, 1) := by decide +kernel
theorem dX7_readCourts_66 : decode cX7_readCourts 66 = .ok (.invokevirtual 74, 3) := by decide +kernel
theorem dX7_readCourts_69 : decode cX7_readCourts 69 = .ok (.istore_n 2, 1) := by decide +kernel
theorem dX7_readCourts_70 : decode cX7_readCourts 70 = .ok (.iinc 3 1, 3) := by decide +kernel
theorem dX7_readCourts_73 : decode cX7_readCourts 73 = .ok (.goto (-42), 3) := by decide +kernel
theorem dX7_readCourts_76 : decode cX7_readCourts 76 = .ok (.return_, 1) := by decide +kernel
theorem dX7_readCourtsMark_0 : decode cX7_readCourtsMark 0 = .ok (.aload_n 0, 1) := by decide +kernel
theorem dX7_readCourtsMark_1 : decode cX7_readCourtsMark 1 = .ok (.invokevirtual 30, 3) := by decide +kernel
theorem dX7_readCourtsMark_4 : decode cX7_readCourtsMark 4 = .ok (.aload_n 0, 1) := by decide +kernel
theorem dX7_readCourtsMark_5 : decode cX7_readCourtsMark 5 = .ok (.invokevirtual 43, 3) := by decide +kernel
theorem dX7_readCourtsMark_8 : decode cX7_readCourtsMark 8 = .ok (.istore_n 2, 1) := by decide +kernel
theorem dX7_readCourtsMark_9 : decode cX7_readCourtsMark 9 = .ok (.iload_n 2, 1) := by decide +kernel
theorem dX7_readCourtsMark_10 : decode cX7_readCourtsMark 10 = .ok (.bipush 44, 2) := by decide +kernel
theorem dX7_readCourtsMark_12 : decode cX7_readCourtsMark 12 = .ok (.if_icmp .ne 16, 3) := by decide +kernel
theorem dX7_readCourtsMark_15 : decode cX7_readCourtsMark 15 = .ok (.aload_n 1, 1) := by decide +kernel
theorem dX7_readCourtsMark_16 : decode cX7_readCourtsMark 16 = .ok (.getfield 47, 3) := by decide +kernel
theorem dX7_readCourtsMark_19 : decode cX7_readCourtsMark 19 = .ok (.bipush 7, 2) := by decide +kernel
theorem dX7_readCourtsMark_21 : decode cX7_readCourtsMark 21 = .ok (.if_icmp .ge 7, 3) := by decide +kernel
theorem dX7_readCourtsMark_24 : decode cX7_readCourtsMark 24 = .ok (.iconst 1, 1) := by decide +kernel
theorem dX7_readCourtsMark_25 : decode cX7_readCourtsMark 25 = .ok (.goto 4, 3) := by decide +kernel
theorem dX7_readCourtsMark_28 : decode cX7_readCourtsMark 28 = .ok (.iconst 0, 1) := by decide +kernel
theorem dX7_readCourtsMark_29 : decode cX7_readCourtsMark 29 = .ok (.istore_n 3, 1) := by decide +kernel
theorem dX7_readCourtsMark_30 : decode cX7_readCourtsMark 30 = .ok (.iload_n 2, 1) := by decide +kernel
theorem dX7_readCourtsMark_31 : decode cX7_readCourtsMark 31 = .ok (.bipush 59, 2) := by decide +kernel
theorem dX7_readCourtsMark_33 : decode cX7_readCourtsMark 33 = .ok (.if_icmp .ne 15, 3) := by decide +kernel
theorem dX7_readCourtsMark_36 : decode cX7_readCourtsMark 36 = .ok (.aload_n 1, 1) := by decide +kernel
theorem dX7_readCourtsMark_37 : decode cX7_readCourtsMark 37 = .ok (.getfield 47, 3) := by decide +kernel
theorem dX7_readCourtsMark_40 : decode cX7_readCourtsMark 40 = .ok (.iconst 1, 1) := by decide +kernel
theorem dX7_readCourtsMark_41 : decode cX7_readCourtsMark 41 = .ok (.if_icmp .le 7, 3) := by decide +kernel
theorem dX7_readCourtsMark_44 : decode cX7_readCourtsMark 44 = .ok (.iconst 1, 1) := by decide +kernel
theorem dX7_readCourtsMark_45 : decode cX7_readCourtsMark 45 = .ok (.goto 4, 3) := by decide +kernel
theorem dX7_readCourtsMark_48 : decode cX7_readCourtsMark 48 = .ok (.iconst 0, 1) := by decide +kernel
theorem dX7_readCourtsMark_49 : decode cX7_readCourtsMark 49 = .ok (.istore 4, 2) := by decide +kernel
theorem dX7_readCourtsMark_51 : decode cX7_readCourtsMark 51 = .ok (.iload_n 3, 1) := by decide +kernel
theorem dX7_readCourtsMark_52 : decode cX7_readCourtsMark 52 = .ok (.ifCond .ne 19, 3) := by decide +kernel
theorem dX7_readCourtsMark_55 : decode cX7_readCourtsMark 55 = .ok (.iload 4, 2) := by decide +kernel
theorem dX7_readCourtsMark_57 : decode cX7_readCourtsMark 57 = .ok (.ifCond .ne 14, 3) := by decide +kernel
theorem dX7_readCourtsMark_60 : decode cX7_readCourtsMark 60 = .ok (.aload_n 0, 1) := by decide +kernel
theorem dX7_readCourtsMark_61 : decode cX7_readCourtsMark 61 = .ok (.iconst 1, 1) := by decide +kernel
theorem dX7_readCourtsMark_62 : decode cX7_readCourtsMark 62 = .ok (.aload_n 0, 1) := by decide +kernel
theorem dX7_readCourtsMark_63 : decode cX7_readCourtsMark 63 = .ok (.getfield 19, 3) := by decide +kernel
theorem dX7_readCourtsMark_66 : decode cX7_readCourtsMark 66 = .ok (.invokevirtual 50, 3) := by decide +kernel
theorem dX7_readCourtsMark_69 : decode cX7_readCourtsMark 69 = .ok (.iconst 0, 1) := by decide +kernel
theorem dX7_readCourtsMark_70 : decode cX7_readCourtsMark 70 = .ok (.ireturn, 1) := by decide +kernel
theorem dX7_readCourtsMark_71 : decode cX7_readCourtsMark 71 = .ok (.aload_n 0, 1) := by decide +kernel
theorem dX7_readCourtsMark_72 : decode cX7_readCourtsMark 72 = .ok (.dup, 1) := by decide +kernel
theorem dX7_readCourtsMark_73 : decode cX7_readCourtsMark 73 = .ok (.getfield 19, 3) := by decide +kernel
theorem dX7_readCourtsMark_76 : decode cX7_readCourtsMark 76 = .ok (.iconst 1, 1) := by decide +kernel
theorem dX7_readCourtsMark_77 : decode cX7_readCourtsMark 77 = .ok (.iadd, 1) := by decide +kernel
theorem dX7_readCourtsMark_78 : decode cX7_readCourtsMark 78 = .ok (.putfield 19, 3) := by decide +kernel
theorem dX7_readCourtsMark_81 : decode cX7_readCourtsMark 81 = .ok (.iload_n 3, 1) := by decide +kernel
theorem dX7_readCourtsMark_82 : decode cX7_readCourtsMark 82 = .ok (.ireturn, 1) := by decide +kernel
theorem dX7_readDoll_0 : decode cX7_readDoll 0 = .ok (.aload_n 1, 1) := by decide +kernel
theorem dX7_readDoll_1 : decode cX7_readDoll 1 = .ok (.getfield 78, 3) := by decide +kernel
theorem dX7_readDoll_4 : decode cX7_readDoll 4 = .ok (.bipush 8, 2) := by decide +kernel
theorem dX7_readDoll_6 : decode cX7_readDoll 6 = .ok (.if_icmp .lt 13, 3) := by decide +kernel
theorem dX7_readDoll_9 : decode cX7_readDoll 9 = .ok (.aload_n 0, 1) := by decide +kernel
theorem dX7_readDoll_10 : decode cX7_readDoll 10 = .ok (.iconst 3, 1) := by decide +kernel
theorem dX7_readDoll_11 : decode cX7_readDoll 11 = .ok (.aload_n 0, 1) := by decide +kernel
theorem dX7_readDoll_12 : decode cX7_readDoll 12 = .ok (.getfield 19, 3) := by decide +kernel
theorem dX7_readDoll_15 : decode cX7_readDoll 15 = .ok (.invokevirtual 50, 3) := by decide +kernel
theorem dX7_readDoll_18 : decode cX7_readDoll 18 = .ok (.return_, 1) := by decide +kernel
theorem dX7_readDoll_19 : decode cX7_readDoll 19 = .ok (.aload_n 0, 1) := by decide +kernel
theorem dX7_readDoll_20 : decode cX7_readDoll 20 = .ok (.dup, 1) := by decide +kernel
theorem dX7_readDoll_21 : decode cX7_readDoll 21 = .ok (.getfield 19, 3) := by decide +kernel
theorem dX7_readDoll_24 : decode cX7_readDoll 24 = .ok (.iconst 1, 1) := by decide +kernel
theorem dX7_readDoll_25 : decode cX7_readDoll 25 = .ok (.iadd, 1) := by decide +kernel
theorem dX7_readDoll_26 : decode cX7_readDoll 26 = .ok (.putfield 19, 3) := by decide +kernel
theorem dX7_readDoll_29 : decode cX7_readDoll 29 = .ok (.aload_n 0, 1) := by decide +kernel
theorem dX7_readDoll_30 : decode cX7_readDoll 30 = .ok (.iconst 0, 1) := by decide +kernel
theorem dX7_readDoll_31 : decode cX7_readDoll 31 = .ok (.iconst 3, 1) := by decide +kernel
theorem dX7_readDoll_32 : decode cX7_readDoll 32 = .ok (.invokevirtual 66, 3) := by decide +kernel
theorem dX7_readDoll_35 : decode cX7_readDoll 35 = .ok (.istore_n 2, 1) := by decide +kernel
theorem dX7_readDoll_36 : decode cX7_readDoll 36 = .ok (.aload_n 0, 1) := by decide +kernel
theorem dX7_readDoll_37 : decode cX7_readDoll 37 = .ok (.iconst 0, 1) := by decide +kernel
theorem dX7_readDoll_38 : decode cX7_readDoll 38 = .ok (.aload_n 1, 1) := by decide +kernel
theorem dX7_readDoll_39 : decode cX7_readDoll 39 = .ok (.getfield 47, 3) := by decide +kernel
theorem dX7_readDoll_42 : decode cX7_readDoll 42 = .ok (.iconst 1, 1) := by decide +kernel
theorem dX7_readDoll_43 : decode cX7_readDoll 43 = .ok (.isub, 1) := by decide +kernel
theorem dX7_readDoll_44 : decode cX7_readDoll 44 = .ok (.invokevirtual 66, 3) := by decide +kernel
theorem dX7_readDoll_47 : decode cX7_readDoll 47 = .ok (.istore_n 3, 1) := by decide +kernel
theorem dX7_readDoll_48 : decode cX7_readDoll 48 = .ok (.aload_n 0, 1) := by decide +kernel
theorem dX7_readDoll_49 : decode cX7_readDoll 49 = .ok (.iconst 0, 1) := by decide +kernel
theorem dX7_readDoll_50 : decode cX7_readDoll 50 = .ok (.bipush 63, 2) := by decide +kernel
theorem dX7_readDoll_52 : decode cX7_readDoll 52 = .ok (.invokevirtual 66, 3) := by decide +kernel
theorem dX7_readDoll_55 : decode cX7_readDoll 55 = .ok (.istore 4, 2) := by decide +kernel
theorem dX7_readDoll_57 : decode cX7_readDoll 57 = .ok (.aload_n 0, 1) := by decide +kernel
theorem dX7_readDoll_58 : decode cX7_readDoll 58 = .ok (.invokevirtual 81, 3) := by decide +kernel
theorem dX7_readDoll_61 : decode cX7_readDoll 61 = .ok (.aload_n 0, 1) := by decide +kernel
theorem dX7_readDoll_62 : decode cX7_readDoll 62 = .ok (.getfield 22, 3) := by decide +kernel
theorem dX7_readDoll_65 : decode cX7_readDoll 65 = .ok (.ifCond .ne 11, 3) := by decide +kernel
theorem dX7_readDoll_68 : decode cX7_readDoll 68 = .ok (.aload_n 1, 1) := by decide +kernel
theorem dX7_readDoll_69 : decode cX7_readDoll 69 = .ok (.iload_n 2, 1) := by decide +kernel
theorem dX7_readDoll_70 : decode cX7_readDoll 70 = .ok (.iload_n 3, 1) := by decide +kernel
theorem dX7_readDoll_71 : decode cX7_readDoll 71 = .ok (.iload 4, 2) := by decide +kernel
theorem dX7_readDoll_73 : decode cX7_readDoll 73 = .ok (.invokevirtual 84, 3) := by decide +kernel
theorem dX7_readDoll_76 : decode cX7_readDoll 76 = .ok (.return_, 1) := by decide +kernel
theorem dX7_readPattern_0 : decode cX7_readPattern 0 = .ok (.aload_n 1, 1) := by decide +kernel
theorem dX7_readPattern_1 : decode cX7_readPattern 1 = .ok (.getfield 88, 3) := by decide +kernel
theorem dX7_readPattern_4 : decode cX7_readPattern 4 = .ok (.ifCond .eq 13, 3) := by decide +kernel
theorem dX7_readPattern_7 : decode cX7_readPattern 7 = .ok (.aload_n 0, 1) := by decide +kernel
theorem dX7_readPattern_8 : decode cX7_readPattern 8 = .ok (.iconst 3, 1) := by decide +kernel
theorem dX7_readPattern_9 : decode cX7_readPattern 9 = .ok (.aload_n 0, 1) := by decide +kernel
theorem dX7_readPattern_10 : decode cX7_readPattern 10 = .ok (.getfield 19, 3) := by decide +kernel
theorem dX7_readPattern_13 : decode cX7_readPattern 13 = .ok (.invokevirtual 50, 3) := by decide +kernel
theorem dX7_readPattern_16 : decode cX7_readPattern 16 = .ok (.return_, 1) := by decide +kernel
theorem dX7_readPattern_17 : decode cX7_readPattern 17 = .ok (.aload_n 0, 1) := by decide +kernel
theorem dX7_readPattern_18 : decode cX7_readPattern 18 = .ok (.dup, 1) := by decide +kernel
theorem dX7_readPattern_19 : decode cX7_readPattern 19 = .ok (.getfield 19, 3) := by decide +kernel
theorem dX7_readPattern_22 : decode cX7_readPattern 22 = .ok (.iconst 1, 1) := by decide +kernel
theorem dX7_readPattern_23 : decode cX7_readPattern 23 = .ok (.iadd, 1) := by decide +kernel
theorem dX7_readPattern_24 : decode cX7_readPattern 24 = .ok (.putfield 19, 3) := by decide +kernel
theorem dX7_readPattern_27 : decode cX7_readPattern 27 = .ok (.aload_n 1, 1) := by decide +kernel
theorem dX7_readPattern_28 : decode cX7_readPattern 28 = .ok (.aload_n 0, 1) := by decide +kernel
theorem dX7_readPattern_29 : decode cX7_readPattern 29 = .ok (.iconst 0, 1) := by decide +kernel
theorem dX7_readPattern_30 : decode cX7_readPattern 30 = .ok (.bipush 63, 2) := by decide +kernel
theorem dX7_readPattern_32 : decode cX7_readPattern 32 = .ok (.invokevirtual 66, 3) := by decide +kernel
theorem dX7_readPattern_35 : decode cX7_readPattern 35 = .ok (.putfield 92, 3) := by decide +kernel
theorem dX7_readPattern_38 : decode cX7_readPattern 38 = .ok (.aload_n 1, 1) := by decide +kernel
theorem dX7_readPattern_39 : decode cX7_readPattern 39 = .ok (.iconst 1, 1) := by decide +kernel
theorem dX7_readPattern_40 : decode cX7_readPattern 40 = .ok (.putfield 88, 3) := by decide +kernel
theorem dX7_readPattern_43 : decode cX7_readPattern 43 = .ok (.aload_n 0, 1) := by decide +kernel
theorem dX7_readPattern_44 : decode cX7_readPattern 44 = .ok (.invokevirtual 81, 3) := by decide +kernel
theorem dX7_readPattern_47 : decode cX7_readPattern 47 = .ok (.return_, 1) := by decide +kernel
theorem dX7_readQuota_0 : decode cX7_readQuota 0 = .ok (.aload_n 1, 1) := by decide +kernel
theorem dX7_readQuota_1 : decode cX7_readQuota 1 = .ok (.getfield 95, 3) := by decide +kernel
theorem dX7_readQuota_4 : decode cX7_readQuota 4 = .ok (.ifCond .eq 13, 3) := by decide +kernel
theorem dX7_readQuota_7 : decode cX7_readQuota 7 = .ok (.aload_n 0, 1) := by decide +kernel
theorem dX7_readQuota_8 : decode cX7_readQuota 8 = .ok (.iconst 3, 1) := by decide +kernel
theorem dX7_readQuota_9 : decode cX7_readQuota 9 = .ok (.aload_n 0, 1) := by decide +kernel
theorem dX7_readQuota_10 : decode cX7_readQuota 10 = .ok (.getfield 19, 3) := by decide +kernel
theorem dX7_readQuota_13 : decode cX7_readQuota 13 = .ok (.invokevirtual 50, 3) := by decide +kernel
theorem dX7_readQuota_16 : decode cX7_readQuota 16 = .ok (.return_, 1) := by decide +kernel
theorem dX7_readQuota_17 : decode cX7_readQuota 17 = .ok (.aload_n 0, 1) := by decide +kernel
theorem dX7_readQuota_18 : decode cX7_readQuota 18 = .ok (.dup, 1) := by decide +kernel
theorem dX7_readQuota_19 : decode cX7_readQuota 19 = .ok (.getfield 19, 3) := by decide +kernel
theorem dX7_readQuota_22 : decode cX7_readQuota 22 = .ok (.iconst 1, 1) := by decide +kernel
theorem dX7_readQuota_23 : decode cX7_readQuota 23 = .ok (.iadd, 1) := by decide +kernel
theorem dX7_readQuota_24 : decode cX7_readQuota 24 = .ok (.putfield 19, 3) := by decide +kernel
theorem dX7_readQuota_27 : decode cX7_readQuota 27 = .ok (.aload_n 1, 1) := by decide +kernel
theorem dX7_readQuota_28 : decode cX7_readQuota 28 = .ok (.aload_n 0, 1) := by decide +kernel
theorem dX7_readQuota_29 : decode cX7_readQuota 29 = .ok (.iconst 1, 1) := by decide +kernel
theorem dX7_readQuota_30 : decode cX7_readQuota 30 = .ok (.bipush 63, 2) := by decide +kernel
theorem dX7_readQuota_32 : decode cX7_readQuota 32 = .ok (.invokevirtual 66, 3) := by decide +kernel
theorem dX7_readQuota_35 : decode cX7_readQuota 35 = .ok (.putfield 98, 3) := by decide +kernel
theorem dX7_readQuota_38 : decode cX7_readQuota 38 = .ok (.aload_n 1, 1) := by decide +kernel
theorem dX7_readQuota_39 : decode cX7_readQuota 39 = .ok (.iconst 1, 1) := by decide +kernel
theorem dX7_readQuota_40 : decode cX7_readQuota 40 = .ok (.putfield 95, 3) := by decide +kernel
theorem dX7_readQuota_43 : decode cX7_readQuota 43 = .ok (.aload_n 0, 1) := by decide +kernel
theorem dX7_readQuota_44 : decode cX7_readQuota 44 = .ok (.invokevirtual 81, 3) := by decide +kernel
theorem dX7_readQuota_47 : decode cX7_readQuota 47 = .ok (.return_, 1) := by decide +kernel
theorem dX7_readEnd_0 : decode cX7_readEnd 0 = .ok (.aload_n 0, 1) := by decide +kernel
theorem dX7_readEnd_1 : decode cX7_readEnd 1 = .ok (.invokevirtual 30, 3) := by decide +kernel
theorem dX7_readEnd_4 : decode cX7_readEnd 4 = .ok (.aload_n 0, 1) := by decide +kernel
theorem dX7_readEnd_5 : decode cX7_readEnd 5 = .ok (.invokevirtual 43, 3) := by decide +kernel
theorem dX7_readEnd_8 : decode cX7_readEnd 8 = .ok (.bipush 59, 2) := by decide +kernel
theorem dX7_readEnd_10 : decode cX7_readEnd 10 = .ok (.if_icmp .eq 13, 3) := by decide +kernel
theorem dX7_readEnd_13 : decode cX7_readEnd 13 = .ok (.aload_n 0, 1) := by decide +kernel
theorem dX7_readEnd_14 : decode cX7_readEnd 14 = .ok (.iconst 1, 1) := by decide +kernel
theorem dX7_readEnd_15 : decode cX7_readEnd 15 = .ok (.aload_n 0, 1) := by decide +kernel
theorem dX7_readEnd_16 : decode cX7_readEnd 16 = .ok (.getfield 19, 3) := by decide +kernel
theorem dX7_readEnd_19 : decode cX7_readEnd 19 = .ok (.invokevirtual 50, 3) := by decide +kernel
theorem dX7_readEnd_22 : decode cX7_readEnd 22 = .ok (.return_, 1) := by decide +kernel
theorem dX7_readEnd_23 : decode cX7_readEnd 23 = .ok (.aload_n 0, 1) := by decide +kernel
theorem dX7_readEnd_24 : decode cX7_readEnd 24 = .ok (.dup, 1) := by decide +kernel
theorem dX7_readEnd_25 : decode cX7_readEnd 25 = .ok (.getfield 19, 3) := by decide +kernel
theorem dX7_readEnd_28 : decode cX7_readEnd 28 = .ok (.iconst 1, 1) := by decide +kernel
theorem dX7_readEnd_29 : decode cX7_readEnd 29 = .ok (.iadd, 1) := by decide +kernel
theorem dX7_readEnd_30 : decode cX7_readEnd 30 = .ok (.putfield 19, 3) := by decide +kernel
theorem dX7_readEnd_33 : decode cX7_readEnd 33 = .ok (.return_, 1) := by decide +kernel
theorem dX7_readNumber_0 : decode cX7_readNumber 0 = .ok (.aload_n 0, 1) := by decide +kernel
theorem dX7_readNumber_1 : decode cX7_readNumber 1 = .ok (.invokevirtual 30, 3) := by decide +kernel
theorem dX7_readNumber_4 : decode cX7_readNumber 4 = .ok (.aload_n 0, 1) := by decide +kernel
theorem dX7_readNumber_5 : decode cX7_readNumber 5 = .ok (.getfield 19, 3) := by decide +kernel
theorem dX7_readNumber_8 : decode cX7_readNumber 8 = .ok (.istore_n 3, 1) := by decide +kernel
theorem dX7_readNumber_9 : decode cX7_readNumber 9 = .ok (.iconst 0, 1) := by decide +kernel
theorem dX7_readNumber_10 : decode cX7_readNumber 10 = .ok (.istore 4, 2) := by decide +kernel
theorem dX7_readNumber_12 : decode cX7_readNumber 12 = .ok (.aload_n 0, 1) := by decide +kernel
theorem dX7_readNumber_13 : decode cX7_readNumber 13 = .ok (.getfield 19, 3) := by decide +kernel
theorem dX7_readNumber_16 : decode cX7_readNumber 16 = .ok (.aload_n 0, 1) := by decide +kernel
theorem dX7_readNumber_17 : decode cX7_readNumber 17 = .ok (.getfield 33, 3) := by decide +kernel
theorem dX7_readNumber_20 : decode cX7_readNumber 20 = .ok (.if_icmp .ge 47, 3) := by decide +kernel
theorem dX7_readNumber_23 : decode cX7_readNumber 23 = .ok (.aload_n 0, 1) := by decide +kernel
theorem dX7_readNumber_24 : decode cX7_readNumber 24 = .ok (.invokevirtual 43, 3) := by decide +kernel
theorem dX7_readNumber_27 : decode cX7_readNumber 27 = .ok (.invokestatic 101, 3) := by decide +kernel
theorem dX7_readNumber_30 : decode cX7_readNumber 30 = .ok (.ifCond .eq 37, 3) := by decide +kernel
theorem dX7_readNumber_33 : decode cX7_readNumber 33 = .ok (.iload 4, 2) := by decide +kernel
theorem dX7_readNumber_35 : decode cX7_readNumber 35 = .ok (.bipush 10, 2) := by decide +kernel
theorem dX7_readNumber_37 : decode cX7_readNumber 37 = .ok (.imul, 1) := by decide +kernel
theorem dX7_readNumber_38 : decode cX7_readNumber 38 = .ok (.aload_n 0, 1) := by decide +kernel
theorem dX7_readNumber_39 : decode cX7_readNumber 39 = .ok (.invokevirtual 43, 3) := by decide +kernel
theorem dX7_readNumber_42 : decode cX7_readNumber 42 = .ok (.iadd, 1) := by decide +kernel
theorem dX7_readNumber_43 : decode cX7_readNumber 43 = .ok (.bipush 48, 2) := by decide +kernel
theorem dX7_readNumber_45 : decode cX7_readNumber 45 = .ok (.isub, 1) := by decide +kernel
theorem dX7_readNumber_46 : decode cX7_readNumber 46 = .ok (.sipush 1000, 3) := by decide +kernel
theorem dX7_readNumber_49 : decode cX7_readNumber 49 = .ok (.invokestatic 105, 3) := by decide +kernel
theorem dX7_readNumber_52 : decode cX7_readNumber 52 = .ok (.istore 4, 2) := by decide +kernel
theorem dX7_readNumber_54 : decode cX7_readNumber 54 = .ok (.aload_n 0, 1) := by decide +kernel
theorem dX7_readNumber_55 : decode cX7_readNumber 55 = .ok (.dup, 1) := by decide +kernel
theorem dX7_readNumber_56 : decode cX7_readNumber 56 = .ok (.getfield 19, 3) := by decide +kernel
theorem dX7_readNumber_59 : decode cX7_readNumber 59 = .ok (.iconst 1, 1) := by decide +kernel
theorem dX7_readNumber_60 : decode cX7_readNumber 60 = .ok (.iadd, 1) := by decide +kernel
theorem dX7_readNumber_61 : decode cX7_readNumber 61 = .ok (.putfield 19, 3) := by decide +kernel
theorem dX7_readNumber_64 : decode cX7_readNumber 64 = .ok (.goto (-52), 3) := by decide +kernel
theorem dX7_readNumber_67 : decode cX7_readNumber 67 = .ok (.aload_n 0, 1) := by decide +kernel
theorem dX7_readNumber_68 : decode cX7_readNumber 68 = .ok (.getfield 19, 3) := by decide +kernel
theorem dX7_readNumber_71 : decode cX7_readNumber 71 = .ok (.iload_n 3, 1) := by decide +kernel
theorem dX7_readNumber_72 : decode cX7_readNumber 72 = .ok (.if_icmp .ne 12, 3) := by decide +kernel
theorem dX7_readNumber_75 : decode cX7_readNumber 75 = .ok (.aload_n 0, 1) := by decide +kernel
theorem dX7_readNumber_76 : decode cX7_readNumber 76 = .ok (.iconst 1, 1) := by decide +kernel
theorem dX7_readNumber_77 : decode cX7_readNumber 77 = .ok (.iload_n 3, 1) := by decide +kernel
theorem dX7_readNumber_78 : decode cX7_readNumber 78 = .ok (.invokevirtual 50, 3) := by decide +kernel
theorem dX7_readNumber_81 : decode cX7_readNumber 81 = .ok (.goto 31, 3) := by decide +kernel
theorem dX7_readNumber_84 : decode cX7_readNumber 84 = .ok (.aload_n 0, 1) := by decide +kernel
theorem dX7_readNumber_85 : decode cX7_readNumber 85 = .ok (.getfield 19, 3) := by decide +kernel
theorem dX7_readNumber_88 : decode cX7_readNumber 88 = .ok (.iload_n 3, 1) := by decide +kernel
theorem dX7_readNumber_89 : decode cX7_readNumber 89 = .ok (.isub, 1) := by decide +kernel
theorem dX7_readNumber_90 : decode cX7_readNumber 90 = .ok (.iconst 3, 1) := by decide +kernel
theorem dX7_readNumber_91 : decode cX7_readNumber 91 = .ok (.if_icmp .gt 15, 3) := by decide +kernel
theorem dX7_readNumber_94 : decode cX7_readNumber 94 = .ok (.iload 4, 2) := by decide +kernel
theorem dX7_readNumber_96 : decode cX7_readNumber 96 = .ok (.iload_n 1, 1) := by decide +kernel
theorem dX7_readNumber_97 : decode cX7_readNumber 97 = .ok (.if_icmp .lt 9, 3) := by decide +kernel
theorem dX7_readNumber_100 : decode cX7_readNumber 100 = .ok (.iload 4, 2) := by decide +kernel
theorem dX7_readNumber_102 : decode cX7_readNumber 102 = .ok (.iload_n 2, 1) := by decide +kernel
theorem dX7_readNumber_103 : decode cX7_readNumber 103 = .ok (.if_icmp .le 9, 3) := by decide +kernel
theorem dX7_readNumber_106 : decode cX7_readNumber 106 = .ok (.aload_n 0, 1) := by decide +kernel
theorem dX7_readNumber_107 : decode cX7_readNumber 107 = .ok (.iconst 2, 1) := by decide +kernel
theorem dX7_readNumber_108 : decode cX7_readNumber 108 = .ok (.iload_n 3, 1) := by decide +kernel
theorem dX7_readNumber_109 : decode cX7_readNumber 109 = .ok (.invokevirtual 50, 3) := by decide +kernel
theorem dX7_readNumber_112 : decode cX7_readNumber 112 = .ok (.iload 4, 2) := by decide +kernel
theorem dX7_readNumber_114 : decode cX7_readNumber 114 = .ok (.ireturn, 1) := by decide +kernel
theorem dX7_isFigure_0 : decode cX7_isFigure 0 = .ok (.iload_n 0, 1) := by decide +kernel
theorem dX7_isFigure_1 : decode cX7_isFigure 1 = .ok (.bipush 48, 2) := by decide +kernel
theorem dX7_isFigure_3 : decode cX7_isFigure 3 = .ok (.if_icmp .lt 13, 3) := by decide +kernel
theorem dX7_isFigure_6 : decode cX7_isFigure 6 = .ok (.iload_n 0, 1) := by decide +kernel
theorem dX7_isFigure_7 : decode cX7_isFigure 7 = .ok (.bipush 57, 2) := by decide +kernel
theorem dX7_isFigure_9 : decode cX7_isFigure 9 = .ok (.if_icmp .gt 7, 3) := by decide +kernel
theorem dX7_isFigure_12 : decode cX7_isFigure 12 = .ok (.iconst 1, 1) := by decide +kernel
theorem dX7_isFigure_13 : decode cX7_isFigure 13 = .ok (.goto 4, 3) := by decide +kernel
theorem dX7_isFigure_16 : decode cX7_isFigure 16 = .ok (.iconst 0, 1) := by decide +kernel
theorem dX7_isFigure_17 : decode cX7_isFigure 17 = .ok (.ireturn, 1) := by decide +kernel
theorem dX7_skipBlanks_0 : decode cX7_skipBlanks 0 = .ok (.aload_n 0, 1) := by decide +kernel
theorem dX7_skipBlanks_1 : decode cX7_skipBlanks 1 = .ok (.getfield 19, 3) := by decide +kernel
theorem dX7_skipBlanks_4 : decode cX7_skipBlanks 4 = .ok (.aload_n 0, 1) := by decide +kernel
theorem dX7_skipBlanks_5 : decode cX7_skipBlanks 5 = .ok (.getfield 33, 3) := by decide +kernel
theorem dX7_skipBlanks_8 : decode cX7_skipBlanks 8 = .ok (.if_icmp .ge 25, 3) := by decide +kernel
theorem dX7_skipBlanks_11 : decode cX7_skipBlanks 11 = .ok (.aload_n 0, 1) := by decide +kernel
theorem dX7_skipBlanks_12 : decode cX7_skipBlanks 12 = .ok (.invokevirtual 43, 3) := by decide +kernel
end
section
theorem dX7_skipBlanks_15 : decode cX7_skipBlanks 15 = .ok (.bipush 32, 2) := by decide +kernel
theorem dX7_skipBlanks_17 : decode cX7_skipBlanks 17 = .ok (.if_icmp .ne 16, 3) := by decide +kernel
theorem dX7_skipBlanks_20 : decode cX7_skipBlanks 20 = .ok (.aload_n 0, 1) := by decide +kernel
theorem dX7_skipBlanks_21 : decode cX7_skipBlanks 21 = .ok (.dup, 1) := by decide +kernel
theorem dX7_skipBlanks_22 : decode cX7_skipBlanks 22 = .ok (.getfield 19, 3) := by decide +kernel
theorem dX7_skipBlanks_25 : decode cX7_skipBlanks 25 = .ok (.iconst 1, 1) := by decide +kernel
theorem dX7_skipBlanks_26 : decode cX7_skipBlanks 26 = .ok (.iadd, 1) := by decide +kernel
theorem dX7_skipBlanks_27 : decode cX7_skipBlanks 27 = .ok (.putfield 19, 3) := by decide +kernel
theorem dX7_skipBlanks_30 : decode cX7_skipBlanks 30 = .ok (.goto (-30), 3) := by decide +kernel
theorem dX7_skipBlanks_33 : decode cX7_skipBlanks 33 = .ok (.return_, 1) := by decide +kernel
theorem dX7_letterHere_0 : decode cX7_letterHere 0 = .ok (.aload_n 0, 1) := by decide +kernel
theorem dX7_letterHere_1 : decode cX7_letterHere 1 = .ok (.getfield 19, 3) := by decide +kernel
theorem dX7_letterHere_4 : decode cX7_letterHere 4 = .ok (.ifCond .lt 36, 3) := by decide +kernel
theorem dX7_letterHere_7 : decode cX7_letterHere 7 = .ok (.aload_n 0, 1) := by decide +kernel
theorem dX7_letterHere_8 : decode cX7_letterHere 8 = .ok (.getfield 19, 3) := by decide +kernel
theorem dX7_letterHere_11 : decode cX7_letterHere 11 = .ok (.aload_n 0, 1) := by decide +kernel
theorem dX7_letterHere_12 : decode cX7_letterHere 12 = .ok (.getfield 33, 3) := by decide +kernel
theorem dX7_letterHere_15 : decode cX7_letterHere 15 = .ok (.if_icmp .ge 25, 3) := by decide +kernel
theorem dX7_letterHere_18 : decode cX7_letterHere 18 = .ok (.aload_n 0, 1) := by decide +kernel
theorem dX7_letterHere_19 : decode cX7_letterHere 19 = .ok (.getfield 19, 3) := by decide +kernel
theorem dX7_letterHere_22 : decode cX7_letterHere 22 = .ok (.sipush 240, 3) := by decide +kernel
theorem dX7_letterHere_25 : decode cX7_letterHere 25 = .ok (.if_icmp .ge 15, 3) := by decide +kernel
theorem dX7_letterHere_28 : decode cX7_letterHere 28 = .ok (.aload_n 0, 1) := by decide +kernel
theorem dX7_letterHere_29 : decode cX7_letterHere 29 = .ok (.getfield 9, 3) := by decide +kernel
theorem dX7_letterHere_32 : decode cX7_letterHere 32 = .ok (.aload_n 0, 1) := by decide +kernel
theorem dX7_letterHere_33 : decode cX7_letterHere 33 = .ok (.getfield 19, 3) := by decide +kernel
theorem dX7_letterHere_36 : decode cX7_letterHere 36 = .ok (.iaload, 1) := by decide +kernel
theorem dX7_letterHere_37 : decode cX7_letterHere 37 = .ok (.goto 4, 3) := by decide +kernel
theorem dX7_letterHere_40 : decode cX7_letterHere 40 = .ok (.iconst (-1), 1) := by decide +kernel
theorem dX7_letterHere_41 : decode cX7_letterHere 41 = .ok (.ireturn, 1) := by decide +kernel
theorem dX7_fail_0 : decode cX7_fail 0 = .ok (.aload_n 0, 1) := by decide +kernel
theorem dX7_fail_1 : decode cX7_fail 1 = .ok (.getfield 22, 3) := by decide +kernel
theorem dX7_fail_4 : decode cX7_fail 4 = .ok (.ifCond .ne 13, 3) := by decide +kernel
theorem dX7_fail_7 : decode cX7_fail 7 = .ok (.aload_n 0, 1) := by decide +kernel
theorem dX7_fail_8 : decode cX7_fail 8 = .ok (.iload_n 1, 1) := by decide +kernel
theorem dX7_fail_9 : decode cX7_fail 9 = .ok (.putfield 22, 3) := by decide +kernel
theorem dX7_fail_12 : decode cX7_fail 12 = .ok (.aload_n 0, 1) := by decide +kernel
theorem dX7_fail_13 : decode cX7_fail 13 = .ok (.iload_n 2, 1) := by decide +kernel
theorem dX7_fail_14 : decode cX7_fail 14 = .ok (.putfield 15, 3) := by decide +kernel
theorem dX7_fail_17 : decode cX7_fail 17 = .ok (.return_, 1) := by decide +kernel
theorem dX8_init_0 : decode cX8_init 0 = .ok (.aload_n 0, 1) := by decide +kernel
theorem dX8_init_1 : decode cX8_init 1 = .ok (.invokespecial 3, 3) := by decide +kernel
theorem dX8_init_4 : decode cX8_init 4 = .ok (.aload_n 0, 1) := by decide +kernel
theorem dX8_init_5 : decode cX8_init 5 = .ok (.bipush 7, 2) := by decide +kernel
theorem dX8_init_7 : decode cX8_init 7 = .ok (.newarray .int, 2) := by decide +kernel
theorem dX8_init_9 : decode cX8_init 9 = .ok (.putfield 9, 3) := by decide +kernel
theorem dX8_init_12 : decode cX8_init 12 = .ok (.aload_n 0, 1) := by decide +kernel
theorem dX8_init_13 : decode cX8_init 13 = .ok (.bipush 8, 2) := by decide +kernel
theorem dX8_init_15 : decode cX8_init 15 = .ok (.sipush 256, 3) := by decide +kernel
theorem dX8_init_18 : decode cX8_init 18 = .ok (.multianewarray 15 2, 4) := by decide +kernel
theorem dX8_init_22 : decode cX8_init 22 = .ok (.putfield 17, 3) := by decide +kernel
theorem dX8_init_25 : decode cX8_init 25 = .ok (.return_, 1) := by decide +kernel
theorem dX8_weigh_0 : decode cX8_weigh 0 = .ok (.aload_n 0, 1) := by decide +kernel
theorem dX8_weigh_1 : decode cX8_weigh 1 = .ok (.getfield 9, 3) := by decide +kernel
theorem dX8_weigh_4 : decode cX8_weigh 4 = .ok (.iconst 0, 1) := by decide +kernel
theorem dX8_weigh_5 : decode cX8_weigh 5 = .ok (.invokestatic 20, 3) := by decide +kernel
theorem dX8_weigh_8 : decode cX8_weigh 8 = .ok (.iconst 0, 1) := by decide +kernel
theorem dX8_weigh_9 : decode cX8_weigh 9 = .ok (.istore_n 3, 1) := by decide +kernel
theorem dX8_weigh_10 : decode cX8_weigh 10 = .ok (.iload_n 3, 1) := by decide +kernel
theorem dX8_weigh_11 : decode cX8_weigh 11 = .ok (.aload_n 1, 1) := by decide +kernel
theorem dX8_weigh_12 : decode cX8_weigh 12 = .ok (.getfield 26, 3) := by decide +kernel
theorem dX8_weigh_15 : decode cX8_weigh 15 = .ok (.if_icmp .ge 29, 3) := by decide +kernel
theorem dX8_weigh_18 : decode cX8_weigh 18 = .ok (.aload_n 0, 1) := by decide +kernel
theorem dX8_weigh_19 : decode cX8_weigh 19 = .ok (.getfield 9, 3) := by decide +kernel
theorem dX8_weigh_22 : decode cX8_weigh 22 = .ok (.aload_n 1, 1) := by decide +kernel
theorem dX8_weigh_23 : decode cX8_weigh 23 = .ok (.getfield 32, 3) := by decide +kernel
theorem dX8_weigh_26 : decode cX8_weigh 26 = .ok (.iload_n 3, 1) := by decide +kernel
theorem dX8_weigh_27 : decode cX8_weigh 27 = .ok (.iaload, 1) := by decide +kernel
theorem dX8_weigh_28 : decode cX8_weigh 28 = .ok (.dup2, 1) := by decide +kernel
theorem dX8_weigh_29 : decode cX8_weigh 29 = .ok (.iaload, 1) := by decide +kernel
theorem dX8_weigh_30 : decode cX8_weigh 30 = .ok (.aload_n 2, 1) := by decide +kernel
theorem dX8_weigh_31 : decode cX8_weigh 31 = .ok (.getfield 35, 3) := by decide +kernel
theorem dX8_weigh_34 : decode cX8_weigh 34 = .ok (.iload_n 3, 1) := by decide +kernel
theorem dX8_weigh_35 : decode cX8_weigh 35 = .ok (.iaload, 1) := by decide +kernel
theorem dX8_weigh_36 : decode cX8_weigh 36 = .ok (.ior, 1) := by decide +kernel
theorem dX8_weigh_37 : decode cX8_weigh 37 = .ok (.iastore, 1) := by decide +kernel
theorem dX8_weigh_38 : decode cX8_weigh 38 = .ok (.iinc 3 1, 3) := by decide +kernel
theorem dX8_weigh_41 : decode cX8_weigh 41 = .ok (.goto (-31), 3) := by decide +kernel
theorem dX8_weigh_44 : decode cX8_weigh 44 = .ok (.aload_n 0, 1) := by decide +kernel
theorem dX8_weigh_45 : decode cX8_weigh 45 = .ok (.getfield 17, 3) := by decide +kernel
theorem dX8_weigh_48 : decode cX8_weigh 48 = .ok (.aload_n 1, 1) := by decide +kernel
theorem dX8_weigh_49 : decode cX8_weigh 49 = .ok (.getfield 40, 3) := by decide +kernel
theorem dX8_weigh_52 : decode cX8_weigh 52 = .ok (.aaload, 1) := by decide +kernel
theorem dX8_weigh_53 : decode cX8_weigh 53 = .ok (.iconst 0, 1) := by decide +kernel
theorem dX8_weigh_54 : decode cX8_weigh 54 = .ok (.invokestatic 20, 3) := by decide +kernel
theorem dX8_weigh_57 : decode cX8_weigh 57 = .ok (.aload_n 1, 1) := by decide +kernel
theorem dX8_weigh_58 : decode cX8_weigh 58 = .ok (.getfield 40, 3) := by decide +kernel
theorem dX8_weigh_61 : decode cX8_weigh 61 = .ok (.iconst 1, 1) := by decide +kernel
theorem dX8_weigh_62 : decode cX8_weigh 62 = .ok (.isub, 1) := by decide +kernel
theorem dX8_weigh_63 : decode cX8_weigh 63 = .ok (.istore_n 3, 1) := by decide +kernel
theorem dX8_weigh_64 : decode cX8_weigh 64 = .ok (.iload_n 3, 1) := by decide +kernel
theorem dX8_weigh_65 : decode cX8_weigh 65 = .ok (.ifCond .lt 56, 3) := by decide +kernel
theorem dX8_weigh_68 : decode cX8_weigh 68 = .ok (.iconst 0, 1) := by decide +kernel
theorem dX8_weigh_69 : decode cX8_weigh 69 = .ok (.istore 4, 2) := by decide +kernel
theorem dX8_weigh_71 : decode cX8_weigh 71 = .ok (.iload 4, 2) := by decide +kernel
theorem dX8_weigh_73 : decode cX8_weigh 73 = .ok (.iconst 1, 1) := by decide +kernel
theorem dX8_weigh_74 : decode cX8_weigh 74 = .ok (.aload_n 1, 1) := by decide +kernel
theorem dX8_weigh_75 : decode cX8_weigh 75 = .ok (.getfield 26, 3) := by decide +kernel
theorem dX8_weigh_78 : decode cX8_weigh 78 = .ok (.ishl, 1) := by decide +kernel
theorem dX8_weigh_79 : decode cX8_weigh 79 = .ok (.if_icmp .ge 36, 3) := by decide +kernel
theorem dX8_weigh_82 : decode cX8_weigh 82 = .ok (.iload 4, 2) := by decide +kernel
theorem dX8_weigh_84 : decode cX8_weigh 84 = .ok (.invokestatic 43, 3) := by decide +kernel
theorem dX8_weigh_87 : decode cX8_weigh 87 = .ok (.iload_n 3, 1) := by decide +kernel
theorem dX8_weigh_88 : decode cX8_weigh 88 = .ok (.if_icmp .gt 21, 3) := by decide +kernel
theorem dX8_weigh_91 : decode cX8_weigh 91 = .ok (.aload_n 0, 1) := by decide +kernel
theorem dX8_weigh_92 : decode cX8_weigh 92 = .ok (.getfield 17, 3) := by decide +kernel
theorem dX8_weigh_95 : decode cX8_weigh 95 = .ok (.iload_n 3, 1) := by decide +kernel
theorem dX8_weigh_96 : decode cX8_weigh 96 = .ok (.aaload, 1) := by decide +kernel
theorem dX8_weigh_97 : decode cX8_weigh 97 = .ok (.iload 4, 2) := by decide +kernel
theorem dX8_weigh_99 : decode cX8_weigh 99 = .ok (.aload_n 0, 1) := by decide +kernel
theorem dX8_weigh_100 : decode cX8_weigh 100 = .ok (.aload_n 1, 1) := by decide +kernel
theorem dX8_weigh_101 : decode cX8_weigh 101 = .ok (.aload_n 2, 1) := by decide +kernel
theorem dX8_weigh_102 : decode cX8_weigh 102 = .ok (.iload_n 3, 1) := by decide +kernel
theorem dX8_weigh_103 : decode cX8_weigh 103 = .ok (.iload 4, 2) := by decide +kernel
theorem dX8_weigh_105 : decode cX8_weigh 105 = .ok (.invokevirtual 49, 3) := by decide +kernel
theorem dX8_weigh_108 : decode cX8_weigh 108 = .ok (.iastore, 1) := by decide +kernel
theorem dX8_weigh_109 : decode cX8_weigh 109 = .ok (.iinc 4 1, 3) := by decide +kernel
theorem dX8_weigh_112 : decode cX8_weigh 112 = .ok (.goto (-41), 3) := by decide +kernel
theorem dX8_weigh_115 : decode cX8_weigh 115 = .ok (.iinc 3 (-1), 3) := by decide +kernel
theorem dX8_weigh_118 : decode cX8_weigh 118 = .ok (.goto (-54), 3) := by decide +kernel
theorem dX8_weigh_121 : decode cX8_weigh 121 = .ok (.return_, 1) := by decide +kernel
theorem dX8_mostFrom_0 : decode cX8_mostFrom 0 = .ok (.aload_n 0, 1) := by decide +kernel
theorem dX8_mostFrom_1 : decode cX8_mostFrom 1 = .ok (.getfield 17, 3) := by decide +kernel
theorem dX8_mostFrom_4 : decode cX8_mostFrom 4 = .ok (.iload_n 3, 1) := by decide +kernel
theorem dX8_mostFrom_5 : decode cX8_mostFrom 5 = .ok (.iconst 1, 1) := by decide +kernel
theorem dX8_mostFrom_6 : decode cX8_mostFrom 6 = .ok (.iadd, 1) := by decide +kernel
theorem dX8_mostFrom_7 : decode cX8_mostFrom 7 = .ok (.aaload, 1) := by decide +kernel
theorem dX8_mostFrom_8 : decode cX8_mostFrom 8 = .ok (.iload 4, 2) := by decide +kernel
theorem dX8_mostFrom_10 : decode cX8_mostFrom 10 = .ok (.iaload, 1) := by decide +kernel
theorem dX8_mostFrom_11 : decode cX8_mostFrom 11 = .ok (.istore 5, 2) := by decide +kernel
theorem dX8_mostFrom_13 : decode cX8_mostFrom 13 = .ok (.iconst 0, 1) := by decide +kernel
theorem dX8_mostFrom_14 : decode cX8_mostFrom 14 = .ok (.istore 6, 2) := by decide +kernel
theorem dX8_mostFrom_16 : decode cX8_mostFrom 16 = .ok (.iload 6, 2) := by decide +kernel
theorem dX8_mostFrom_18 : decode cX8_mostFrom 18 = .ok (.aload_n 1, 1) := by decide +kernel
theorem dX8_mostFrom_19 : decode cX8_mostFrom 19 = .ok (.getfield 26, 3) := by decide +kernel
theorem dX8_mostFrom_22 : decode cX8_mostFrom 22 = .ok (.if_icmp .ge 51, 3) := by decide +kernel
theorem dX8_mostFrom_25 : decode cX8_mostFrom 25 = .ok (.iload 4, 2) := by decide +kernel
theorem dX8_mostFrom_27 : decode cX8_mostFrom 27 = .ok (.iload 6, 2) := by decide +kernel
theorem dX8_mostFrom_29 : decode cX8_mostFrom 29 = .ok (.ishr, 1) := by decide +kernel
theorem dX8_mostFrom_30 : decode cX8_mostFrom 30 = .ok (.iconst 1, 1) := by decide +kernel
theorem dX8_mostFrom_31 : decode cX8_mostFrom 31 = .ok (.iand, 1) := by decide +kernel
theorem dX8_mostFrom_32 : decode cX8_mostFrom 32 = .ok (.ifCond .ne 35, 3) := by decide +kernel
theorem dX8_mostFrom_35 : decode cX8_mostFrom 35 = .ok (.iload 5, 2) := by decide +kernel
theorem dX8_mostFrom_37 : decode cX8_mostFrom 37 = .ok (.aload_n 0, 1) := by decide +kernel
theorem dX8_mostFrom_38 : decode cX8_mostFrom 38 = .ok (.aload_n 2, 1) := by decide +kernel
theorem dX8_mostFrom_39 : decode cX8_mostFrom 39 = .ok (.iload_n 3, 1) := by decide +kernel
theorem dX8_mostFrom_40 : decode cX8_mostFrom 40 = .ok (.iload 6, 2) := by decide +kernel
theorem dX8_mostFrom_42 : decode cX8_mostFrom 42 = .ok (.invokevirtual 53, 3) := by decide +kernel
theorem dX8_mostFrom_45 : decode cX8_mostFrom 45 = .ok (.aload_n 0, 1) := by decide +kernel
theorem dX8_mostFrom_46 : decode cX8_mostFrom 46 = .ok (.getfield 17, 3) := by decide +kernel
theorem dX8_mostFrom_49 : decode cX8_mostFrom 49 = .ok (.iload_n 3, 1) := by decide +kernel
theorem dX8_mostFrom_50 : decode cX8_mostFrom 50 = .ok (.iconst 1, 1) := by decide +kernel
theorem dX8_mostFrom_51 : decode cX8_mostFrom 51 = .ok (.iadd, 1) := by decide +kernel
theorem dX8_mostFrom_52 : decode cX8_mostFrom 52 = .ok (.aaload, 1) := by decide +kernel
theorem dX8_mostFrom_53 : decode cX8_mostFrom 53 = .ok (.iload 4, 2) := by decide +kernel
theorem dX8_mostFrom_55 : decode cX8_mostFrom 55 = .ok (.iconst 1, 1) := by decide +kernel
theorem dX8_mostFrom_56 : decode cX8_mostFrom 56 = .ok (.iload 6, 2) := by decide +kernel
theorem dX8_mostFrom_58 : decode cX8_mostFrom 58 = .ok (.ishl, 1) := by decide +kernel
theorem dX8_mostFrom_59 : decode cX8_mostFrom 59 = .ok (.ior, 1) := by decide +kernel
theorem dX8_mostFrom_60 : decode cX8_mostFrom 60 = .ok (.iaload, 1) := by decide +kernel
theorem dX8_mostFrom_61 : decode cX8_mostFrom 61 = .ok (.iadd, 1) := by decide +kernel
theorem dX8_mostFrom_62 : decode cX8_mostFrom 62 = .ok (.invokestatic 57, 3) := by decide +kernel
theorem dX8_mostFrom_65 : decode cX8_mostFrom 65 = .ok (.istore 5, 2) := by decide +kernel
theorem dX8_mostFrom_67 : decode cX8_mostFrom 67 = .ok (.iinc 6 1, 3) := by decide +kernel
theorem dX8_mostFrom_70 : decode cX8_mostFrom 70 = .ok (.goto (-54), 3) := by decide +kernel
theorem dX8_mostFrom_73 : decode cX8_mostFrom 73 = .ok (.iload 5, 2) := by decide +kernel
theorem dX8_mostFrom_75 : decode cX8_mostFrom 75 = .ok (.ireturn, 1) := by decide +kernel
theorem dX8_pleasure_0 : decode cX8_pleasure 0 = .ok (.aload_n 1, 1) := by decide +kernel
theorem dX8_pleasure_1 : decode cX8_pleasure 1 = .ok (.getfield 35, 3) := by decide +kernel
theorem dX8_pleasure_4 : decode cX8_pleasure 4 = .ok (.iload_n 3, 1) := by decide +kernel
theorem dX8_pleasure_5 : decode cX8_pleasure 5 = .ok (.iaload, 1) := by decide +kernel
theorem dX8_pleasure_6 : decode cX8_pleasure 6 = .ok (.aload_n 0, 1) := by decide +kernel
theorem dX8_pleasure_7 : decode cX8_pleasure 7 = .ok (.getfield 9, 3) := by decide +kernel
theorem dX8_pleasure_10 : decode cX8_pleasure 10 = .ok (.iload_n 2, 1) := by decide +kernel
theorem dX8_pleasure_11 : decode cX8_pleasure 11 = .ok (.iaload, 1) := by decide +kernel
theorem dX8_pleasure_12 : decode cX8_pleasure 12 = .ok (.iand, 1) := by decide +kernel
theorem dX8_pleasure_13 : decode cX8_pleasure 13 = .ok (.invokestatic 43, 3) := by decide +kernel
theorem dX8_pleasure_16 : decode cX8_pleasure 16 = .ok (.ireturn, 1) := by decide +kernel
theorem dX8_most_0 : decode cX8_most 0 = .ok (.aload_n 0, 1) := by decide +kernel
theorem dX8_most_1 : decode cX8_most 1 = .ok (.getfield 17, 3) := by decide +kernel
theorem dX8_most_4 : decode cX8_most 4 = .ok (.iconst 0, 1) := by decide +kernel
theorem dX8_most_5 : decode cX8_most 5 = .ok (.aaload, 1) := by decide +kernel
theorem dX8_most_6 : decode cX8_most 6 = .ok (.iconst 0, 1) := by decide +kernel
theorem dX8_most_7 : decode cX8_most 7 = .ok (.iaload, 1) := by decide +kernel
theorem dX8_most_8 : decode cX8_most 8 = .ok (.ireturn, 1) := by decide +kernel
theorem dX8_dollOf_0 : decode cX8_dollOf 0 = .ok (.iconst 0, 1) := by decide +kernel
theorem dX8_dollOf_1 : decode cX8_dollOf 1 = .ok (.istore 4, 2) := by decide +kernel
theorem dX8_dollOf_3 : decode cX8_dollOf 3 = .ok (.iconst (-1), 1) := by decide +kernel
theorem dX8_dollOf_4 : decode cX8_dollOf 4 = .ok (.istore 5, 2) := by decide +kernel
theorem dX8_dollOf_6 : decode cX8_dollOf 6 = .ok (.iconst 0, 1) := by decide +kernel
theorem dX8_dollOf_7 : decode cX8_dollOf 7 = .ok (.istore 6, 2) := by decide +kernel
theorem dX8_dollOf_9 : decode cX8_dollOf 9 = .ok (.iload 6, 2) := by decide +kernel
theorem dX8_dollOf_11 : decode cX8_dollOf 11 = .ok (.iload_n 3, 1) := by decide +kernel
theorem dX8_dollOf_12 : decode cX8_dollOf 12 = .ok (.if_icmp .gt 36, 3) := by decide +kernel
theorem dX8_dollOf_15 : decode cX8_dollOf 15 = .ok (.aload_n 0, 1) := by decide +kernel
theorem dX8_dollOf_16 : decode cX8_dollOf 16 = .ok (.aload_n 1, 1) := by decide +kernel
theorem dX8_dollOf_17 : decode cX8_dollOf 17 = .ok (.aload_n 2, 1) := by decide +kernel
theorem dX8_dollOf_18 : decode cX8_dollOf 18 = .ok (.iload 6, 2) := by decide +kernel
theorem dX8_dollOf_20 : decode cX8_dollOf 20 = .ok (.iload 4, 2) := by decide +kernel
theorem dX8_dollOf_22 : decode cX8_dollOf 22 = .ok (.invokevirtual 63, 3) := by decide +kernel
theorem dX8_dollOf_25 : decode cX8_dollOf 25 = .ok (.istore 5, 2) := by decide +kernel
theorem dX8_dollOf_27 : decode cX8_dollOf 27 = .ok (.iload 5, 2) := by decide +kernel
theorem dX8_dollOf_29 : decode cX8_dollOf 29 = .ok (.iconst (-1), 1) := by decide +kernel
theorem dX8_dollOf_30 : decode cX8_dollOf 30 = .ok (.if_icmp .eq 12, 3) := by decide +kernel
theorem dX8_dollOf_33 : decode cX8_dollOf 33 = .ok (.iload 4, 2) := by decide +kernel
theorem dX8_dollOf_35 : decode cX8_dollOf 35 = .ok (.iconst 1, 1) := by decide +kernel
theorem dX8_dollOf_36 : decode cX8_dollOf 36 = .ok (.iload 5, 2) := by decide +kernel
theorem dX8_dollOf_38 : decode cX8_dollOf 38 = .ok (.ishl, 1) := by decide +kernel
theorem dX8_dollOf_39 : decode cX8_dollOf 39 = .ok (.ior, 1) := by decide +kernel
theorem dX8_dollOf_40 : decode cX8_dollOf 40 = .ok (.istore 4, 2) := by decide +kernel
theorem dX8_dollOf_42 : decode cX8_dollOf 42 = .ok (.iinc 6 1, 3) := by decide +kernel
theorem dX8_dollOf_45 : decode cX8_dollOf 45 = .ok (.goto (-36), 3) := by decide +kernel
theorem dX8_dollOf_48 : decode cX8_dollOf 48 = .ok (.iload 5, 2) := by decide +kernel
theorem dX8_dollOf_50 : decode cX8_dollOf 50 = .ok (.ireturn, 1) := by decide +kernel
theorem dX8_leastTaken_0 : decode cX8_leastTaken 0 = .ok (.iconst 0, 1) := by decide +kernel
theorem dX8_leastTaken_1 : decode cX8_leastTaken 1 = .ok (.istore 5, 2) := by decide +kernel
theorem dX8_leastTaken_3 : decode cX8_leastTaken 3 = .ok (.iload 5, 2) := by decide +kernel
theorem dX8_leastTaken_5 : decode cX8_leastTaken 5 = .ok (.aload_n 1, 1) := by decide +kernel
theorem dX8_leastTaken_6 : decode cX8_leastTaken 6 = .ok (.getfield 26, 3) := by decide +kernel
theorem dX8_leastTaken_9 : decode cX8_leastTaken 9 = .ok (.if_icmp .ge 71, 3) := by decide +kernel
theorem dX8_leastTaken_12 : decode cX8_leastTaken 12 = .ok (.iload 4, 2) := by decide +kernel
theorem dX8_leastTaken_14 : decode cX8_leastTaken 14 = .ok (.iload 5, 2) := by decide +kernel
theorem dX8_leastTaken_16 : decode cX8_leastTaken 16 = .ok (.ishr, 1) := by decide +kernel
theorem dX8_leastTaken_17 : decode cX8_leastTaken 17 = .ok (.iconst 1, 1) := by decide +kernel
theorem dX8_leastTaken_18 : decode cX8_leastTaken 18 = .ok (.iand, 1) := by decide +kernel
theorem dX8_leastTaken_19 : decode cX8_leastTaken 19 = .ok (.ifCond .ne 7, 3) := by decide +kernel
theorem dX8_leastTaken_22 : decode cX8_leastTaken 22 = .ok (.iconst 1, 1) := by decide +kernel
theorem dX8_leastTaken_23 : decode cX8_leastTaken 23 = .ok (.goto 4, 3) := by decide +kernel
theorem dX8_leastTaken_26 : decode cX8_leastTaken 26 = .ok (.iconst 0, 1) := by decide +kernel
theorem dX8_leastTaken_27 : decode cX8_leastTaken 27 = .ok (.istore 6, 2) := by decide +kernel
theorem dX8_leastTaken_29 : decode cX8_leastTaken 29 = .ok (.iload 6, 2) := by decide +kernel
theorem dX8_leastTaken_31 : decode cX8_leastTaken 31 = .ok (.ifCond .eq 43, 3) := by decide +kernel
theorem dX8_leastTaken_34 : decode cX8_leastTaken 34 = .ok (.aload_n 0, 1) := by decide +kernel
theorem dX8_leastTaken_35 : decode cX8_leastTaken 35 = .ok (.aload_n 2, 1) := by decide +kernel
theorem dX8_leastTaken_36 : decode cX8_leastTaken 36 = .ok (.iload_n 3, 1) := by decide +kernel
theorem dX8_leastTaken_37 : decode cX8_leastTaken 37 = .ok (.iload 5, 2) := by decide +kernel
theorem dX8_leastTaken_39 : decode cX8_leastTaken 39 = .ok (.invokevirtual 53, 3) := by decide +kernel
theorem dX8_leastTaken_42 : decode cX8_leastTaken 42 = .ok (.aload_n 0, 1) := by decide +kernel
theorem dX8_leastTaken_43 : decode cX8_leastTaken 43 = .ok (.getfield 17, 3) := by decide +kernel
theorem dX8_leastTaken_46 : decode cX8_leastTaken 46 = .ok (.iload_n 3, 1) := by decide +kernel
theorem dX8_leastTaken_47 : decode cX8_leastTaken 47 = .ok (.iconst 1, 1) := by decide +kernel
theorem dX8_leastTaken_48 : decode cX8_leastTaken 48 = .ok (.iadd, 1) := by decide +kernel
theorem dX8_leastTaken_49 : decode cX8_leastTaken 49 = .ok (.aaload, 1) := by decide +kernel
theorem dX8_leastTaken_50 : decode cX8_leastTaken 50 = .ok (.iload 4, 2) := by decide +kernel
theorem dX8_leastTaken_52 : decode cX8_leastTaken 52 = .ok (.iconst 1, 1) := by decide +kernel
theorem dX8_leastTaken_53 : decode cX8_leastTaken 53 = .ok (.iload 5, 2) := by decide +kernel
theorem dX8_leastTaken_55 : decode cX8_leastTaken 55 = .ok (.ishl, 1) := by decide +kernel
theorem dX8_leastTaken_56 : decode cX8_leastTaken 56 = .ok (.ior, 1) := by decide +kernel
theorem dX8_leastTaken_57 : decode cX8_leastTaken 57 = .ok (.iaload, 1) := by decide +kernel
theorem dX8_leastTaken_58 : decode cX8_leastTaken 58 = .ok (.iadd, 1) := by decide +kernel
theorem dX8_leastTaken_59 : decode cX8_leastTaken 59 = .ok (.aload_n 0, 1) := by decide +kernel
theorem dX8_leastTaken_60 : decode cX8_leastTaken 60 = .ok (.getfield 17, 3) := by decide +kernel
theorem dX8_leastTaken_63 : decode cX8_leastTaken 63 = .ok (.iload_n 3, 1) := by decide +kernel
theorem dX8_leastTaken_64 : decode cX8_leastTaken 64 = .ok (.aaload, 1) := by decide +kernel
theorem dX8_leastTaken_65 : decode cX8_leastTaken 65 = .ok (.iload 4, 2) := by decide +kernel
theorem dX8_leastTaken_67 : decode cX8_leastTaken 67 = .ok (.iaload, 1) := by decide +kernel
theorem dX8_leastTaken_68 : decode cX8_leastTaken 68 = .ok (.if_icmp .ne 6, 3) := by decide +kernel
theorem dX8_leastTaken_71 : decode cX8_leastTaken 71 = .ok (.iload 5, 2) := by decide +kernel
theorem dX8_leastTaken_73 : decode cX8_leastTaken 73 = .ok (.ireturn, 1) := by decide +kernel
theorem dX8_leastTaken_74 : decode cX8_leastTaken 74 = .ok (.iinc 5 1, 3) := by decide +kernel
theorem dX8_leastTaken_77 : decode cX8_leastTaken 77 = .ok (.goto (-74), 3) := by decide +kernel
theorem dX8_leastTaken_80 : decode cX8_leastTaken 80 = .ok (.iconst (-1), 1) := by decide +kernel
theorem dX8_leastTaken_81 : decode cX8_leastTaken 81 = .ok (.ireturn, 1) := by decide +kernel
theorem dX9_init_0 : decode cX9_init 0 = .ok (.aload_n 0, 1) := by decide +kernel
theorem dX9_init_1 : decode cX9_init 1 = .ok (.invokespecial 1, 3) := by decide +kernel
theorem dX9_init_4 : decode cX9_init 4 = .ok (.aload_n 0, 1) := by decide +kernel
theorem dX9_init_5 : decode cX9_init 5 = .ok (.new 7, 3) := by decide +kernel
theorem dX9_init_8 : decode cX9_init 8 = .ok (.dup, 1) := by decide +kernel
theorem dX9_init_9 : decode cX9_init 9 = .ok (.invokespecial 9, 3) := by decide +kernel
theorem dX9_init_12 : decode cX9_init 12 = .ok (.putfield 10, 3) := by decide +kernel
theorem dX9_init_15 : decode cX9_init 15 = .ok (.aload_n 0, 1) := by decide +kernel
theorem dX9_init_16 : decode cX9_init 16 = .ok (.new 16, 3) := by decide +kernel
theorem dX9_init_19 : decode cX9_init 19 = .ok (.dup, 1) := by decide +kernel
theorem dX9_init_20 : decode cX9_init 20 = .ok (.invokespecial 18, 3) := by decide +kernel
theorem dX9_init_23 : decode cX9_init 23 = .ok (.putfield 19, 3) := by decide +kernel
theorem dX9_init_26 : decode cX9_init 26 = .ok (.aload_n 0, 1) := by decide +kernel
theorem dX9_init_27 : decode cX9_init 27 = .ok (.new 23, 3) := by decide +kernel
theorem dX9_init_30 : decode cX9_init 30 = .ok (.dup, 1) := by decide +kernel
theorem dX9_init_31 : decode cX9_init 31 = .ok (.invokespecial 25, 3) := by decide +kernel
theorem dX9_init_34 : decode cX9_init 34 = .ok (.putfield 26, 3) := by decide +kernel
theorem dX9_init_37 : decode cX9_init 37 = .ok (.aload_n 0, 1) := by decide +kernel
theorem dX9_init_38 : decode cX9_init 38 = .ok (.new 30, 3) := by decide +kernel
theorem dX9_init_41 : decode cX9_init 41 = .ok (.dup, 1) := by decide +kernel
theorem dX9_init_42 : decode cX9_init 42 = .ok (.invokespecial 32, 3) := by decide +kernel
theorem dX9_init_45 : decode cX9_init 45 = .ok (.putfield 33, 3) := by decide +kernel
theorem dX9_init_48 : decode cX9_init 48 = .ok (.aload_n 0, 1) := by decide +kernel
theorem dX9_init_49 : decode cX9_init 49 = .ok (.iconst 2, 1) := by decide +kernel
theorem dX9_init_50 : decode cX9_init 50 = .ok (.anewarray 37, 3) := by decide +kernel
theorem dX9_init_53 : decode cX9_init 53 = .ok (.putfield 39, 3) := by decide +kernel
theorem dX9_init_56 : decode cX9_init 56 = .ok (.aload_n 0, 1) := by decide +kernel
theorem dX9_init_57 : decode cX9_init 57 = .ok (.new 43, 3) := by decide +kernel
theorem dX9_init_60 : decode cX9_init 60 = .ok (.dup, 1) := by decide +kernel
theorem dX9_init_61 : decode cX9_init 61 = .ok (.invokespecial 45, 3) := by decide +kernel
theorem dX9_init_64 : decode cX9_init 64 = .ok (.putfield 46, 3) := by decide +kernel
theorem dX9_init_67 : decode cX9_init 67 = .ok (.aload_n 0, 1) := by decide +kernel
theorem dX9_init_68 : decode cX9_init 68 = .ok (.new 50, 3) := by decide +kernel
theorem dX9_init_71 : decode cX9_init 71 = .ok (.dup, 1) := by decide +kernel
theorem dX9_init_72 : decode cX9_init 72 = .ok (.invokespecial 52, 3) := by decide +kernel
theorem dX9_init_75 : decode cX9_init 75 = .ok (.putfield 53, 3) := by decide +kernel
theorem dX9_init_78 : decode cX9_init 78 = .ok (.aload_n 0, 1) := by decide +kernel
theorem dX9_init_79 : decode cX9_init 79 = .ok (.new 57, 3) := by decide +kernel
theorem dX9_init_82 : decode cX9_init 82 = .ok (.dup, 1) := by decide +kernel
theorem dX9_init_83 : decode cX9_init 83 = .ok (.invokespecial 59, 3) := by decide +kernel
theorem dX9_init_86 : decode cX9_init 86 = .ok (.putfield 60, 3) := by decide +kernel
theorem dX9_init_89 : decode cX9_init 89 = .ok (.aload_n 0, 1) := by decide +kernel
theorem dX9_init_90 : decode cX9_init 90 = .ok (.new 57, 3) := by decide +kernel
theorem dX9_init_93 : decode cX9_init 93 = .ok (.dup, 1) := by decide +kernel
theorem dX9_init_94 : decode cX9_init 94 = .ok (.invokespecial 59, 3) := by decide +kernel
theorem dX9_init_97 : decode cX9_init 97 = .ok (.putfield 64, 3) := by decide +kernel
theorem dX9_init_100 : decode cX9_init 100 = .ok (.iconst 0, 1) := by decide +kernel
theorem dX9_init_101 : decode cX9_init 101 = .ok (.istore_n 1, 1) := by decide +kernel
theorem dX9_init_102 : decode cX9_init 102 = .ok (.iload_n 1, 1) := by decide +kernel
theorem dX9_init_103 : decode cX9_init 103 = .ok (.iconst 2, 1) := by decide +kernel
theorem dX9_init_104 : decode cX9_init 104 = .ok (.if_icmp .ge 22, 3) := by decide +kernel
theorem dX9_init_107 : decode cX9_init 107 = .ok (.aload_n 0, 1) := by decide +kernel
theorem dX9_init_108 : decode cX9_init 108 = .ok (.getfield 39, 3) := by decide +kernel
theorem dX9_init_111 : decode cX9_init 111 = .ok (.iload_n 1, 1) := by decide +kernel
theorem dX9_init_112 : decode cX9_init 112 = .ok (.new 37, 3) := by decide +kernel
theorem dX9_init_115 : decode cX9_init 115 = .ok (.dup, 1) := by decide +kernel
theorem dX9_init_116 : decode cX9_init 116 = .ok (.invokespecial 67, 3) := by decide +kernel
theorem dX9_init_119 : decode cX9_init 119 = .ok (.aastore, 1) := by decide +kernel
theorem dX9_init_120 : decode cX9_init 120 = .ok (.iinc 1 1, 3) := by decide +kernel
theorem dX9_init_123 : decode cX9_init 123 = .ok (.goto (-21), 3) := by decide +kernel
theorem dX9_init_126 : decode cX9_init 126 = .ok (.return_, 1) := by decide +kernel
theorem dX9_feed_0 : decode cX9_feed 0 = .ok (.iload_n 1, 1) := by decide +kernel
theorem dX9_feed_1 : decode cX9_feed 1 = .ok (.ifCond .lt 10, 3) := by decide +kernel
theorem dX9_feed_4 : decode cX9_feed 4 = .ok (.iload_n 1, 1) := by decide +kernel
theorem dX9_feed_5 : decode cX9_feed 5 = .ok (.sipush 255, 3) := by decide +kernel
theorem dX9_feed_8 : decode cX9_feed 8 = .ok (.if_icmp .le 6, 3) := by decide +kernel
theorem dX9_feed_11 : decode cX9_feed 11 = .ok (.ldc 68, 2) := by decide +kernel
theorem dX9_feed_13 : decode cX9_feed 13 = .ok (.ireturn, 1) := by decide +kernel
theorem dX9_feed_14 : decode cX9_feed 14 = .ok (.aload_n 0, 1) := by decide +kernel
theorem dX9_feed_15 : decode cX9_feed 15 = .ok (.getfield 10, 3) := by decide +kernel
theorem dX9_feed_18 : decode cX9_feed 18 = .ok (.getfield 69, 3) := by decide +kernel
theorem dX9_feed_21 : decode cX9_feed 21 = .ok (.sipush 240, 3) := by decide +kernel
theorem dX9_feed_24 : decode cX9_feed 24 = .ok (.if_icmp .lt 6, 3) := by decide +kernel
theorem dX9_feed_27 : decode cX9_feed 27 = .ok (.ldc 73, 2) := by decide +kernel
theorem dX9_feed_29 : decode cX9_feed 29 = .ok (.ireturn, 1) := by decide +kernel
theorem dX9_feed_30 : decode cX9_feed 30 = .ok (.aload_n 0, 1) := by decide +kernel
theorem dX9_feed_31 : decode cX9_feed 31 = .ok (.getfield 10, 3) := by decide +kernel
theorem dX9_feed_34 : decode cX9_feed 34 = .ok (.getfield 74, 3) := by decide +kernel
theorem dX9_feed_37 : decode cX9_feed 37 = .ok (.aload_n 0, 1) := by decide +kernel
theorem dX9_feed_38 : decode cX9_feed 38 = .ok (.getfield 10, 3) := by decide +kernel
theorem dX9_feed_41 : decode cX9_feed 41 = .ok (.getfield 69, 3) := by decide +kernel
theorem dX9_feed_44 : decode cX9_feed 44 = .ok (.iload_n 1, 1) := by decide +kernel
theorem dX9_feed_45 : decode cX9_feed 45 = .ok (.iastore, 1) := by decide +kernel
theorem dX9_feed_46 : decode cX9_feed 46 = .ok (.aload_n 0, 1) := by decide +kernel
theorem dX9_feed_47 : decode cX9_feed 47 = .ok (.getfield 10, 3) := by decide +kernel
theorem dX9_feed_50 : decode cX9_feed 50 = .ok (.dup, 1) := by decide +kernel
theorem dX9_feed_51 : decode cX9_feed 51 = .ok (.getfield 69, 3) := by decide +kernel
theorem dX9_feed_54 : decode cX9_feed 54 = .ok (.iconst 1, 1) := by decide +kernel
theorem dX9_feed_55 : decode cX9_feed 55 = .ok (.iadd, 1) := by decide +kernel
theorem dX9_feed_56 : decode cX9_feed 56 = .ok (.putfield 69, 3) := by decide +kernel
theorem dX9_feed_59 : decode cX9_feed 59 = .ok (.aload_n 0, 1) := by decide +kernel
theorem dX9_feed_60 : decode cX9_feed 60 = .ok (.getfield 10, 3) := by decide +kernel
theorem dX9_feed_63 : decode cX9_feed 63 = .ok (.getfield 69, 3) := by decide +kernel
theorem dX9_feed_66 : decode cX9_feed 66 = .ok (.ireturn, 1) := by decide +kernel
theorem dX9_congress_0 : decode cX9_congress 0 = .ok (.aload_n 0, 1) := by decide +kernel
theorem dX9_congress_1 : decode cX9_congress 1 = .ok (.getfield 10, 3) := by decide +kernel
theorem dX9_congress_4 : decode cX9_congress 4 = .ok (.aload_n 0, 1) := by decide +kernel
theorem dX9_congress_5 : decode cX9_congress 5 = .ok (.getfield 64, 3) := by decide +kernel
theorem dX9_congress_8 : decode cX9_congress 8 = .ok (.invokevirtual 78, 3) := by decide +kernel
theorem dX9_congress_11 : decode cX9_congress 11 = .ok (.ifCond .ne 14, 3) := by decide +kernel
theorem dX9_congress_14 : decode cX9_congress 14 = .ok (.bipush (-10), 2) := by decide +kernel
theorem dX9_congress_16 : decode cX9_congress 16 = .ok (.aload_n 0, 1) := by decide +kernel
theorem dX9_congress_17 : decode cX9_congress 17 = .ok (.getfield 10, 3) := by decide +kernel
theorem dX9_congress_20 : decode cX9_congress 20 = .ok (.getfield 82, 3) := by decide +kernel
theorem dX9_congress_23 : decode cX9_congress 23 = .ok (.isub, 1) := by decide +kernel
theorem dX9_congress_24 : decode cX9_congress 24 = .ok (.ireturn, 1) := by decide +kernel
theorem dX9_congress_25 : decode cX9_congress 25 = .ok (.aload_n 0, 1) := by decide +kernel
theorem dX9_congress_26 : decode cX9_congress 26 = .ok (.getfield 60, 3) := by decide +kernel
theorem dX9_congress_29 : decode cX9_congress 29 = .ok (.astore_n 1, 1) := by decide +kernel
theorem dX9_congress_30 : decode cX9_congress 30 = .ok (.aload_n 0, 1) := by decide +kernel
theorem dX9_congress_31 : decode cX9_congress 31 = .ok (.aload_n 0, 1) := by decide +kernel
theorem dX9_congress_32 : decode cX9_congress 32 = .ok (.getfield 64, 3) := by decide +kernel
theorem dX9_congress_35 : decode cX9_congress 35 = .ok (.putfield 60, 3) := by decide +kernel
theorem dX9_congress_38 : decode cX9_congress 38 = .ok (.aload_n 0, 1) := by decide +kernel
theorem dX9_congress_39 : decode cX9_congress 39 = .ok (.aload_n 1, 1) := by decide +kernel
theorem dX9_congress_40 : decode cX9_congress 40 = .ok (.putfield 64, 3) := by decide +kernel
theorem dX9_congress_43 : decode cX9_congress 43 = .ok (.aload_n 0, 1) := by decide +kernel
theorem dX9_congress_44 : decode cX9_congress 44 = .ok (.getfield 19, 3) := by decide +kernel
theorem dX9_congress_47 : decode cX9_congress 47 = .ok (.aload_n 0, 1) := by decide +kernel
theorem dX9_congress_48 : decode cX9_congress 48 = .ok (.getfield 60, 3) := by decide +kernel
theorem dX9_congress_51 : decode cX9_congress 51 = .ok (.invokevirtual 85, 3) := by decide +kernel
theorem dX9_congress_54 : decode cX9_congress 54 = .ok (.aload_n 0, 1) := by decide +kernel
theorem dX9_congress_55 : decode cX9_congress 55 = .ok (.getfield 26, 3) := by decide +kernel
theorem dX9_congress_58 : decode cX9_congress 58 = .ok (.invokevirtual 89, 3) := by decide +kernel
theorem dX9_congress_61 : decode cX9_congress 61 = .ok (.aload_n 0, 1) := by decide +kernel
theorem dX9_congress_62 : decode cX9_congress 62 = .ok (.getfield 33, 3) := by decide +kernel
theorem dX9_congress_65 : decode cX9_congress 65 = .ok (.iconst 0, 1) := by decide +kernel
theorem dX9_congress_66 : decode cX9_congress 66 = .ok (.putfield 92, 3) := by decide +kernel
theorem dX9_congress_69 : decode cX9_congress 69 = .ok (.iconst 0, 1) := by decide +kernel
theorem dX9_congress_70 : decode cX9_congress 70 = .ok (.istore_n 2, 1) := by decide +kernel
theorem dX9_congress_71 : decode cX9_congress 71 = .ok (.iload_n 2, 1) := by decide +kernel
theorem dX9_congress_72 : decode cX9_congress 72 = .ok (.iconst 2, 1) := by decide +kernel
theorem dX9_congress_73 : decode cX9_congress 73 = .ok (.if_icmp .ge 19, 3) := by decide +kernel
theorem dX9_congress_76 : decode cX9_congress 76 = .ok (.aload_n 0, 1) := by decide +kernel
theorem dX9_congress_77 : decode cX9_congress 77 = .ok (.getfield 39, 3) := by decide +kernel
theorem dX9_congress_80 : decode cX9_congress 80 = .ok (.iload_n 2, 1) := by decide +kernel
theorem dX9_congress_81 : decode cX9_congress 81 = .ok (.aaload, 1) := by decide +kernel
theorem dX9_congress_82 : decode cX9_congress 82 = .ok (.iconst 0, 1) := by decide +kernel
theorem dX9_congress_83 : decode cX9_congress 83 = .ok (.putfield 93, 3) := by decide +kernel
theorem dX9_congress_86 : decode cX9_congress 86 = .ok (.iinc 2 1, 3) := by decide +kernel
theorem dX9_congress_89 : decode cX9_congress 89 = .ok (.goto (-18), 3) := by decide +kernel
theorem dX9_congress_92 : decode cX9_congress 92 = .ok (.aload_n 0, 1) := by decide +kernel
theorem dX9_congress_93 : decode cX9_congress 93 = .ok (.getfield 60, 3) := by decide +kernel
theorem dX9_congress_96 : decode cX9_congress 96 = .ok (.getfield 97, 3) := by decide +kernel
theorem dX9_congress_99 : decode cX9_congress 99 = .ok (.ireturn, 1) := by decide +kernel
theorem dX9_fault_0 : decode cX9_fault 0 = .ok (.aload_n 0, 1) := by decide +kernel
theorem dX9_fault_1 : decode cX9_fault 1 = .ok (.getfield 10, 3) := by decide +kernel
theorem dX9_fault_4 : decode cX9_fault 4 = .ok (.getfield 100, 3) := by decide +kernel
theorem dX9_fault_7 : decode cX9_fault 7 = .ok (.ireturn, 1) := by decide +kernel
theorem dX9_told_0 : decode cX9_told 0 = .ok (.iload_n 1, 1) := by decide +kernel
theorem dX9_told_1 : decode cX9_told 1 = .ok (.tableswitch 258 0 16 #[83, 91, 99, 107, 115, 123, 131, 139, 151, 164, 176, 184, 192, 204, 223, 242, 250], 83) := by decide +kernel
theorem dX9_told_84 : decode cX9_told 84 = .ok (.aload_n 0, 1) := by decide +kernel
theorem dX9_told_85 : decode cX9_told 85 = .ok (.getfield 60, 3) := by decide +kernel
theorem dX9_told_88 : decode cX9_told 88 = .ok (.getfield 103, 3) := by decide +kernel
theorem dX9_told_91 : decode cX9_told 91 = .ok (.ireturn, 1) := by decide +kernel
theorem dX9_told_92 : decode cX9_told 92 = .ok (.aload_n 0, 1) := by decide +kernel
theorem dX9_told_93 : decode cX9_told 93 = .ok (.getfield 60, 3) := by decide +kernel
theorem dX9_told_96 : decode cX9_told 96 = .ok (.getfield 97, 3) := by decide +kernel
theorem dX9_told_99 : decode cX9_told 99 = .ok (.ireturn, 1) := by decide +kernel
theorem dX9_told_100 : decode cX9_told 100 = .ok (.aload_n 0, 1) := by decide +kernel
theorem dX9_told_101 : decode cX9_told 101 = .ok (.getfield 10, 3) := by decide +kernel
theorem dX9_told_104 : decode cX9_told 104 = .ok (.getfield 69, 3) := by decide +kernel
theorem dX9_told_107 : decode cX9_told 107 = .ok (.ireturn, 1) := by decide +kernel
theorem dX9_told_108 : decode cX9_told 108 = .ok (.aload_n 0, 1) := by decide +kernel
theorem dX9_told_109 : decode cX9_told 109 = .ok (.getfield 60, 3) := by decide +kernel
theorem dX9_told_112 : decode cX9_told 112 = .ok (.getfield 106, 3) := by decide +kernel
theorem dX9_told_115 : decode cX9_told 115 = .ok (.ireturn, 1) := by decide +kernel
theorem dX9_told_116 : decode cX9_told 116 = .ok (.aload_n 0, 1) := by decide +kernel
theorem dX9_told_117 : decode cX9_told 117 = .ok (.getfield 60, 3) := by decide +kernel
theorem dX9_told_120 : decode cX9_told 120 = .ok (.getfield 109, 3) := by decide +kernel
theorem dX9_told_123 : decode cX9_told 123 = .ok (.ireturn, 1) := by decide +kernel
theorem dX9_told_124 : decode cX9_told 124 = .ok (.aload_n 0, 1) := by decide +kernel
theorem dX9_told_125 : decode cX9_told 125 = .ok (.getfield 19, 3) := by decide +kernel
theorem dX9_told_128 : decode cX9_told 128 = .ok (.getfield 112, 3) := by decide +kernel
theorem dX9_told_131 : decode cX9_told 131 = .ok (.ireturn, 1) := by decide +kernel
theorem dX9_told_132 : decode cX9_told 132 = .ok (.aload_n 0, 1) := by decide +kernel
theorem dX9_told_133 : decode cX9_told 133 = .ok (.getfield 19, 3) := by decide +kernel
theorem dX9_told_136 : decode cX9_told 136 = .ok (.getfield 115, 3) := by decide +kernel
theorem dX9_told_139 : decode cX9_told 139 = .ok (.ireturn, 1) := by decide +kernel
theorem dX9_told_140 : decode cX9_told 140 = .ok (.aload_n 0, 1) := by decide +kernel
theorem dX9_told_141 : decode cX9_told 141 = .ok (.getfield 19, 3) := by decide +kernel
theorem dX9_told_144 : decode cX9_told 144 = .ok (.aload_n 0, 1) := by decide +kernel
theorem dX9_told_145 : decode cX9_told 145 = .ok (.getfield 60, 3) := by decide +kernel
theorem dX9_told_148 : decode cX9_told 148 = .ok (.invokevirtual 118, 3) := by decide +kernel
theorem dX9_told_151 : decode cX9_told 151 = .ok (.ireturn, 1) := by decide +kernel
theorem dX9_told_152 : decode cX9_told 152 = .ok (.aload_n 0, 1) := by decide +kernel
theorem dX9_told_153 : decode cX9_told 153 = .ok (.getfield 60, 3) := by decide +kernel
theorem dX9_told_156 : decode cX9_told 156 = .ok (.aload_n 0, 1) := by decide +kernel
theorem dX9_told_157 : decode cX9_told 157 = .ok (.getfield 19, 3) := by decide +kernel
theorem dX9_told_160 : decode cX9_told 160 = .ok (.iconst 0, 1) := by decide +kernel
theorem dX9_told_161 : decode cX9_told 161 = .ok (.invokestatic 122, 3) := by decide +kernel
theorem dX9_told_164 : decode cX9_told 164 = .ok (.ireturn, 1) := by decide +kernel
theorem dX9_told_165 : decode cX9_told 165 = .ok (.aload_n 0, 1) := by decide +kernel
theorem dX9_told_166 : decode cX9_told 166 = .ok (.getfield 19, 3) := by decide +kernel
theorem dX9_told_169 : decode cX9_told 169 = .ok (.aload_n 0, 1) := by decide +kernel
theorem dX9_told_170 : decode cX9_told 170 = .ok (.getfield 60, 3) := by decide +kernel
theorem dX9_told_173 : decode cX9_told 173 = .ok (.invokevirtual 128, 3) := by decide +kernel
theorem dX9_told_176 : decode cX9_told 176 = .ok (.ireturn, 1) := by decide +kernel
theorem dX9_told_177 : decode cX9_told 177 = .ok (.aload_n 0, 1) := by decide +kernel
theorem dX9_told_178 : decode cX9_told 178 = .ok (.getfield 19, 3) := by decide +kernel
theorem dX9_told_181 : decode cX9_told 181 = .ok (.getfield 131, 3) := by decide +kernel
theorem dX9_told_184 : decode cX9_told 184 = .ok (.ireturn, 1) := by decide +kernel
theorem dX9_told_185 : decode cX9_told 185 = .ok (.aload_n 0, 1) := by decide +kernel
theorem dX9_told_186 : decode cX9_told 186 = .ok (.getfield 19, 3) := by decide +kernel
theorem dX9_told_189 : decode cX9_told 189 = .ok (.getfield 134, 3) := by decide +kernel
theorem dX9_told_192 : decode cX9_told 192 = .ok (.ireturn, 1) := by decide +kernel
theorem dX9_told_193 : decode cX9_told 193 = .ok (.aload_n 0, 1) := by decide +kernel
theorem dX9_told_194 : decode cX9_told 194 = .ok (.getfield 60, 3) := by decide +kernel
theorem dX9_told_197 : decode cX9_told 197 = .ok (.aload_n 0, 1) := by decide +kernel
theorem dX9_told_198 : decode cX9_told 198 = .ok (.getfield 19, 3) := by decide +kernel
theorem dX9_told_201 : decode cX9_told 201 = .ok (.invokestatic 137, 3) := by decide +kernel
theorem dX9_told_204 : decode cX9_told 204 = .ok (.ireturn, 1) := by decide +kernel
theorem dX9_told_205 : decode cX9_told 205 = .ok (.aload_n 0, 1) := by decide +kernel
theorem dX9_told_206 : decode cX9_told 206 = .ok (.invokevirtual 141, 3) := by decide +kernel
theorem dX9_told_209 : decode cX9_told 209 = .ok (.ifCond .eq 13, 3) := by decide +kernel
theorem dX9_told_212 : decode cX9_told 212 = .ok (.aload_n 0, 1) := by decide +kernel
theorem dX9_told_213 : decode cX9_told 213 = .ok (.getfield 60, 3) := by decide +kernel
theorem dX9_told_216 : decode cX9_told 216 = .ok (.invokevirtual 145, 3) := by decide +kernel
theorem dX9_told_219 : decode cX9_told 219 = .ok (.goto 4, 3) := by decide +kernel
theorem dX9_told_222 : decode cX9_told 222 = .ok (.iconst (-1), 1) := by decide +kernel
theorem dX9_told_223 : decode cX9_told 223 = .ok (.ireturn, 1) := by decide +kernel
theorem dX9_told_224 : decode cX9_told 224 = .ok (.aload_n 0, 1) := by decide +kernel
theorem dX9_told_225 : decode cX9_told 225 = .ok (.invokevirtual 141, 3) := by decide +kernel
theorem dX9_told_228 : decode cX9_told 228 = .ok (.ifCond .eq 13, 3) := by decide +kernel
theorem dX9_told_231 : decode cX9_told 231 = .ok (.aload_n 0, 1) := by decide +kernel
theorem dX9_told_232 : decode cX9_told 232 = .ok (.getfield 60, 3) := by decide +kernel
theorem dX9_told_235 : decode cX9_told 235 = .ok (.invokevirtual 149, 3) := by decide +kernel
theorem dX9_told_238 : decode cX9_told 238 = .ok (.goto 4, 3) := by decide +kernel
theorem dX9_told_241 : decode cX9_told 241 = .ok (.iconst (-1), 1) := by decide +kernel
theorem dX9_told_242 : decode cX9_told 242 = .ok (.ireturn, 1) := by decide +kernel
theorem dX9_told_243 : decode cX9_told 243 = .ok (.aload_n 0, 1) := by decide +kernel
theorem dX9_told_244 : decode cX9_told 244 = .ok (.getfield 33, 3) := by decide +kernel
theorem dX9_told_247 : decode cX9_told 247 = .ok (.getfield 92, 3) := by decide +kernel
theorem dX9_told_250 : decode cX9_told 250 = .ok (.ireturn, 1) := by decide +kernel
theorem dX9_told_251 : decode cX9_told 251 = .ok (.aload_n 0, 1) := by decide +kernel
theorem dX9_told_252 : decode cX9_told 252 = .ok (.getfield 26, 3) := by decide +kernel
theorem dX9_told_255 : decode cX9_told 255 = .ok (.getfield 152, 3) := by decide +kernel
theorem dX9_told_258 : decode cX9_told 258 = .ok (.ireturn, 1) := by decide +kernel
theorem dX9_told_259 : decode cX9_told 259 = .ok (.ldc 68, 2) := by decide +kernel
theorem dX9_told_261 : decode cX9_told 261 = .ok (.ireturn, 1) := by decide +kernel
theorem dX9_doll_0 : decode cX9_doll 0 = .ok (.aload_n 0, 1) := by decide +kernel
theorem dX9_doll_1 : decode cX9_doll 1 = .ok (.getfield 60, 3) := by decide +kernel
theorem dX9_doll_4 : decode cX9_doll 4 = .ok (.iload_n 1, 1) := by decide +kernel
theorem dX9_doll_5 : decode cX9_doll 5 = .ok (.invokevirtual 153, 3) := by decide +kernel
theorem dX9_doll_8 : decode cX9_doll 8 = .ok (.ifCond .ne 6, 3) := by decide +kernel
theorem dX9_doll_11 : decode cX9_doll 11 = .ok (.ldc 157, 2) := by decide +kernel
theorem dX9_doll_13 : decode cX9_doll 13 = .ok (.ireturn, 1) := by decide +kernel
theorem dX9_doll_14 : decode cX9_doll 14 = .ok (.iload_n 2, 1) := by decide +kernel
theorem dX9_doll_15 : decode cX9_doll 15 = .ok (.tableswitch 118 0 6 #[41, 51, 61, 71, 81, 91, 108], 41) := by decide +kernel
theorem dX9_doll_56 : decode cX9_doll 56 = .ok (.aload_n 0, 1) := by decide +kernel
theorem dX9_doll_57 : decode cX9_doll 57 = .ok (.getfield 60, 3) := by decide +kernel
theorem dX9_doll_60 : decode cX9_doll 60 = .ok (.getfield 158, 3) := by decide +kernel
theorem dX9_doll_63 : decode cX9_doll 63 = .ok (.iload_n 1, 1) := by decide +kernel
theorem dX9_doll_64 : decode cX9_doll 64 = .ok (.iaload, 1) := by decide +kernel
theorem dX9_doll_65 : decode cX9_doll 65 = .ok (.ireturn, 1) := by decide +kernel
theorem dX9_doll_66 : decode cX9_doll 66 = .ok (.aload_n 0, 1) := by decide +kernel
theorem dX9_doll_67 : decode cX9_doll 67 = .ok (.getfield 60, 3) := by decide +kernel
theorem dX9_doll_70 : decode cX9_doll 70 = .ok (.getfield 161, 3) := by decide +kernel
theorem dX9_doll_73 : decode cX9_doll 73 = .ok (.iload_n 1, 1) := by decide +kernel
theorem dX9_doll_74 : decode cX9_doll 74 = .ok (.iaload, 1) := by decide +kernel
theorem dX9_doll_75 : decode cX9_doll 75 = .ok (.ireturn, 1) := by decide +kernel
theorem dX9_doll_76 : decode cX9_doll 76 = .ok (.aload_n 0, 1) := by decide +kernel
theorem dX9_doll_77 : decode cX9_doll 77 = .ok (.getfield 19, 3) := by decide +kernel
theorem dX9_doll_80 : decode cX9_doll 80 = .ok (.getfield 164, 3) := by decide +kernel
theorem dX9_doll_83 : decode cX9_doll 83 = .ok (.iload_n 1, 1) := by decide +kernel
theorem dX9_doll_84 : decode cX9_doll 84 = .ok (.iaload, 1) := by decide +kernel
theorem dX9_doll_85 : decode cX9_doll 85 = .ok (.ireturn, 1) := by decide +kernel
theorem dX9_doll_86 : decode cX9_doll 86 = .ok (.aload_n 0, 1) := by decide +kernel
theorem dX9_doll_87 : decode cX9_doll 87 = .ok (.getfield 19, 3) := by decide +kernel
theorem dX9_doll_90 : decode cX9_doll 90 = .ok (.getfield 167, 3) := by decide +kernel
theorem dX9_doll_93 : decode cX9_doll 93 = .ok (.iload_n 1, 1) := by decide +kernel
theorem dX9_doll_94 : decode cX9_doll 94 = .ok (.iaload, 1) := by decide +kernel
theorem dX9_doll_95 : decode cX9_doll 95 = .ok (.ireturn, 1) := by decide +kernel
theorem dX9_doll_96 : decode cX9_doll 96 = .ok (.aload_n 0, 1) := by decide +kernel
theorem dX9_doll_97 : decode cX9_doll 97 = .ok (.getfield 19, 3) := by decide +kernel
theorem dX9_doll_100 : decode cX9_doll 100 = .ok (.getfield 170, 3) := by decide +kernel
theorem dX9_doll_103 : decode cX9_doll 103 = .ok (.iload_n 1, 1) := by decide +kernel
theorem dX9_doll_104 : decode cX9_doll 104 = .ok (.iaload, 1) := by decide +kernel
theorem dX9_doll_105 : decode cX9_doll 105 = .ok (.ireturn, 1) := by decide +kernel
theorem dX9_doll_106 : decode cX9_doll 106 = .ok (.aload_n 0, 1) := by decide +kernel
theorem dX9_doll_107 : decode cX9_doll 107 = .ok (.getfield 19, 3) := by decide +kernel
theorem dX9_doll_110 : decode cX9_doll 110 = .ok (.iload_n 1, 1) := by decide +kernel
theorem dX9_doll_111 : decode cX9_doll 111 = .ok (.invokevirtual 173, 3) := by decide +kernel
theorem dX9_doll_114 : decode cX9_doll 114 = .ok (.ifCond .eq 7, 3) := by decide +kernel
theorem dX9_doll_117 : decode cX9_doll 117 = .ok (.iconst 1, 1) := by decide +kernel
theorem dX9_doll_118 : decode cX9_doll 118 = .ok (.goto 4, 3) := by decide +kernel
theorem dX9_doll_121 : decode cX9_doll 121 = .ok (.iconst 0, 1) := by decide +kernel
theorem dX9_doll_122 : decode cX9_doll 122 = .ok (.ireturn, 1) := by decide +kernel
theorem dX9_doll_123 : decode cX9_doll 123 = .ok (.aload_n 0, 1) := by decide +kernel
theorem dX9_doll_124 : decode cX9_doll 124 = .ok (.getfield 19, 3) := by decide +kernel
theorem dX9_doll_127 : decode cX9_doll 127 = .ok (.getfield 176, 3) := by decide +kernel
theorem dX9_doll_130 : decode cX9_doll 130 = .ok (.iload_n 1, 1) := by decide +kernel
theorem dX9_doll_131 : decode cX9_doll 131 = .ok (.iaload, 1) := by decide +kernel
theorem dX9_doll_132 : decode cX9_doll 132 = .ok (.ireturn, 1) := by decide +kernel
theorem dX9_doll_133 : decode cX9_doll 133 = .ok (.ldc 68, 2) := by decide +kernel
theorem dX9_doll_135 : decode cX9_doll 135 = .ok (.ireturn, 1) := by decide +kernel
theorem dX9_court_0 : decode cX9_court 0 = .ok (.aload_n 0, 1) := by decide +kernel
theorem dX9_court_1 : decode cX9_court 1 = .ok (.getfield 60, 3) := by decide +kernel
theorem dX9_court_4 : decode cX9_court 4 = .ok (.iload_n 1, 1) := by decide +kernel
theorem dX9_court_5 : decode cX9_court 5 = .ok (.invokevirtual 179, 3) := by decide +kernel
theorem dX9_court_8 : decode cX9_court 8 = .ok (.ifCond .ne 6, 3) := by decide +kernel
theorem dX9_court_11 : decode cX9_court 11 = .ok (.ldc 157, 2) := by decide +kernel
theorem dX9_court_13 : decode cX9_court 13 = .ok (.ireturn, 1) := by decide +kernel
theorem dX9_court_14 : decode cX9_court 14 = .ok (.iload_n 2, 1) := by decide +kernel
theorem dX9_court_15 : decode cX9_court 15 = .ok (.tableswitch 94 0 4 #[33, 43, 56, 69, 85], 33) := by decide +kernel
theorem dX9_court_48 : decode cX9_court 48 = .ok (.aload_n 0, 1) := by decide +kernel
theorem dX9_court_49 : decode cX9_court 49 = .ok (.getfield 60, 3) := by decide +kernel
theorem dX9_court_52 : decode cX9_court 52 = .ok (.getfield 182, 3) := by decide +kernel
theorem dX9_court_55 : decode cX9_court 55 = .ok (.iload_n 1, 1) := by decide +kernel
theorem dX9_court_56 : decode cX9_court 56 = .ok (.iaload, 1) := by decide +kernel
theorem dX9_court_57 : decode cX9_court 57 = .ok (.ireturn, 1) := by decide +kernel
theorem dX9_court_58 : decode cX9_court 58 = .ok (.aload_n 0, 1) := by decide +kernel
theorem dX9_court_59 : decode cX9_court 59 = .ok (.aload_n 0, 1) := by decide +kernel
theorem dX9_court_60 : decode cX9_court 60 = .ok (.getfield 19, 3) := by decide +kernel
theorem dX9_court_63 : decode cX9_court 63 = .ok (.getfield 164, 3) := by decide +kernel
theorem dX9_court_66 : decode cX9_court 66 = .ok (.iload_n 1, 1) := by decide +kernel
theorem dX9_court_67 : decode cX9_court 67 = .ok (.invokevirtual 185, 3) := by decide +kernel
theorem dX9_court_70 : decode cX9_court 70 = .ok (.ireturn, 1) := by decide +kernel
theorem dX9_court_71 : decode cX9_court 71 = .ok (.aload_n 0, 1) := by decide +kernel
theorem dX9_court_72 : decode cX9_court 72 = .ok (.aload_n 0, 1) := by decide +kernel
theorem dX9_court_73 : decode cX9_court 73 = .ok (.getfield 60, 3) := by decide +kernel
theorem dX9_court_76 : decode cX9_court 76 = .ok (.getfield 161, 3) := by decide +kernel
theorem dX9_court_79 : decode cX9_court 79 = .ok (.iload_n 1, 1) := by decide +kernel
theorem dX9_court_80 : decode cX9_court 80 = .ok (.invokevirtual 185, 3) := by decide +kernel
theorem dX9_court_83 : decode cX9_court 83 = .ok (.ireturn, 1) := by decide +kernel
theorem dX9_court_84 : decode cX9_court 84 = .ok (.aload_n 0, 1) := by decide +kernel
theorem dX9_court_85 : decode cX9_court 85 = .ok (.getfield 19, 3) := by decide +kernel
theorem dX9_court_88 : decode cX9_court 88 = .ok (.aload_n 0, 1) := by decide +kernel
theorem dX9_court_89 : decode cX9_court 89 = .ok (.getfield 60, 3) := by decide +kernel
theorem dX9_court_92 : decode cX9_court 92 = .ok (.invokevirtual 128, 3) := by decide +kernel
theorem dX9_court_95 : decode cX9_court 95 = .ok (.iload_n 1, 1) := by decide +kernel
theorem dX9_court_96 : decode cX9_court 96 = .ok (.ishr, 1) := by decide +kernel
theorem dX9_court_97 : decode cX9_court 97 = .ok (.iconst 1, 1) := by decide +kernel
theorem dX9_court_98 : decode cX9_court 98 = .ok (.iand, 1) := by decide +kernel
theorem dX9_court_99 : decode cX9_court 99 = .ok (.ireturn, 1) := by decide +kernel
theorem dX9_court_100 : decode cX9_court 100 = .ok (.aload_n 0, 1) := by decide +kernel
theorem dX9_court_101 : decode cX9_court 101 = .ok (.getfield 60, 3) := by decide +kernel
theorem dX9_court_104 : decode cX9_court 104 = .ok (.iload_n 1, 1) := by decide +kernel
theorem dX9_court_105 : decode cX9_court 105 = .ok (.invokevirtual 189, 3) := by decide +kernel
theorem dX9_court_108 : decode cX9_court 108 = .ok (.ireturn, 1) := by decide +kernel
theorem dX9_court_109 : decode cX9_court 109 = .ok (.ldc 68, 2) := by decide +kernel
theorem dX9_court_111 : decode cX9_court 111 = .ok (.ireturn, 1) := by decide +kernel
theorem dX9_post_0 : decode cX9_post 0 = .ok (.aload_n 0, 1) := by decide +kernel
theorem dX9_post_1 : decode cX9_post 1 = .ok (.getfield 60, 3) := by decide +kernel
theorem dX9_post_4 : decode cX9_post 4 = .ok (.iload_n 1, 1) := by decide +kernel
theorem dX9_post_5 : decode cX9_post 5 = .ok (.invokevirtual 153, 3) := by decide +kernel
theorem dX9_post_8 : decode cX9_post 8 = .ok (.ifCond .eq 14, 3) := by decide +kernel
theorem dX9_post_11 : decode cX9_post 11 = .ok (.aload_n 0, 1) := by decide +kernel
theorem dX9_post_12 : decode cX9_post 12 = .ok (.getfield 60, 3) := by decide +kernel
theorem dX9_post_15 : decode cX9_post 15 = .ok (.iload_n 2, 1) := by decide +kernel
theorem dX9_post_16 : decode cX9_post 16 = .ok (.invokevirtual 179, 3) := by decide +kernel
theorem dX9_post_19 : decode cX9_post 19 = .ok (.ifCond .ne 6, 3) := by decide +kernel
theorem dX9_post_22 : decode cX9_post 22 = .ok (.ldc 157, 2) := by decide +kernel
theorem dX9_post_24 : decode cX9_post 24 = .ok (.ireturn, 1) := by decide +kernel
theorem dX9_post_25 : decode cX9_post 25 = .ok (.aload_n 0, 1) := by decide +kernel
theorem dX9_post_26 : decode cX9_post 26 = .ok (.getfield 19, 3) := by decide +kernel
theorem dX9_post_29 : decode cX9_post 29 = .ok (.getfield 164, 3) := by decide +kernel
theorem dX9_post_32 : decode cX9_post 32 = .ok (.iload_n 1, 1) := by decide +kernel
theorem dX9_post_33 : decode cX9_post 33 = .ok (.iaload, 1) := by decide +kernel
theorem dX9_post_34 : decode cX9_post 34 = .ok (.iload_n 2, 1) := by decide +kernel
theorem dX9_post_35 : decode cX9_post 35 = .ok (.if_icmp .ne 6, 3) := by decide +kernel
theorem dX9_post_38 : decode cX9_post 38 = .ok (.ldc 193, 2) := by decide +kernel
theorem dX9_post_40 : decode cX9_post 40 = .ok (.ireturn, 1) := by decide +kernel
theorem dX9_post_41 : decode cX9_post 41 = .ok (.aload_n 0, 1) := by decide +kernel
theorem dX9_post_42 : decode cX9_post 42 = .ok (.getfield 26, 3) := by decide +kernel
theorem dX9_post_45 : decode cX9_post 45 = .ok (.aload_n 0, 1) := by decide +kernel
theorem dX9_post_46 : decode cX9_post 46 = .ok (.getfield 19, 3) := by decide +kernel
theorem dX9_post_49 : decode cX9_post 49 = .ok (.invokevirtual 194, 3) := by decide +kernel
theorem dX9_post_52 : decode cX9_post 52 = .ok (.aload_n 0, 1) := by decide +kernel
theorem dX9_post_53 : decode cX9_post 53 = .ok (.getfield 19, 3) := by decide +kernel
theorem dX9_post_56 : decode cX9_post 56 = .ok (.getfield 164, 3) := by decide +kernel
theorem dX9_post_59 : decode cX9_post 59 = .ok (.iload_n 1, 1) := by decide +kernel
theorem dX9_post_60 : decode cX9_post 60 = .ok (.iaload, 1) := by decide +kernel
theorem dX9_post_61 : decode cX9_post 61 = .ok (.istore_n 3, 1) := by decide +kernel
theorem dX9_post_62 : decode cX9_post 62 = .ok (.aload_n 0, 1) := by decide +kernel
theorem dX9_post_63 : decode cX9_post 63 = .ok (.getfield 19, 3) := by decide +kernel
theorem dX9_post_66 : decode cX9_post 66 = .ok (.iload_n 1, 1) := by decide +kernel
theorem dX9_post_67 : decode cX9_post 67 = .ok (.iload_n 2, 1) := by decide +kernel
theorem dX9_post_68 : decode cX9_post 68 = .ok (.invokevirtual 198, 3) := by decide +kernel
theorem dX9_post_71 : decode cX9_post 71 = .ok (.iload_n 3, 1) := by decide +kernel
theorem dX9_post_72 : decode cX9_post 72 = .ok (.ireturn, 1) := by decide +kernel
theorem dX9_mix_0 : decode cX9_mix 0 = .ok (.aload_n 0, 1) := by decide +kernel
theorem dX9_mix_1 : decode cX9_mix 1 = .ok (.getfield 60, 3) := by decide +kernel
theorem dX9_mix_4 : decode cX9_mix 4 = .ok (.iload_n 1, 1) := by decide +kernel
theorem dX9_mix_5 : decode cX9_mix 5 = .ok (.invokevirtual 153, 3) := by decide +kernel
theorem dX9_mix_8 : decode cX9_mix 8 = .ok (.ifCond .eq 19, 3) := by decide +kernel
theorem dX9_mix_11 : decode cX9_mix 11 = .ok (.aload_n 0, 1) := by decide +kernel
theorem dX9_mix_12 : decode cX9_mix 12 = .ok (.getfield 60, 3) := by decide +kernel
theorem dX9_mix_15 : decode cX9_mix 15 = .ok (.iload_n 2, 1) := by decide +kernel
theorem dX9_mix_16 : decode cX9_mix 16 = .ok (.invokevirtual 153, 3) := by decide +kernel
theorem dX9_mix_19 : decode cX9_mix 19 = .ok (.ifCond .eq 8, 3) := by decide +kernel
theorem dX9_mix_22 : decode cX9_mix 22 = .ok (.iload_n 1, 1) := by decide +kernel
theorem dX9_mix_23 : decode cX9_mix 23 = .ok (.iload_n 2, 1) := by decide +kernel
theorem dX9_mix_24 : decode cX9_mix 24 = .ok (.if_icmp .ne 6, 3) := by decide +kernel
theorem dX9_mix_27 : decode cX9_mix 27 = .ok (.ldc 157, 2) := by decide +kernel
theorem dX9_mix_29 : decode cX9_mix 29 = .ok (.ireturn, 1) := by decide +kernel
theorem dX9_mix_30 : decode cX9_mix 30 = .ok (.aload_n 0, 1) := by decide +kernel
theorem dX9_mix_31 : decode cX9_mix 31 = .ok (.getfield 26, 3) := by decide +kernel
theorem dX9_mix_34 : decode cX9_mix 34 = .ok (.aload_n 0, 1) := by decide +kernel
theorem dX9_mix_35 : decode cX9_mix 35 = .ok (.getfield 19, 3) := by decide +kernel
theorem dX9_mix_38 : decode cX9_mix 38 = .ok (.invokevirtual 194, 3) := by decide +kernel
theorem dX9_mix_41 : decode cX9_mix 41 = .ok (.aload_n 0, 1) := by decide +kernel
theorem dX9_mix_42 : decode cX9_mix 42 = .ok (.getfield 19, 3) := by decide +kernel
theorem dX9_mix_45 : decode cX9_mix 45 = .ok (.iload_n 1, 1) := by decide +kernel
theorem dX9_mix_46 : decode cX9_mix 46 = .ok (.iload_n 2, 1) := by decide +kernel
theorem dX9_mix_47 : decode cX9_mix 47 = .ok (.invokevirtual 202, 3) := by decide +kernel
theorem dX9_mix_50 : decode cX9_mix 50 = .ok (.aload_n 0, 1) := by decide +kernel
theorem dX9_mix_51 : decode cX9_mix 51 = .ok (.getfield 19, 3) := by decide +kernel
theorem dX9_mix_54 : decode cX9_mix 54 = .ok (.getfield 164, 3) := by decide +kernel
theorem dX9_mix_57 : decode cX9_mix 57 = .ok (.iload_n 1, 1) := by decide +kernel
theorem dX9_mix_58 : decode cX9_mix 58 = .ok (.iaload, 1) := by decide +kernel
theorem dX9_mix_59 : decode cX9_mix 59 = .ok (.ireturn, 1) := by decide +kernel
theorem dX9_lay_0 : decode cX9_lay 0 = .ok (.aload_n 0, 1) := by decide +kernel
theorem dX9_lay_1 : decode cX9_lay 1 = .ok (.getfield 60, 3) := by decide +kernel
theorem dX9_lay_4 : decode cX9_lay 4 = .ok (.iload_n 1, 1) := by decide +kernel
theorem dX9_lay_5 : decode cX9_lay 5 = .ok (.invokevirtual 153, 3) := by decide +kernel
theorem dX9_lay_8 : decode cX9_lay 8 = .ok (.ifCond .ne 6, 3) := by decide +kernel
theorem dX9_lay_11 : decode cX9_lay 11 = .ok (.ldc 157, 2) := by decide +kernel
theorem dX9_lay_13 : decode cX9_lay 13 = .ok (.ireturn, 1) := by decide +kernel
theorem dX9_lay_14 : decode cX9_lay 14 = .ok (.aload_n 0, 1) := by decide +kernel
theorem dX9_lay_15 : decode cX9_lay 15 = .ok (.getfield 26, 3) := by decide +kernel
theorem dX9_lay_18 : decode cX9_lay 18 = .ok (.aload_n 0, 1) := by decide +kernel
theorem dX9_lay_19 : decode cX9_lay 19 = .ok (.getfield 19, 3) := by decide +kernel
theorem dX9_lay_22 : decode cX9_lay 22 = .ok (.invokevirtual 194, 3) := by decide +kernel
theorem dX9_lay_25 : decode cX9_lay 25 = .ok (.aload_n 0, 1) := by decide +kernel
theorem dX9_lay_26 : decode cX9_lay 26 = .ok (.getfield 19, 3) := by decide +kernel
theorem dX9_lay_29 : decode cX9_lay 29 = .ok (.iload_n 1, 1) := by decide +kernel
theorem dX9_lay_30 : decode cX9_lay 30 = .ok (.invokevirtual 173, 3) := by decide +kernel
theorem dX9_lay_33 : decode cX9_lay 33 = .ok (.ifCond .eq 7, 3) := by decide +kernel
theorem dX9_lay_36 : decode cX9_lay 36 = .ok (.iconst 0, 1) := by decide +kernel
theorem dX9_lay_37 : decode cX9_lay 37 = .ok (.goto 4, 3) := by decide +kernel
theorem dX9_lay_40 : decode cX9_lay 40 = .ok (.iconst 1, 1) := by decide +kernel
theorem dX9_lay_41 : decode cX9_lay 41 = .ok (.istore_n 3, 1) := by decide +kernel
theorem dX9_lay_42 : decode cX9_lay 42 = .ok (.iload_n 2, 1) := by decide +kernel
theorem dX9_lay_43 : decode cX9_lay 43 = .ok (.ifCond .eq 14, 3) := by decide +kernel
theorem dX9_lay_46 : decode cX9_lay 46 = .ok (.aload_n 0, 1) := by decide +kernel
theorem dX9_lay_47 : decode cX9_lay 47 = .ok (.getfield 19, 3) := by decide +kernel
theorem dX9_lay_50 : decode cX9_lay 50 = .ok (.iload_n 1, 1) := by decide +kernel
theorem dX9_lay_51 : decode cX9_lay 51 = .ok (.invokevirtual 205, 3) := by decide +kernel
theorem dX9_lay_54 : decode cX9_lay 54 = .ok (.goto 11, 3) := by decide +kernel
theorem dX9_lay_57 : decode cX9_lay 57 = .ok (.aload_n 0, 1) := by decide +kernel
theorem dX9_lay_58 : decode cX9_lay 58 = .ok (.getfield 19, 3) := by decide +kernel
theorem dX9_lay_61 : decode cX9_lay 61 = .ok (.iload_n 1, 1) := by decide +kernel
theorem dX9_lay_62 : decode cX9_lay 62 = .ok (.invokevirtual 209, 3) := by decide +kernel
theorem dX9_lay_65 : decode cX9_lay 65 = .ok (.iload_n 3, 1) := by decide +kernel
theorem dX9_lay_66 : decode cX9_lay 66 = .ok (.ireturn, 1) := by decide +kernel
theorem dX9_mask_0 : decode cX9_mask 0 = .ok (.aload_n 0, 1) := by decide +kernel
theorem dX9_mask_1 : decode cX9_mask 1 = .ok (.getfield 60, 3) := by decide +kernel
theorem dX9_mask_4 : decode cX9_mask 4 = .ok (.iload_n 1, 1) := by decide +kernel
theorem dX9_mask_5 : decode cX9_mask 5 = .ok (.invokevirtual 153, 3) := by decide +kernel
theorem dX9_mask_8 : decode cX9_mask 8 = .ok (.ifCond .ne 6, 3) := by decide +kernel
theorem dX9_mask_11 : decode cX9_mask 11 = .ok (.ldc 157, 2) := by decide +kernel
theorem dX9_mask_13 : decode cX9_mask 13 = .ok (.ireturn, 1) := by decide +kernel
theorem dX9_mask_14 : decode cX9_mask 14 = .ok (.iload_n 2, 1) := by decide +kernel
theorem dX9_mask_15 : decode cX9_mask 15 = .ok (.ifCond .lt 9, 3) := by decide +kernel
theorem dX9_mask_18 : decode cX9_mask 18 = .ok (.iload_n 2, 1) := by decide +kernel
theorem dX9_mask_19 : decode cX9_mask 19 = .ok (.bipush 63, 2) := by decide +kernel
theorem dX9_mask_21 : decode cX9_mask 21 = .ok (.if_icmp .le 6, 3) := by decide +kernel
theorem dX9_mask_24 : decode cX9_mask 24 = .ok (.ldc 68, 2) := by decide +kernel
theorem dX9_mask_26 : decode cX9_mask 26 = .ok (.ireturn, 1) := by decide +kernel
theorem dX9_mask_27 : decode cX9_mask 27 = .ok (.aload_n 0, 1) := by decide +kernel
theorem dX9_mask_28 : decode cX9_mask 28 = .ok (.getfield 26, 3) := by decide +kernel
theorem dX9_mask_31 : decode cX9_mask 31 = .ok (.aload_n 0, 1) := by decide +kernel
theorem dX9_mask_32 : decode cX9_mask 32 = .ok (.getfield 19, 3) := by decide +kernel
theorem dX9_mask_35 : decode cX9_mask 35 = .ok (.invokevirtual 194, 3) := by decide +kernel
theorem dX9_mask_38 : decode cX9_mask 38 = .ok (.aload_n 0, 1) := by decide +kernel
theorem dX9_mask_39 : decode cX9_mask 39 = .ok (.getfield 19, 3) := by decide +kernel
theorem dX9_mask_42 : decode cX9_mask 42 = .ok (.getfield 167, 3) := by decide +kernel
theorem dX9_mask_45 : decode cX9_mask 45 = .ok (.iload_n 1, 1) := by decide +kernel
theorem dX9_mask_46 : decode cX9_mask 46 = .ok (.iaload, 1) := by decide +kernel
theorem dX9_mask_47 : decode cX9_mask 47 = .ok (.istore_n 3, 1) := by decide +kernel
theorem dX9_mask_48 : decode cX9_mask 48 = .ok (.aload_n 0, 1) := by decide +kernel
theorem dX9_mask_49 : decode cX9_mask 49 = .ok (.getfield 19, 3) := by decide +kernel
theorem dX9_mask_52 : decode cX9_mask 52 = .ok (.getfield 167, 3) := by decide +kernel
theorem dX9_mask_55 : decode cX9_mask 55 = .ok (.iload_n 1, 1) := by decide +kernel
theorem dX9_mask_56 : decode cX9_mask 56 = .ok (.iload_n 2, 1) := by decide +kernel
theorem dX9_mask_57 : decode cX9_mask 57 = .ok (.iastore, 1) := by decide +kernel
theorem dX9_mask_58 : decode cX9_mask 58 = .ok (.iload_n 3, 1) := by decide +kernel
theorem dX9_mask_59 : decode cX9_mask 59 = .ok (.ireturn, 1) := by decide +kernel
theorem dX9_audience_0 : decode cX9_audience 0 = .ok (.aload_n 0, 1) := by decide +kernel
theorem dX9_audience_1 : decode cX9_audience 1 = .ok (.invokevirtual 141, 3) := by decide +kernel
theorem dX9_audience_4 : decode cX9_audience 4 = .ok (.ifCond .ne 6, 3) := by decide +kernel
theorem dX9_audience_7 : decode cX9_audience 7 = .ok (.ldc 193, 2) := by decide +kernel
theorem dX9_audience_9 : decode cX9_audience 9 = .ok (.ireturn, 1) := by decide +kernel
theorem dX9_audience_10 : decode cX9_audience 10 = .ok (.aload_n 0, 1) := by decide +kernel
theorem dX9_audience_11 : decode cX9_audience 11 = .ok (.getfield 26, 3) := by decide +kernel
theorem dX9_audience_14 : decode cX9_audience 14 = .ok (.aload_n 0, 1) := by decide +kernel
theorem dX9_audience_15 : decode cX9_audience 15 = .ok (.getfield 19, 3) := by decide +kernel
theorem dX9_audience_18 : decode cX9_audience 18 = .ok (.invokevirtual 194, 3) := by decide +kernel
theorem dX9_audience_21 : decode cX9_audience 21 = .ok (.aload_n 0, 1) := by decide +kernel
theorem dX9_audience_22 : decode cX9_audience 22 = .ok (.getfield 19, 3) := by decide +kernel
theorem dX9_audience_25 : decode cX9_audience 25 = .ok (.aload_n 0, 1) := by decide +kernel
theorem dX9_audience_26 : decode cX9_audience 26 = .ok (.getfield 60, 3) := by decide +kernel
theorem dX9_audience_29 : decode cX9_audience 29 = .ok (.invokevirtual 212, 3) := by decide +kernel
theorem dX9_audience_32 : decode cX9_audience 32 = .ok (.ifCond .eq 7, 3) := by decide +kernel
theorem dX9_audience_35 : decode cX9_audience 35 = .ok (.iconst 1, 1) := by decide +kernel
theorem dX9_audience_36 : decode cX9_audience 36 = .ok (.goto 4, 3) := by decide +kernel
theorem dX9_audience_39 : decode cX9_audience 39 = .ok (.iconst 0, 1) := by decide +kernel
theorem dX9_audience_40 : decode cX9_audience 40 = .ok (.ireturn, 1) := by decide +kernel
theorem dX9_year_0 : decode cX9_year 0 = .ok (.aload_n 0, 1) := by decide +kernel
theorem dX9_year_1 : decode cX9_year 1 = .ok (.iload_n 1, 1) := by decide +kernel
theorem dX9_year_2 : decode cX9_year 2 = .ok (.invokevirtual 215, 3) := by decide +kernel
theorem dX9_year_5 : decode cX9_year 5 = .ok (.istore_n 2, 1) := by decide +kernel
theorem dX9_year_6 : decode cX9_year 6 = .ok (.iload_n 2, 1) := by decide +kernel
theorem dX9_year_7 : decode cX9_year 7 = .ok (.ifCond .eq 5, 3) := by decide +kernel
theorem dX9_year_10 : decode cX9_year 10 = .ok (.iload_n 2, 1) := by decide +kernel
theorem dX9_year_11 : decode cX9_year 11 = .ok (.ireturn, 1) := by decide +kernel
theorem dX9_year_12 : decode cX9_year 12 = .ok (.aload_n 0, 1) := by decide +kernel
theorem dX9_year_13 : decode cX9_year 13 = .ok (.getfield 26, 3) := by decide +kernel
theorem dX9_year_16 : decode cX9_year 16 = .ok (.aload_n 0, 1) := by decide +kernel
theorem dX9_year_17 : decode cX9_year 17 = .ok (.getfield 19, 3) := by decide +kernel
theorem dX9_year_20 : decode cX9_year 20 = .ok (.invokevirtual 194, 3) := by decide +kernel
theorem dX9_year_23 : decode cX9_year 23 = .ok (.iconst 0, 1) := by decide +kernel
theorem dX9_year_24 : decode cX9_year 24 = .ok (.istore_n 3, 1) := by decide +kernel
theorem dX9_year_25 : decode cX9_year 25 = .ok (.iload_n 3, 1) := by decide +kernel
theorem dX9_year_26 : decode cX9_year 26 = .ok (.iload_n 1, 1) := by decide +kernel
theorem dX9_year_27 : decode cX9_year 27 = .ok (.if_icmp .ge 20, 3) := by decide +kernel
theorem dX9_year_30 : decode cX9_year 30 = .ok (.aload_n 0, 1) := by decide +kernel
theorem dX9_year_31 : decode cX9_year 31 = .ok (.getfield 19, 3) := by decide +kernel
theorem dX9_year_34 : decode cX9_year 34 = .ok (.aload_n 0, 1) := by decide +kernel
theorem dX9_year_35 : decode cX9_year 35 = .ok (.getfield 60, 3) := by decide +kernel
theorem dX9_year_38 : decode cX9_year 38 = .ok (.invokevirtual 218, 3) := by decide +kernel
theorem dX9_year_41 : decode cX9_year 41 = .ok (.iinc 3 1, 3) := by decide +kernel
theorem dX9_year_44 : decode cX9_year 44 = .ok (.goto (-19), 3) := by decide +kernel
theorem dX9_year_47 : decode cX9_year 47 = .ok (.aload_n 0, 1) := by decide +kernel
theorem dX9_year_48 : decode cX9_year 48 = .ok (.getfield 19, 3) := by decide +kernel
theorem dX9_year_51 : decode cX9_year 51 = .ok (.getfield 112, 3) := by decide +kernel
theorem dX9_year_54 : decode cX9_year 54 = .ok (.ireturn, 1) := by decide +kernel
theorem dX9_drift_0 : decode cX9_drift 0 = .ok (.aload_n 0, 1) := by decide +kernel
theorem dX9_drift_1 : decode cX9_drift 1 = .ok (.iload_n 1, 1) := by decide +kernel
theorem dX9_drift_2 : decode cX9_drift 2 = .ok (.invokevirtual 215, 3) := by decide +kernel
theorem dX9_drift_5 : decode cX9_drift 5 = .ok (.istore_n 2, 1) := by decide +kernel
theorem dX9_drift_6 : decode cX9_drift 6 = .ok (.iload_n 2, 1) := by decide +kernel
theorem dX9_drift_7 : decode cX9_drift 7 = .ok (.ifCond .eq 5, 3) := by decide +kernel
theorem dX9_drift_10 : decode cX9_drift 10 = .ok (.iload_n 2, 1) := by decide +kernel
theorem dX9_drift_11 : decode cX9_drift 11 = .ok (.ireturn, 1) := by decide +kernel
theorem dX9_drift_12 : decode cX9_drift 12 = .ok (.aload_n 0, 1) := by decide +kernel
theorem dX9_drift_13 : decode cX9_drift 13 = .ok (.getfield 26, 3) := by decide +kernel
theorem dX9_drift_16 : decode cX9_drift 16 = .ok (.aload_n 0, 1) := by decide +kernel
theorem dX9_drift_17 : decode cX9_drift 17 = .ok (.getfield 19, 3) := by decide +kernel
theorem dX9_drift_20 : decode cX9_drift 20 = .ok (.invokevirtual 194, 3) := by decide +kernel
theorem dX9_drift_23 : decode cX9_drift 23 = .ok (.iconst 0, 1) := by decide +kernel
theorem dX9_drift_24 : decode cX9_drift 24 = .ok (.istore_n 3, 1) := by decide +kernel
theorem dX9_drift_25 : decode cX9_drift 25 = .ok (.iload_n 3, 1) := by decide +kernel
theorem dX9_drift_26 : decode cX9_drift 26 = .ok (.iload_n 1, 1) := by decide +kernel
theorem dX9_drift_27 : decode cX9_drift 27 = .ok (.if_icmp .ge 34, 3) := by decide +kernel
theorem dX9_drift_30 : decode cX9_drift 30 = .ok (.aload_n 0, 1) := by decide +kernel
theorem dX9_drift_31 : decode cX9_drift 31 = .ok (.getfield 60, 3) := by decide +kernel
theorem dX9_drift_34 : decode cX9_drift 34 = .ok (.getfield 97, 3) := by decide +kernel
theorem dX9_drift_37 : decode cX9_drift 37 = .ok (.ifCond .le 7, 3) := by decide +kernel
theorem dX9_drift_40 : decode cX9_drift 40 = .ok (.aload_n 0, 1) := by decide +kernel
theorem dX9_drift_41 : decode cX9_drift 41 = .ok (.invokevirtual 221, 3) := by decide +kernel
theorem dX9_drift_44 : decode cX9_drift 44 = .ok (.aload_n 0, 1) := by decide +kernel
theorem dX9_drift_45 : decode cX9_drift 45 = .ok (.getfield 19, 3) := by decide +kernel
theorem dX9_drift_48 : decode cX9_drift 48 = .ok (.aload_n 0, 1) := by decide +kernel
theorem dX9_drift_49 : decode cX9_drift 49 = .ok (.getfield 60, 3) := by decide +kernel
theorem dX9_drift_52 : decode cX9_drift 52 = .ok (.invokevirtual 218, 3) := by decide +kernel
theorem dX9_drift_55 : decode cX9_drift 55 = .ok (.iinc 3 1, 3) := by decide +kernel
theorem dX9_drift_58 : decode cX9_drift 58 = .ok (.goto (-33), 3) := by decide +kernel
theorem dX9_drift_61 : decode cX9_drift 61 = .ok (.aload_n 0, 1) := by decide +kernel
theorem dX9_drift_62 : decode cX9_drift 62 = .ok (.getfield 19, 3) := by decide +kernel
theorem dX9_drift_65 : decode cX9_drift 65 = .ok (.getfield 112, 3) := by decide +kernel
theorem dX9_drift_68 : decode cX9_drift 68 = .ok (.ireturn, 1) := by decide +kernel
theorem dX9_undo_0 : decode cX9_undo 0 = .ok (.aload_n 0, 1) := by decide +kernel
theorem dX9_undo_1 : decode cX9_undo 1 = .ok (.getfield 26, 3) := by decide +kernel
theorem dX9_undo_4 : decode cX9_undo 4 = .ok (.getfield 152, 3) := by decide +kernel
theorem dX9_undo_7 : decode cX9_undo 7 = .ok (.ifCond .ne 6, 3) := by decide +kernel
theorem dX9_undo_10 : decode cX9_undo 10 = .ok (.ldc 193, 2) := by decide +kernel
theorem dX9_undo_12 : decode cX9_undo 12 = .ok (.ireturn, 1) := by decide +kernel
theorem dX9_undo_13 : decode cX9_undo 13 = .ok (.aload_n 0, 1) := by decide +kernel
theorem dX9_undo_14 : decode cX9_undo 14 = .ok (.getfield 26, 3) := by decide +kernel
theorem dX9_undo_17 : decode cX9_undo 17 = .ok (.aload_n 0, 1) := by decide +kernel
theorem dX9_undo_18 : decode cX9_undo 18 = .ok (.getfield 19, 3) := by decide +kernel
theorem dX9_undo_21 : decode cX9_undo 21 = .ok (.invokevirtual 224, 3) := by decide +kernel
theorem dX9_undo_24 : decode cX9_undo 24 = .ok (.aload_n 0, 1) := by decide +kernel
theorem dX9_undo_25 : decode cX9_undo 25 = .ok (.getfield 26, 3) := by decide +kernel
theorem dX9_undo_28 : decode cX9_undo 28 = .ok (.getfield 152, 3) := by decide +kernel
theorem dX9_undo_31 : decode cX9_undo 31 = .ok (.ireturn, 1) := by decide +kernel
theorem dX9_warm_0 : decode cX9_warm 0 = .ok (.aload_n 0, 1) := by decide +kernel
theorem dX9_warm_1 : decode cX9_warm 1 = .ok (.getfield 60, 3) := by decide +kernel
theorem dX9_warm_4 : decode cX9_warm 4 = .ok (.iload_n 1, 1) := by decide +kernel
theorem dX9_warm_5 : decode cX9_warm 5 = .ok (.invokevirtual 153, 3) := by decide +kernel
theorem dX9_warm_8 : decode cX9_warm 8 = .ok (.ifCond .ne 6, 3) := by decide +kernel
theorem dX9_warm_11 : decode cX9_warm 11 = .ok (.ldc 157, 2) := by decide +kernel
theorem dX9_warm_13 : decode cX9_warm 13 = .ok (.ireturn, 1) := by decide +kernel
theorem dX9_warm_14 : decode cX9_warm 14 = .ok (.iload_n 2, 1) := by decide +kernel
theorem dX9_warm_15 : decode cX9_warm 15 = .ok (.ifCond .lt 9, 3) := by decide +kernel
theorem dX9_warm_18 : decode cX9_warm 18 = .ok (.iload_n 2, 1) := by decide +kernel
theorem dX9_warm_19 : decode cX9_warm 19 = .ok (.bipush 100, 2) := by decide +kernel
theorem dX9_warm_21 : decode cX9_warm 21 = .ok (.if_icmp .le 6, 3) := by decide +kernel
theorem dX9_warm_24 : decode cX9_warm 24 = .ok (.ldc 68, 2) := by decide +kernel
theorem dX9_warm_26 : decode cX9_warm 26 = .ok (.ireturn, 1) := by decide +kernel
theorem dX9_warm_27 : decode cX9_warm 27 = .ok (.aload_n 0, 1) := by decide +kernel
theorem dX9_warm_28 : decode cX9_warm 28 = .ok (.getfield 19, 3) := by decide +kernel
theorem dX9_warm_31 : decode cX9_warm 31 = .ok (.aload_n 0, 1) := by decide +kernel
theorem dX9_warm_32 : decode cX9_warm 32 = .ok (.getfield 60, 3) := by decide +kernel
theorem dX9_warm_35 : decode cX9_warm 35 = .ok (.iload_n 1, 1) := by decide +kernel
theorem dX9_warm_36 : decode cX9_warm 36 = .ok (.iload_n 2, 1) := by decide +kernel
theorem dX9_warm_37 : decode cX9_warm 37 = .ok (.invokevirtual 227, 3) := by decide +kernel
theorem dX9_warm_40 : decode cX9_warm 40 = .ok (.ireturn, 1) := by decide +kernel
theorem dX9_warmest_0 : decode cX9_warmest 0 = .ok (.iload_n 1, 1) := by decide +kernel
theorem dX9_warmest_1 : decode cX9_warmest 1 = .ok (.ifCond .lt 9, 3) := by decide +kernel
theorem dX9_warmest_4 : decode cX9_warmest 4 = .ok (.iload_n 1, 1) := by decide +kernel
theorem dX9_warmest_5 : decode cX9_warmest 5 = .ok (.bipush 100, 2) := by decide +kernel
theorem dX9_warmest_7 : decode cX9_warmest 7 = .ok (.if_icmp .le 6, 3) := by decide +kernel
theorem dX9_warmest_10 : decode cX9_warmest 10 = .ok (.ldc 68, 2) := by decide +kernel
theorem dX9_warmest_12 : decode cX9_warmest 12 = .ok (.ireturn, 1) := by decide +kernel
theorem dX9_warmest_13 : decode cX9_warmest 13 = .ok (.iconst (-1), 1) := by decide +kernel
theorem dX9_warmest_14 : decode cX9_warmest 14 = .ok (.istore_n 2, 1) := by decide +kernel
theorem dX9_warmest_15 : decode cX9_warmest 15 = .ok (.iconst (-1), 1) := by decide +kernel
theorem dX9_warmest_16 : decode cX9_warmest 16 = .ok (.istore_n 3, 1) := by decide +kernel
theorem dX9_warmest_17 : decode cX9_warmest 17 = .ok (.iconst 0, 1) := by decide +kernel
theorem dX9_warmest_18 : decode cX9_warmest 18 = .ok (.istore 4, 2) := by decide +kernel
theorem dX9_warmest_20 : decode cX9_warmest 20 = .ok (.iload 4, 2) := by decide +kernel
theorem dX9_warmest_22 : decode cX9_warmest 22 = .ok (.aload_n 0, 1) := by decide +kernel
theorem dX9_warmest_23 : decode cX9_warmest 23 = .ok (.getfield 60, 3) := by decide +kernel
theorem dX9_warmest_26 : decode cX9_warmest 26 = .ok (.getfield 97, 3) := by decide +kernel
theorem dX9_warmest_29 : decode cX9_warmest 29 = .ok (.if_icmp .ge 37, 3) := by decide +kernel
theorem dX9_warmest_32 : decode cX9_warmest 32 = .ok (.aload_n 0, 1) := by decide +kernel
theorem dX9_warmest_33 : decode cX9_warmest 33 = .ok (.getfield 19, 3) := by decide +kernel
theorem dX9_warmest_36 : decode cX9_warmest 36 = .ok (.aload_n 0, 1) := by decide +kernel
theorem dX9_warmest_37 : decode cX9_warmest 37 = .ok (.getfield 60, 3) := by decide +kernel
theorem dX9_warmest_40 : decode cX9_warmest 40 = .ok (.iload 4, 2) := by decide +kernel
theorem dX9_warmest_42 : decode cX9_warmest 42 = .ok (.iload_n 1, 1) := by decide +kernel
theorem dX9_warmest_43 : decode cX9_warmest 43 = .ok (.invokevirtual 227, 3) := by decide +kernel
theorem dX9_warmest_46 : decode cX9_warmest 46 = .ok (.istore 5, 2) := by decide +kernel
theorem dX9_warmest_48 : decode cX9_warmest 48 = .ok (.iload 5, 2) := by decide +kernel
theorem dX9_warmest_50 : decode cX9_warmest 50 = .ok (.iload_n 3, 1) := by decide +kernel
theorem dX9_warmest_51 : decode cX9_warmest 51 = .ok (.if_icmp .le 9, 3) := by decide +kernel
theorem dX9_warmest_54 : decode cX9_warmest 54 = .ok (.iload 4, 2) := by decide +kernel
theorem dX9_warmest_56 : decode cX9_warmest 56 = .ok (.istore_n 2, 1) := by decide +kernel
theorem dX9_warmest_57 : decode cX9_warmest 57 = .ok (.iload 5, 2) := by decide +kernel
theorem dX9_warmest_59 : decode cX9_warmest 59 = .ok (.istore_n 3, 1) := by decide +kernel
theorem dX9_warmest_60 : decode cX9_warmest 60 = .ok (.iinc 4 1, 3) := by decide +kernel
theorem dX9_warmest_63 : decode cX9_warmest 63 = .ok (.goto (-43), 3) := by decide +kernel
theorem dX9_warmest_66 : decode cX9_warmest 66 = .ok (.iload_n 2, 1) := by decide +kernel
theorem dX9_warmest_67 : decode cX9_warmest 67 = .ok (.ireturn, 1) := by decide +kernel
end
section
theorem dX9_first_0 : decode cX9_first 0 = .ok (.aload_n 0, 1) := by decide +kernel
theorem dX9_first_1 : decode cX9_first 1 = .ok (.getfield 60, 3) := by decide +kernel
theorem dX9_first_4 : decode cX9_first 4 = .ok (.iload_n 1, 1) := by decide +kernel
theorem dX9_first_5 : decode cX9_first 5 = .ok (.invokevirtual 153, 3) := by decide +kernel
theorem dX9_first_8 : decode cX9_first 8 = .ok (.ifCond .ne 6, 3) := by decide +kernel
theorem dX9_first_11 : decode cX9_first 11 = .ok (.ldc 157, 2) := by decide +kernel
theorem dX9_first_13 : decode cX9_first 13 = .ok (.ireturn, 1) := by decide +kernel
theorem dX9_first_14 : decode cX9_first 14 = .ok (.iload_n 2, 1) := by decide +kernel
theorem dX9_first_15 : decode cX9_first 15 = .ok (.ifCond .lt 9, 3) := by decide +kernel
theorem dX9_first_18 : decode cX9_first 18 = .ok (.iload_n 2, 1) := by decide +kernel
theorem dX9_first_19 : decode cX9_first 19 = .ok (.bipush 99, 2) := by decide +kernel
theorem dX9_first_21 : decode cX9_first 21 = .ok (.if_icmp .le 6, 3) := by decide +kernel
theorem dX9_first_24 : decode cX9_first 24 = .ok (.ldc 68, 2) := by decide +kernel
theorem dX9_first_26 : decode cX9_first 26 = .ok (.ireturn, 1) := by decide +kernel
theorem dX9_first_27 : decode cX9_first 27 = .ok (.aload_n 0, 1) := by decide +kernel
theorem dX9_first_28 : decode cX9_first 28 = .ok (.getfield 19, 3) := by decide +kernel
theorem dX9_first_31 : decode cX9_first 31 = .ok (.aload_n 0, 1) := by decide +kernel
theorem dX9_first_32 : decode cX9_first 32 = .ok (.getfield 60, 3) := by decide +kernel
theorem dX9_first_35 : decode cX9_first 35 = .ok (.iload_n 1, 1) := by decide +kernel
theorem dX9_first_36 : decode cX9_first 36 = .ok (.iload_n 2, 1) := by decide +kernel
theorem dX9_first_37 : decode cX9_first 37 = .ok (.invokevirtual 231, 3) := by decide +kernel
theorem dX9_first_40 : decode cX9_first 40 = .ok (.ireturn, 1) := by decide +kernel
theorem dX9_swaps_0 : decode cX9_swaps 0 = .ok (.iload_n 1, 1) := by decide +kernel
theorem dX9_swaps_1 : decode cX9_swaps 1 = .ok (.ifCond .lt 8, 3) := by decide +kernel
theorem dX9_swaps_4 : decode cX9_swaps 4 = .ok (.iload_n 1, 1) := by decide +kernel
theorem dX9_swaps_5 : decode cX9_swaps 5 = .ok (.iconst 1, 1) := by decide +kernel
theorem dX9_swaps_6 : decode cX9_swaps 6 = .ok (.if_icmp .le 6, 3) := by decide +kernel
theorem dX9_swaps_9 : decode cX9_swaps 9 = .ok (.ldc 68, 2) := by decide +kernel
theorem dX9_swaps_11 : decode cX9_swaps 11 = .ok (.ireturn, 1) := by decide +kernel
theorem dX9_swaps_12 : decode cX9_swaps 12 = .ok (.iload_n 1, 1) := by decide +kernel
theorem dX9_swaps_13 : decode cX9_swaps 13 = .ok (.ifCond .ne 21, 3) := by decide +kernel
theorem dX9_swaps_16 : decode cX9_swaps 16 = .ok (.aload_n 0, 1) := by decide +kernel
theorem dX9_swaps_17 : decode cX9_swaps 17 = .ok (.getfield 46, 3) := by decide +kernel
theorem dX9_swaps_20 : decode cX9_swaps 20 = .ok (.aload_n 0, 1) := by decide +kernel
theorem dX9_swaps_21 : decode cX9_swaps 21 = .ok (.getfield 60, 3) := by decide +kernel
theorem dX9_swaps_24 : decode cX9_swaps 24 = .ok (.aload_n 0, 1) := by decide +kernel
theorem dX9_swaps_25 : decode cX9_swaps 25 = .ok (.getfield 19, 3) := by decide +kernel
theorem dX9_swaps_28 : decode cX9_swaps 28 = .ok (.invokevirtual 234, 3) := by decide +kernel
theorem dX9_swaps_31 : decode cX9_swaps 31 = .ok (.goto 18, 3) := by decide +kernel
theorem dX9_swaps_34 : decode cX9_swaps 34 = .ok (.aload_n 0, 1) := by decide +kernel
theorem dX9_swaps_35 : decode cX9_swaps 35 = .ok (.getfield 46, 3) := by decide +kernel
theorem dX9_swaps_38 : decode cX9_swaps 38 = .ok (.aload_n 0, 1) := by decide +kernel
theorem dX9_swaps_39 : decode cX9_swaps 39 = .ok (.getfield 60, 3) := by decide +kernel
theorem dX9_swaps_42 : decode cX9_swaps 42 = .ok (.aload_n 0, 1) := by decide +kernel
theorem dX9_swaps_43 : decode cX9_swaps 43 = .ok (.getfield 19, 3) := by decide +kernel
theorem dX9_swaps_46 : decode cX9_swaps 46 = .ok (.invokevirtual 237, 3) := by decide +kernel
theorem dX9_swaps_49 : decode cX9_swaps 49 = .ok (.ireturn, 1) := by decide +kernel
theorem dX9_close_0 : decode cX9_close 0 = .ok (.iload_n 1, 1) := by decide +kernel
theorem dX9_close_1 : decode cX9_close 1 = .ok (.ifCond .lt 9, 3) := by decide +kernel
theorem dX9_close_4 : decode cX9_close 4 = .ok (.iload_n 1, 1) := by decide +kernel
theorem dX9_close_5 : decode cX9_close 5 = .ok (.bipush 6, 2) := by decide +kernel
theorem dX9_close_7 : decode cX9_close 7 = .ok (.if_icmp .le 6, 3) := by decide +kernel
theorem dX9_close_10 : decode cX9_close 10 = .ok (.ldc 68, 2) := by decide +kernel
theorem dX9_close_12 : decode cX9_close 12 = .ok (.ireturn, 1) := by decide +kernel
theorem dX9_close_13 : decode cX9_close 13 = .ok (.aload_n 0, 1) := by decide +kernel
theorem dX9_close_14 : decode cX9_close 14 = .ok (.getfield 60, 3) := by decide +kernel
theorem dX9_close_17 : decode cX9_close 17 = .ok (.aload_n 0, 1) := by decide +kernel
theorem dX9_close_18 : decode cX9_close 18 = .ok (.getfield 19, 3) := by decide +kernel
theorem dX9_close_21 : decode cX9_close 21 = .ok (.iload_n 1, 1) := by decide +kernel
theorem dX9_close_22 : decode cX9_close 22 = .ok (.invokestatic 122, 3) := by decide +kernel
theorem dX9_close_25 : decode cX9_close 25 = .ok (.ireturn, 1) := by decide +kernel
theorem dX9_look_0 : decode cX9_look 0 = .ok (.iload_n 1, 1) := by decide +kernel
theorem dX9_look_1 : decode cX9_look 1 = .ok (.ifCond .lt 18, 3) := by decide +kernel
theorem dX9_look_4 : decode cX9_look 4 = .ok (.iload_n 1, 1) := by decide +kernel
theorem dX9_look_5 : decode cX9_look 5 = .ok (.bipush 63, 2) := by decide +kernel
theorem dX9_look_7 : decode cX9_look 7 = .ok (.if_icmp .gt 12, 3) := by decide +kernel
theorem dX9_look_10 : decode cX9_look 10 = .ok (.iload_n 2, 1) := by decide +kernel
theorem dX9_look_11 : decode cX9_look 11 = .ok (.ifCond .lt 8, 3) := by decide +kernel
theorem dX9_look_14 : decode cX9_look 14 = .ok (.iload_n 2, 1) := by decide +kernel
theorem dX9_look_15 : decode cX9_look 15 = .ok (.iconst 1, 1) := by decide +kernel
theorem dX9_look_16 : decode cX9_look 16 = .ok (.if_icmp .le 6, 3) := by decide +kernel
theorem dX9_look_19 : decode cX9_look 19 = .ok (.ldc 68, 2) := by decide +kernel
theorem dX9_look_21 : decode cX9_look 21 = .ok (.ireturn, 1) := by decide +kernel
theorem dX9_look_22 : decode cX9_look 22 = .ok (.aload_n 0, 1) := by decide +kernel
theorem dX9_look_23 : decode cX9_look 23 = .ok (.getfield 60, 3) := by decide +kernel
theorem dX9_look_26 : decode cX9_look 26 = .ok (.aload_n 0, 1) := by decide +kernel
theorem dX9_look_27 : decode cX9_look 27 = .ok (.getfield 19, 3) := by decide +kernel
theorem dX9_look_30 : decode cX9_look 30 = .ok (.iload_n 1, 1) := by decide +kernel
theorem dX9_look_31 : decode cX9_look 31 = .ok (.invokestatic 240, 3) := by decide +kernel
theorem dX9_look_34 : decode cX9_look 34 = .ok (.istore_n 3, 1) := by decide +kernel
theorem dX9_look_35 : decode cX9_look 35 = .ok (.iload_n 2, 1) := by decide +kernel
theorem dX9_look_36 : decode cX9_look 36 = .ok (.ifCond .ne 7, 3) := by decide +kernel
theorem dX9_look_39 : decode cX9_look 39 = .ok (.iload_n 3, 1) := by decide +kernel
theorem dX9_look_40 : decode cX9_look 40 = .ok (.goto 15, 3) := by decide +kernel
theorem dX9_look_43 : decode cX9_look 43 = .ok (.aload_n 0, 1) := by decide +kernel
theorem dX9_look_44 : decode cX9_look 44 = .ok (.getfield 60, 3) := by decide +kernel
theorem dX9_look_47 : decode cX9_look 47 = .ok (.aload_n 0, 1) := by decide +kernel
theorem dX9_look_48 : decode cX9_look 48 = .ok (.getfield 19, 3) := by decide +kernel
theorem dX9_look_51 : decode cX9_look 51 = .ok (.iload_n 3, 1) := by decide +kernel
theorem dX9_look_52 : decode cX9_look 52 = .ok (.invokestatic 243, 3) := by decide +kernel
theorem dX9_look_55 : decode cX9_look 55 = .ok (.ireturn, 1) := by decide +kernel
theorem dX9_agreed_0 : decode cX9_agreed 0 = .ok (.iload_n 1, 1) := by decide +kernel
theorem dX9_agreed_1 : decode cX9_agreed 1 = .ok (.ifCond .lt 14, 3) := by decide +kernel
theorem dX9_agreed_4 : decode cX9_agreed 4 = .ok (.iload_n 1, 1) := by decide +kernel
theorem dX9_agreed_5 : decode cX9_agreed 5 = .ok (.aload_n 0, 1) := by decide +kernel
theorem dX9_agreed_6 : decode cX9_agreed 6 = .ok (.getfield 60, 3) := by decide +kernel
theorem dX9_agreed_9 : decode cX9_agreed 9 = .ok (.invokevirtual 246, 3) := by decide +kernel
theorem dX9_agreed_12 : decode cX9_agreed 12 = .ok (.if_icmp .le 6, 3) := by decide +kernel
theorem dX9_agreed_15 : decode cX9_agreed 15 = .ok (.ldc 157, 2) := by decide +kernel
theorem dX9_agreed_17 : decode cX9_agreed 17 = .ok (.ireturn, 1) := by decide +kernel
theorem dX9_agreed_18 : decode cX9_agreed 18 = .ok (.aload_n 0, 1) := by decide +kernel
theorem dX9_agreed_19 : decode cX9_agreed 19 = .ok (.invokevirtual 141, 3) := by decide +kernel
theorem dX9_agreed_22 : decode cX9_agreed 22 = .ok (.ifCond .eq 26, 3) := by decide +kernel
theorem dX9_agreed_25 : decode cX9_agreed 25 = .ok (.aload_n 0, 1) := by decide +kernel
theorem dX9_agreed_26 : decode cX9_agreed 26 = .ok (.getfield 60, 3) := by decide +kernel
theorem dX9_agreed_29 : decode cX9_agreed 29 = .ok (.getfield 249, 3) := by decide +kernel
theorem dX9_agreed_32 : decode cX9_agreed 32 = .ok (.iload_n 1, 1) := by decide +kernel
theorem dX9_agreed_33 : decode cX9_agreed 33 = .ok (.iaload, 1) := by decide +kernel
theorem dX9_agreed_34 : decode cX9_agreed 34 = .ok (.aload_n 0, 1) := by decide +kernel
theorem dX9_agreed_35 : decode cX9_agreed 35 = .ok (.getfield 60, 3) := by decide +kernel
theorem dX9_agreed_38 : decode cX9_agreed 38 = .ok (.getfield 109, 3) := by decide +kernel
theorem dX9_agreed_41 : decode cX9_agreed 41 = .ok (.if_icmp .lt 7, 3) := by decide +kernel
theorem dX9_agreed_44 : decode cX9_agreed 44 = .ok (.iconst 1, 1) := by decide +kernel
theorem dX9_agreed_45 : decode cX9_agreed 45 = .ok (.goto 4, 3) := by decide +kernel
theorem dX9_agreed_48 : decode cX9_agreed 48 = .ok (.iconst 0, 1) := by decide +kernel
theorem dX9_agreed_49 : decode cX9_agreed 49 = .ok (.ireturn, 1) := by decide +kernel
theorem dX9_agenda_0 : decode cX9_agenda 0 = .ok (.iload_n 1, 1) := by decide +kernel
theorem dX9_agenda_1 : decode cX9_agenda 1 = .ok (.invokestatic 252, 3) := by decide +kernel
theorem dX9_agenda_4 : decode cX9_agenda 4 = .ok (.ifCond .eq 15, 3) := by decide +kernel
theorem dX9_agenda_7 : decode cX9_agenda 7 = .ok (.iload_n 2, 1) := by decide +kernel
theorem dX9_agenda_8 : decode cX9_agenda 8 = .ok (.invokestatic 252, 3) := by decide +kernel
theorem dX9_agenda_11 : decode cX9_agenda 11 = .ok (.ifCond .eq 8, 3) := by decide +kernel
theorem dX9_agenda_14 : decode cX9_agenda 14 = .ok (.iload_n 1, 1) := by decide +kernel
theorem dX9_agenda_15 : decode cX9_agenda 15 = .ok (.iload_n 2, 1) := by decide +kernel
theorem dX9_agenda_16 : decode cX9_agenda 16 = .ok (.if_icmp .ne 6, 3) := by decide +kernel
theorem dX9_agenda_19 : decode cX9_agenda 19 = .ok (.ldc 68, 2) := by decide +kernel
theorem dX9_agenda_21 : decode cX9_agenda 21 = .ok (.ireturn, 1) := by decide +kernel
theorem dX9_agenda_22 : decode cX9_agenda 22 = .ok (.aload_n 0, 1) := by decide +kernel
theorem dX9_agenda_23 : decode cX9_agenda 23 = .ok (.invokevirtual 141, 3) := by decide +kernel
theorem dX9_agenda_26 : decode cX9_agenda 26 = .ok (.ifCond .ne 6, 3) := by decide +kernel
theorem dX9_agenda_29 : decode cX9_agenda 29 = .ok (.ldc 193, 2) := by decide +kernel
theorem dX9_agenda_31 : decode cX9_agenda 31 = .ok (.ireturn, 1) := by decide +kernel
theorem dX9_agenda_32 : decode cX9_agenda 32 = .ok (.aload_n 0, 1) := by decide +kernel
theorem dX9_agenda_33 : decode cX9_agenda 33 = .ok (.getfield 60, 3) := by decide +kernel
theorem dX9_agenda_36 : decode cX9_agenda 36 = .ok (.iload_n 1, 1) := by decide +kernel
theorem dX9_agenda_37 : decode cX9_agenda 37 = .ok (.iload_n 2, 1) := by decide +kernel
theorem dX9_agenda_38 : decode cX9_agenda 38 = .ok (.invokevirtual 255, 3) := by decide +kernel
theorem dX9_agenda_41 : decode cX9_agenda 41 = .ok (.ireturn, 1) := by decide +kernel
theorem dX9_agendaFor_0 : decode cX9_agendaFor 0 = .ok (.iload_n 1, 1) := by decide +kernel
theorem dX9_agendaFor_1 : decode cX9_agendaFor 1 = .ok (.invokestatic 252, 3) := by decide +kernel
theorem dX9_agendaFor_4 : decode cX9_agendaFor 4 = .ok (.ifCond .ne 6, 3) := by decide +kernel
theorem dX9_agendaFor_7 : decode cX9_agendaFor 7 = .ok (.ldc 68, 2) := by decide +kernel
theorem dX9_agendaFor_9 : decode cX9_agendaFor 9 = .ok (.ireturn, 1) := by decide +kernel
theorem dX9_agendaFor_10 : decode cX9_agendaFor 10 = .ok (.aload_n 0, 1) := by decide +kernel
theorem dX9_agendaFor_11 : decode cX9_agendaFor 11 = .ok (.invokevirtual 141, 3) := by decide +kernel
theorem dX9_agendaFor_14 : decode cX9_agendaFor 14 = .ok (.ifCond .ne 6, 3) := by decide +kernel
theorem dX9_agendaFor_17 : decode cX9_agendaFor 17 = .ok (.ldc 193, 2) := by decide +kernel
theorem dX9_agendaFor_19 : decode cX9_agendaFor 19 = .ok (.ireturn, 1) := by decide +kernel
theorem dX9_agendaFor_20 : decode cX9_agendaFor 20 = .ok (.iconst 0, 1) := by decide +kernel
theorem dX9_agendaFor_21 : decode cX9_agendaFor 21 = .ok (.istore_n 2, 1) := by decide +kernel
theorem dX9_agendaFor_22 : decode cX9_agendaFor 22 = .ok (.iload_n 2, 1) := by decide +kernel
theorem dX9_agendaFor_23 : decode cX9_agendaFor 23 = .ok (.iconst 3, 1) := by decide +kernel
theorem dX9_agendaFor_24 : decode cX9_agendaFor 24 = .ok (.if_icmp .ge 44, 3) := by decide +kernel
theorem dX9_agendaFor_27 : decode cX9_agendaFor 27 = .ok (.iload_n 2, 1) := by decide +kernel
theorem dX9_agendaFor_28 : decode cX9_agendaFor 28 = .ok (.iconst 1, 1) := by decide +kernel
theorem dX9_agendaFor_29 : decode cX9_agendaFor 29 = .ok (.iadd, 1) := by decide +kernel
theorem dX9_agendaFor_30 : decode cX9_agendaFor 30 = .ok (.istore_n 3, 1) := by decide +kernel
theorem dX9_agendaFor_31 : decode cX9_agendaFor 31 = .ok (.iload_n 3, 1) := by decide +kernel
theorem dX9_agendaFor_32 : decode cX9_agendaFor 32 = .ok (.iconst 3, 1) := by decide +kernel
theorem dX9_agendaFor_33 : decode cX9_agendaFor 33 = .ok (.if_icmp .ge 29, 3) := by decide +kernel
theorem dX9_agendaFor_36 : decode cX9_agendaFor 36 = .ok (.aload_n 0, 1) := by decide +kernel
theorem dX9_agendaFor_37 : decode cX9_agendaFor 37 = .ok (.getfield 60, 3) := by decide +kernel
theorem dX9_agendaFor_40 : decode cX9_agendaFor 40 = .ok (.iload_n 2, 1) := by decide +kernel
theorem dX9_agendaFor_41 : decode cX9_agendaFor 41 = .ok (.iload_n 3, 1) := by decide +kernel
theorem dX9_agendaFor_42 : decode cX9_agendaFor 42 = .ok (.invokevirtual 255, 3) := by decide +kernel
theorem dX9_agendaFor_45 : decode cX9_agendaFor 45 = .ok (.iload_n 1, 1) := by decide +kernel
theorem dX9_agendaFor_46 : decode cX9_agendaFor 46 = .ok (.if_icmp .ne 10, 3) := by decide +kernel
theorem dX9_agendaFor_49 : decode cX9_agendaFor 49 = .ok (.bipush 10, 2) := by decide +kernel
theorem dX9_agendaFor_51 : decode cX9_agendaFor 51 = .ok (.iload_n 2, 1) := by decide +kernel
theorem dX9_agendaFor_52 : decode cX9_agendaFor 52 = .ok (.imul, 1) := by decide +kernel
theorem dX9_agendaFor_53 : decode cX9_agendaFor 53 = .ok (.iload_n 3, 1) := by decide +kernel
theorem dX9_agendaFor_54 : decode cX9_agendaFor 54 = .ok (.iadd, 1) := by decide +kernel
theorem dX9_agendaFor_55 : decode cX9_agendaFor 55 = .ok (.ireturn, 1) := by decide +kernel
theorem dX9_agendaFor_56 : decode cX9_agendaFor 56 = .ok (.iinc 3 1, 3) := by decide +kernel
theorem dX9_agendaFor_59 : decode cX9_agendaFor 59 = .ok (.goto (-28), 3) := by decide +kernel
theorem dX9_agendaFor_62 : decode cX9_agendaFor 62 = .ok (.iinc 2 1, 3) := by decide +kernel
theorem dX9_agendaFor_65 : decode cX9_agendaFor 65 = .ok (.goto (-43), 3) := by decide +kernel
theorem dX9_agendaFor_68 : decode cX9_agendaFor 68 = .ok (.iconst (-1), 1) := by decide +kernel
theorem dX9_agendaFor_69 : decode cX9_agendaFor 69 = .ok (.ireturn, 1) := by decide +kernel
theorem dX9_wanted_0 : decode cX9_wanted 0 = .ok (.iload_n 1, 1) := by decide +kernel
theorem dX9_wanted_1 : decode cX9_wanted 1 = .ok (.iconst (-1), 1) := by decide +kernel
theorem dX9_wanted_2 : decode cX9_wanted 2 = .ok (.if_icmp .eq 17, 3) := by decide +kernel
theorem dX9_wanted_5 : decode cX9_wanted 5 = .ok (.aload_n 0, 1) := by decide +kernel
theorem dX9_wanted_6 : decode cX9_wanted 6 = .ok (.getfield 60, 3) := by decide +kernel
theorem dX9_wanted_9 : decode cX9_wanted 9 = .ok (.iload_n 1, 1) := by decide +kernel
theorem dX9_wanted_10 : decode cX9_wanted 10 = .ok (.invokevirtual 179, 3) := by decide +kernel
theorem dX9_wanted_13 : decode cX9_wanted 13 = .ok (.ifCond .ne 6, 3) := by decide +kernel
theorem dX9_wanted_16 : decode cX9_wanted 16 = .ok (.ldc 157, 2) := by decide +kernel
theorem dX9_wanted_18 : decode cX9_wanted 18 = .ok (.ireturn, 1) := by decide +kernel
theorem dX9_wanted_19 : decode cX9_wanted 19 = .ok (.aload_n 0, 1) := by decide +kernel
theorem dX9_wanted_20 : decode cX9_wanted 20 = .ok (.getfield 53, 3) := by decide +kernel
theorem dX9_wanted_23 : decode cX9_wanted 23 = .ok (.aload_n 0, 1) := by decide +kernel
theorem dX9_wanted_24 : decode cX9_wanted 24 = .ok (.getfield 60, 3) := by decide +kernel
theorem dX9_wanted_27 : decode cX9_wanted 27 = .ok (.aload_n 0, 1) := by decide +kernel
theorem dX9_wanted_28 : decode cX9_wanted 28 = .ok (.getfield 19, 3) := by decide +kernel
theorem dX9_wanted_31 : decode cX9_wanted 31 = .ok (.invokevirtual 259, 3) := by decide +kernel
theorem dX9_wanted_34 : decode cX9_wanted 34 = .ok (.iload_n 1, 1) := by decide +kernel
theorem dX9_wanted_35 : decode cX9_wanted 35 = .ok (.iconst (-1), 1) := by decide +kernel
theorem dX9_wanted_36 : decode cX9_wanted 36 = .ok (.if_icmp .ne 13, 3) := by decide +kernel
theorem dX9_wanted_39 : decode cX9_wanted 39 = .ok (.aload_n 0, 1) := by decide +kernel
theorem dX9_wanted_40 : decode cX9_wanted 40 = .ok (.getfield 53, 3) := by decide +kernel
theorem dX9_wanted_43 : decode cX9_wanted 43 = .ok (.invokevirtual 263, 3) := by decide +kernel
theorem dX9_wanted_46 : decode cX9_wanted 46 = .ok (.goto 19, 3) := by decide +kernel
theorem dX9_wanted_49 : decode cX9_wanted 49 = .ok (.aload_n 0, 1) := by decide +kernel
theorem dX9_wanted_50 : decode cX9_wanted 50 = .ok (.getfield 53, 3) := by decide +kernel
theorem dX9_wanted_53 : decode cX9_wanted 53 = .ok (.aload_n 0, 1) := by decide +kernel
theorem dX9_wanted_54 : decode cX9_wanted 54 = .ok (.getfield 60, 3) := by decide +kernel
theorem dX9_wanted_57 : decode cX9_wanted 57 = .ok (.aload_n 0, 1) := by decide +kernel
theorem dX9_wanted_58 : decode cX9_wanted 58 = .ok (.getfield 19, 3) := by decide +kernel
theorem dX9_wanted_61 : decode cX9_wanted 61 = .ok (.iload_n 1, 1) := by decide +kernel
theorem dX9_wanted_62 : decode cX9_wanted 62 = .ok (.invokevirtual 266, 3) := by decide +kernel
theorem dX9_wanted_65 : decode cX9_wanted 65 = .ok (.ireturn, 1) := by decide +kernel
theorem dX9_know_0 : decode cX9_know 0 = .ok (.aload_n 0, 1) := by decide +kernel
theorem dX9_know_1 : decode cX9_know 1 = .ok (.getfield 60, 3) := by decide +kernel
theorem dX9_know_4 : decode cX9_know 4 = .ok (.iload_n 1, 1) := by decide +kernel
theorem dX9_know_5 : decode cX9_know 5 = .ok (.invokevirtual 179, 3) := by decide +kernel
theorem dX9_know_8 : decode cX9_know 8 = .ok (.ifCond .ne 6, 3) := by decide +kernel
theorem dX9_know_11 : decode cX9_know 11 = .ok (.ldc 157, 2) := by decide +kernel
theorem dX9_know_13 : decode cX9_know 13 = .ok (.ireturn, 1) := by decide +kernel
theorem dX9_know_14 : decode cX9_know 14 = .ok (.iload_n 2, 1) := by decide +kernel
theorem dX9_know_15 : decode cX9_know 15 = .ok (.iconst (-1), 1) := by decide +kernel
theorem dX9_know_16 : decode cX9_know 16 = .ok (.if_icmp .eq 16, 3) := by decide +kernel
theorem dX9_know_19 : decode cX9_know 19 = .ok (.iload_n 2, 1) := by decide +kernel
theorem dX9_know_20 : decode cX9_know 20 = .ok (.ifCond .lt 9, 3) := by decide +kernel
theorem dX9_know_23 : decode cX9_know 23 = .ok (.iload_n 2, 1) := by decide +kernel
theorem dX9_know_24 : decode cX9_know 24 = .ok (.bipush 20, 2) := by decide +kernel
theorem dX9_know_26 : decode cX9_know 26 = .ok (.if_icmp .le 6, 3) := by decide +kernel
theorem dX9_know_29 : decode cX9_know 29 = .ok (.ldc 68, 2) := by decide +kernel
theorem dX9_know_31 : decode cX9_know 31 = .ok (.ireturn, 1) := by decide +kernel
theorem dX9_know_32 : decode cX9_know 32 = .ok (.iconst 1, 1) := by decide +kernel
theorem dX9_know_33 : decode cX9_know 33 = .ok (.iload_n 1, 1) := by decide +kernel
theorem dX9_know_34 : decode cX9_know 34 = .ok (.ishl, 1) := by decide +kernel
theorem dX9_know_35 : decode cX9_know 35 = .ok (.istore_n 3, 1) := by decide +kernel
theorem dX9_know_36 : decode cX9_know 36 = .ok (.iload_n 2, 1) := by decide +kernel
theorem dX9_know_37 : decode cX9_know 37 = .ok (.iconst (-1), 1) := by decide +kernel
theorem dX9_know_38 : decode cX9_know 38 = .ok (.if_icmp .ne 9, 3) := by decide +kernel
theorem dX9_know_41 : decode cX9_know 41 = .ok (.aload_n 0, 1) := by decide +kernel
theorem dX9_know_42 : decode cX9_know 42 = .ok (.iload_n 3, 1) := by decide +kernel
theorem dX9_know_43 : decode cX9_know 43 = .ok (.invokevirtual 269, 3) := by decide +kernel
theorem dX9_know_46 : decode cX9_know 46 = .ok (.ireturn, 1) := by decide +kernel
theorem dX9_know_47 : decode cX9_know 47 = .ok (.iconst 0, 1) := by decide +kernel
theorem dX9_know_48 : decode cX9_know 48 = .ok (.istore 4, 2) := by decide +kernel
theorem dX9_know_50 : decode cX9_know 50 = .ok (.iload 4, 2) := by decide +kernel
theorem dX9_know_52 : decode cX9_know 52 = .ok (.iload_n 2, 1) := by decide +kernel
theorem dX9_know_53 : decode cX9_know 53 = .ok (.if_icmp .ge 18, 3) := by decide +kernel
theorem dX9_know_56 : decode cX9_know 56 = .ok (.aload_n 0, 1) := by decide +kernel
theorem dX9_know_57 : decode cX9_know 57 = .ok (.getfield 60, 3) := by decide +kernel
theorem dX9_know_60 : decode cX9_know 60 = .ok (.iload_n 3, 1) := by decide +kernel
theorem dX9_know_61 : decode cX9_know 61 = .ok (.invokevirtual 272, 3) := by decide +kernel
theorem dX9_know_64 : decode cX9_know 64 = .ok (.istore_n 3, 1) := by decide +kernel
theorem dX9_know_65 : decode cX9_know 65 = .ok (.iinc 4 1, 3) := by decide +kernel
theorem dX9_know_68 : decode cX9_know 68 = .ok (.goto (-18), 3) := by decide +kernel
theorem dX9_know_71 : decode cX9_know 71 = .ok (.iload_n 3, 1) := by decide +kernel
theorem dX9_know_72 : decode cX9_know 72 = .ok (.ireturn, 1) := by decide +kernel
theorem dX9_parcels_0 : decode cX9_parcels 0 = .ok (.iload_n 1, 1) := by decide +kernel
theorem dX9_parcels_1 : decode cX9_parcels 1 = .ok (.ifCond .lt 19, 3) := by decide +kernel
theorem dX9_parcels_4 : decode cX9_parcels 4 = .ok (.iload_n 1, 1) := by decide +kernel
theorem dX9_parcels_5 : decode cX9_parcels 5 = .ok (.bipush 60, 2) := by decide +kernel
theorem dX9_parcels_7 : decode cX9_parcels 7 = .ok (.if_icmp .gt 13, 3) := by decide +kernel
theorem dX9_parcels_10 : decode cX9_parcels 10 = .ok (.iload_n 2, 1) := by decide +kernel
theorem dX9_parcels_11 : decode cX9_parcels 11 = .ok (.ifCond .lt 9, 3) := by decide +kernel
theorem dX9_parcels_14 : decode cX9_parcels 14 = .ok (.iload_n 2, 1) := by decide +kernel
theorem dX9_parcels_15 : decode cX9_parcels 15 = .ok (.bipush 100, 2) := by decide +kernel
theorem dX9_parcels_17 : decode cX9_parcels 17 = .ok (.if_icmp .le 6, 3) := by decide +kernel
theorem dX9_parcels_20 : decode cX9_parcels 20 = .ok (.ldc 68, 2) := by decide +kernel
theorem dX9_parcels_22 : decode cX9_parcels 22 = .ok (.ireturn, 1) := by decide +kernel
theorem dX9_parcels_23 : decode cX9_parcels 23 = .ok (.ldc2_w 275, 3) := by decide +kernel
theorem dX9_parcels_26 : decode cX9_parcels 26 = .ok (.lstore_n 3, 1) := by decide +kernel
theorem dX9_parcels_27 : decode cX9_parcels 27 = .ok (.iconst 0, 1) := by decide +kernel
theorem dX9_parcels_28 : decode cX9_parcels 28 = .ok (.istore 5, 2) := by decide +kernel
theorem dX9_parcels_30 : decode cX9_parcels 30 = .ok (.iload 5, 2) := by decide +kernel
theorem dX9_parcels_32 : decode cX9_parcels 32 = .ok (.iload_n 1, 1) := by decide +kernel
theorem dX9_parcels_33 : decode cX9_parcels 33 = .ok (.if_icmp .ge 21, 3) := by decide +kernel
theorem dX9_parcels_36 : decode cX9_parcels 36 = .ok (.lload_n 3, 1) := by decide +kernel
theorem dX9_parcels_37 : decode cX9_parcels 37 = .ok (.bipush 100, 2) := by decide +kernel
theorem dX9_parcels_39 : decode cX9_parcels 39 = .ok (.iload_n 2, 1) := by decide +kernel
theorem dX9_parcels_40 : decode cX9_parcels 40 = .ok (.isub, 1) := by decide +kernel
theorem dX9_parcels_41 : decode cX9_parcels 41 = .ok (.i2l, 1) := by decide +kernel
theorem dX9_parcels_42 : decode cX9_parcels 42 = .ok (.lmul, 1) := by decide +kernel
theorem dX9_parcels_43 : decode cX9_parcels 43 = .ok (.ldc2_w 277, 3) := by decide +kernel
theorem dX9_parcels_46 : decode cX9_parcels 46 = .ok (.ldiv, 1) := by decide +kernel
theorem dX9_parcels_47 : decode cX9_parcels 47 = .ok (.lstore_n 3, 1) := by decide +kernel
theorem dX9_parcels_48 : decode cX9_parcels 48 = .ok (.iinc 5 1, 3) := by decide +kernel
theorem dX9_parcels_51 : decode cX9_parcels 51 = .ok (.goto (-21), 3) := by decide +kernel
theorem dX9_parcels_54 : decode cX9_parcels 54 = .ok (.lload_n 3, 1) := by decide +kernel
theorem dX9_parcels_55 : decode cX9_parcels 55 = .ok (.l2i, 1) := by decide +kernel
theorem dX9_parcels_56 : decode cX9_parcels 56 = .ok (.ireturn, 1) := by decide +kernel
theorem dX9_write_0 : decode cX9_write 0 = .ok (.aload_n 0, 1) := by decide +kernel
theorem dX9_write_1 : decode cX9_write 1 = .ok (.getfield 60, 3) := by decide +kernel
theorem dX9_write_4 : decode cX9_write 4 = .ok (.iload_n 1, 1) := by decide +kernel
theorem dX9_write_5 : decode cX9_write 5 = .ok (.invokevirtual 153, 3) := by decide +kernel
theorem dX9_write_8 : decode cX9_write 8 = .ok (.ifCond .eq 14, 3) := by decide +kernel
theorem dX9_write_11 : decode cX9_write 11 = .ok (.aload_n 0, 1) := by decide +kernel
theorem dX9_write_12 : decode cX9_write 12 = .ok (.getfield 60, 3) := by decide +kernel
theorem dX9_write_15 : decode cX9_write 15 = .ok (.iload_n 2, 1) := by decide +kernel
theorem dX9_write_16 : decode cX9_write 16 = .ok (.invokevirtual 179, 3) := by decide +kernel
theorem dX9_write_19 : decode cX9_write 19 = .ok (.ifCond .ne 6, 3) := by decide +kernel
theorem dX9_write_22 : decode cX9_write 22 = .ok (.ldc 157, 2) := by decide +kernel
theorem dX9_write_24 : decode cX9_write 24 = .ok (.ireturn, 1) := by decide +kernel
theorem dX9_write_25 : decode cX9_write 25 = .ok (.aload_n 0, 1) := by decide +kernel
theorem dX9_write_26 : decode cX9_write 26 = .ok (.getfield 33, 3) := by decide +kernel
theorem dX9_write_29 : decode cX9_write 29 = .ok (.getfield 92, 3) := by decide +kernel
theorem dX9_write_32 : decode cX9_write 32 = .ok (.bipush 15, 2) := by decide +kernel
theorem dX9_write_34 : decode cX9_write 34 = .ok (.if_icmp .lt 6, 3) := by decide +kernel
theorem dX9_write_37 : decode cX9_write 37 = .ok (.ldc 73, 2) := by decide +kernel
theorem dX9_write_39 : decode cX9_write 39 = .ok (.ireturn, 1) := by decide +kernel
theorem dX9_write_40 : decode cX9_write 40 = .ok (.aload_n 0, 1) := by decide +kernel
theorem dX9_write_41 : decode cX9_write 41 = .ok (.getfield 33, 3) := by decide +kernel
theorem dX9_write_44 : decode cX9_write 44 = .ok (.iload_n 1, 1) := by decide +kernel
theorem dX9_write_45 : decode cX9_write 45 = .ok (.iload_n 2, 1) := by decide +kernel
theorem dX9_write_46 : decode cX9_write 46 = .ok (.invokevirtual 279, 3) := by decide +kernel
theorem dX9_write_49 : decode cX9_write 49 = .ok (.aload_n 0, 1) := by decide +kernel
theorem dX9_write_50 : decode cX9_write 50 = .ok (.getfield 33, 3) := by decide +kernel
theorem dX9_write_53 : decode cX9_write 53 = .ok (.getfield 92, 3) := by decide +kernel
theorem dX9_write_56 : decode cX9_write 56 = .ok (.ireturn, 1) := by decide +kernel
theorem dX9_tear_0 : decode cX9_tear 0 = .ok (.aload_n 0, 1) := by decide +kernel
theorem dX9_tear_1 : decode cX9_tear 1 = .ok (.getfield 33, 3) := by decide +kernel
theorem dX9_tear_4 : decode cX9_tear 4 = .ok (.getfield 92, 3) := by decide +kernel
theorem dX9_tear_7 : decode cX9_tear 7 = .ok (.istore_n 1, 1) := by decide +kernel
theorem dX9_tear_8 : decode cX9_tear 8 = .ok (.aload_n 0, 1) := by decide +kernel
theorem dX9_tear_9 : decode cX9_tear 9 = .ok (.getfield 33, 3) := by decide +kernel
theorem dX9_tear_12 : decode cX9_tear 12 = .ok (.iconst 0, 1) := by decide +kernel
theorem dX9_tear_13 : decode cX9_tear 13 = .ok (.putfield 92, 3) := by decide +kernel
theorem dX9_tear_16 : decode cX9_tear 16 = .ok (.iload_n 1, 1) := by decide +kernel
theorem dX9_tear_17 : decode cX9_tear 17 = .ok (.ireturn, 1) := by decide +kernel
theorem dX9_judge_0 : decode cX9_judge 0 = .ok (.aload_n 0, 1) := by decide +kernel
theorem dX9_judge_1 : decode cX9_judge 1 = .ok (.getfield 33, 3) := by decide +kernel
theorem dX9_judge_4 : decode cX9_judge 4 = .ok (.aload_n 0, 1) := by decide +kernel
theorem dX9_judge_5 : decode cX9_judge 5 = .ok (.getfield 19, 3) := by decide +kernel
theorem dX9_judge_8 : decode cX9_judge 8 = .ok (.invokevirtual 282, 3) := by decide +kernel
theorem dX9_judge_11 : decode cX9_judge 11 = .ok (.ireturn, 1) := by decide +kernel
theorem dX9_seed_0 : decode cX9_seed 0 = .ok (.iload_n 1, 1) := by decide +kernel
theorem dX9_seed_1 : decode cX9_seed 1 = .ok (.ifCond .ge 6, 3) := by decide +kernel
theorem dX9_seed_4 : decode cX9_seed 4 = .ok (.ldc 68, 2) := by decide +kernel
theorem dX9_seed_6 : decode cX9_seed 6 = .ok (.ireturn, 1) := by decide +kernel
theorem dX9_seed_7 : decode cX9_seed 7 = .ok (.aload_n 0, 1) := by decide +kernel
theorem dX9_seed_8 : decode cX9_seed 8 = .ok (.getfield 286, 3) := by decide +kernel
theorem dX9_seed_11 : decode cX9_seed 11 = .ok (.istore_n 2, 1) := by decide +kernel
theorem dX9_seed_12 : decode cX9_seed 12 = .ok (.aload_n 0, 1) := by decide +kernel
theorem dX9_seed_13 : decode cX9_seed 13 = .ok (.iload_n 1, 1) := by decide +kernel
theorem dX9_seed_14 : decode cX9_seed 14 = .ok (.putfield 286, 3) := by decide +kernel
theorem dX9_seed_17 : decode cX9_seed 17 = .ok (.iload_n 2, 1) := by decide +kernel
theorem dX9_seed_18 : decode cX9_seed 18 = .ok (.ireturn, 1) := by decide +kernel
theorem dX9_keep_0 : decode cX9_keep 0 = .ok (.iload_n 1, 1) := by decide +kernel
theorem dX9_keep_1 : decode cX9_keep 1 = .ok (.ifCond .lt 8, 3) := by decide +kernel
theorem dX9_keep_4 : decode cX9_keep 4 = .ok (.iload_n 1, 1) := by decide +kernel
theorem dX9_keep_5 : decode cX9_keep 5 = .ok (.iconst 2, 1) := by decide +kernel
theorem dX9_keep_6 : decode cX9_keep 6 = .ok (.if_icmp .lt 6, 3) := by decide +kernel
theorem dX9_keep_9 : decode cX9_keep 9 = .ok (.ldc 157, 2) := by decide +kernel
theorem dX9_keep_11 : decode cX9_keep 11 = .ok (.ireturn, 1) := by decide +kernel
theorem dX9_keep_12 : decode cX9_keep 12 = .ok (.aload_n 0, 1) := by decide +kernel
theorem dX9_keep_13 : decode cX9_keep 13 = .ok (.getfield 39, 3) := by decide +kernel
theorem dX9_keep_16 : decode cX9_keep 16 = .ok (.iload_n 1, 1) := by decide +kernel
theorem dX9_keep_17 : decode cX9_keep 17 = .ok (.aaload, 1) := by decide +kernel
theorem dX9_keep_18 : decode cX9_keep 18 = .ok (.astore_n 2, 1) := by decide +kernel
theorem dX9_keep_19 : decode cX9_keep 19 = .ok (.aload_n 2, 1) := by decide +kernel
theorem dX9_keep_20 : decode cX9_keep 20 = .ok (.getfield 289, 3) := by decide +kernel
theorem dX9_keep_23 : decode cX9_keep 23 = .ok (.aload_n 0, 1) := by decide +kernel
theorem dX9_keep_24 : decode cX9_keep 24 = .ok (.getfield 19, 3) := by decide +kernel
theorem dX9_keep_27 : decode cX9_keep 27 = .ok (.invokevirtual 292, 3) := by decide +kernel
theorem dX9_keep_30 : decode cX9_keep 30 = .ok (.aload_n 2, 1) := by decide +kernel
theorem dX9_keep_31 : decode cX9_keep 31 = .ok (.aload_n 0, 1) := by decide +kernel
theorem dX9_keep_32 : decode cX9_keep 32 = .ok (.getfield 286, 3) := by decide +kernel
theorem dX9_keep_35 : decode cX9_keep 35 = .ok (.putfield 295, 3) := by decide +kernel
theorem dX9_keep_38 : decode cX9_keep 38 = .ok (.aload_n 2, 1) := by decide +kernel
theorem dX9_keep_39 : decode cX9_keep 39 = .ok (.iconst 1, 1) := by decide +kernel
theorem dX9_keep_40 : decode cX9_keep 40 = .ok (.putfield 93, 3) := by decide +kernel
theorem dX9_keep_43 : decode cX9_keep 43 = .ok (.aload_n 0, 1) := by decide +kernel
theorem dX9_keep_44 : decode cX9_keep 44 = .ok (.getfield 26, 3) := by decide +kernel
theorem dX9_keep_47 : decode cX9_keep 47 = .ok (.invokevirtual 89, 3) := by decide +kernel
theorem dX9_keep_50 : decode cX9_keep 50 = .ok (.iconst 1, 1) := by decide +kernel
theorem dX9_keep_51 : decode cX9_keep 51 = .ok (.ireturn, 1) := by decide +kernel
theorem dX9_goBack_0 : decode cX9_goBack 0 = .ok (.iload_n 1, 1) := by decide +kernel
theorem dX9_goBack_1 : decode cX9_goBack 1 = .ok (.ifCond .lt 8, 3) := by decide +kernel
theorem dX9_goBack_4 : decode cX9_goBack 4 = .ok (.iload_n 1, 1) := by decide +kernel
theorem dX9_goBack_5 : decode cX9_goBack 5 = .ok (.iconst 2, 1) := by decide +kernel
theorem dX9_goBack_6 : decode cX9_goBack 6 = .ok (.if_icmp .lt 6, 3) := by decide +kernel
theorem dX9_goBack_9 : decode cX9_goBack 9 = .ok (.ldc 157, 2) := by decide +kernel
theorem dX9_goBack_11 : decode cX9_goBack 11 = .ok (.ireturn, 1) := by decide +kernel
theorem dX9_goBack_12 : decode cX9_goBack 12 = .ok (.aload_n 0, 1) := by decide +kernel
theorem dX9_goBack_13 : decode cX9_goBack 13 = .ok (.getfield 39, 3) := by decide +kernel
theorem dX9_goBack_16 : decode cX9_goBack 16 = .ok (.iload_n 1, 1) := by decide +kernel
theorem dX9_goBack_17 : decode cX9_goBack 17 = .ok (.aaload, 1) := by decide +kernel
theorem dX9_goBack_18 : decode cX9_goBack 18 = .ok (.astore_n 2, 1) := by decide +kernel
theorem dX9_goBack_19 : decode cX9_goBack 19 = .ok (.aload_n 2, 1) := by decide +kernel
theorem dX9_goBack_20 : decode cX9_goBack 20 = .ok (.getfield 93, 3) := by decide +kernel
theorem dX9_goBack_23 : decode cX9_goBack 23 = .ok (.ifCond .ne 6, 3) := by decide +kernel
theorem dX9_goBack_26 : decode cX9_goBack 26 = .ok (.ldc 193, 2) := by decide +kernel
theorem dX9_goBack_28 : decode cX9_goBack 28 = .ok (.ireturn, 1) := by decide +kernel
theorem dX9_goBack_29 : decode cX9_goBack 29 = .ok (.aload_n 0, 1) := by decide +kernel
theorem dX9_goBack_30 : decode cX9_goBack 30 = .ok (.getfield 19, 3) := by decide +kernel
theorem dX9_goBack_33 : decode cX9_goBack 33 = .ok (.aload_n 2, 1) := by decide +kernel
theorem dX9_goBack_34 : decode cX9_goBack 34 = .ok (.getfield 289, 3) := by decide +kernel
theorem dX9_goBack_37 : decode cX9_goBack 37 = .ok (.invokevirtual 292, 3) := by decide +kernel
theorem dX9_goBack_40 : decode cX9_goBack 40 = .ok (.aload_n 0, 1) := by decide +kernel
theorem dX9_goBack_41 : decode cX9_goBack 41 = .ok (.aload_n 2, 1) := by decide +kernel
theorem dX9_goBack_42 : decode cX9_goBack 42 = .ok (.getfield 295, 3) := by decide +kernel
theorem dX9_goBack_45 : decode cX9_goBack 45 = .ok (.putfield 286, 3) := by decide +kernel
theorem dX9_goBack_48 : decode cX9_goBack 48 = .ok (.aload_n 0, 1) := by decide +kernel
theorem dX9_goBack_49 : decode cX9_goBack 49 = .ok (.getfield 26, 3) := by decide +kernel
theorem dX9_goBack_52 : decode cX9_goBack 52 = .ok (.invokevirtual 89, 3) := by decide +kernel
theorem dX9_goBack_55 : decode cX9_goBack 55 = .ok (.iconst 1, 1) := by decide +kernel
theorem dX9_goBack_56 : decode cX9_goBack 56 = .ok (.ireturn, 1) := by decide +kernel
theorem dX9_hasCongress_0 : decode cX9_hasCongress 0 = .ok (.aload_n 0, 1) := by decide +kernel
theorem dX9_hasCongress_1 : decode cX9_hasCongress 1 = .ok (.getfield 60, 3) := by decide +kernel
theorem dX9_hasCongress_4 : decode cX9_hasCongress 4 = .ok (.getfield 103, 3) := by decide +kernel
theorem dX9_hasCongress_7 : decode cX9_hasCongress 7 = .ok (.ifCond .le 7, 3) := by decide +kernel
theorem dX9_hasCongress_10 : decode cX9_hasCongress 10 = .ok (.iconst 1, 1) := by decide +kernel
theorem dX9_hasCongress_11 : decode cX9_hasCongress 11 = .ok (.goto 4, 3) := by decide +kernel
theorem dX9_hasCongress_14 : decode cX9_hasCongress 14 = .ok (.iconst 0, 1) := by decide +kernel
theorem dX9_hasCongress_15 : decode cX9_hasCongress 15 = .ok (.ireturn, 1) := by decide +kernel
theorem dX9_isThing_0 : decode cX9_isThing 0 = .ok (.iload_n 0, 1) := by decide +kernel
theorem dX9_isThing_1 : decode cX9_isThing 1 = .ok (.ifCond .lt 12, 3) := by decide +kernel
theorem dX9_isThing_4 : decode cX9_isThing 4 = .ok (.iload_n 0, 1) := by decide +kernel
theorem dX9_isThing_5 : decode cX9_isThing 5 = .ok (.iconst 3, 1) := by decide +kernel
theorem dX9_isThing_6 : decode cX9_isThing 6 = .ok (.if_icmp .ge 7, 3) := by decide +kernel
theorem dX9_isThing_9 : decode cX9_isThing 9 = .ok (.iconst 1, 1) := by decide +kernel
theorem dX9_isThing_10 : decode cX9_isThing 10 = .ok (.goto 4, 3) := by decide +kernel
theorem dX9_isThing_13 : decode cX9_isThing 13 = .ok (.iconst 0, 1) := by decide +kernel
theorem dX9_isThing_14 : decode cX9_isThing 14 = .ok (.ireturn, 1) := by decide +kernel
theorem dX9_dollsWith_0 : decode cX9_dollsWith 0 = .ok (.iconst 0, 1) := by decide +kernel
theorem dX9_dollsWith_1 : decode cX9_dollsWith 1 = .ok (.istore_n 3, 1) := by decide +kernel
theorem dX9_dollsWith_2 : decode cX9_dollsWith 2 = .ok (.iconst 0, 1) := by decide +kernel
theorem dX9_dollsWith_3 : decode cX9_dollsWith 3 = .ok (.istore 4, 2) := by decide +kernel
theorem dX9_dollsWith_5 : decode cX9_dollsWith 5 = .ok (.iload 4, 2) := by decide +kernel
theorem dX9_dollsWith_7 : decode cX9_dollsWith 7 = .ok (.aload_n 0, 1) := by decide +kernel
theorem dX9_dollsWith_8 : decode cX9_dollsWith 8 = .ok (.getfield 60, 3) := by decide +kernel
theorem dX9_dollsWith_11 : decode cX9_dollsWith 11 = .ok (.getfield 97, 3) := by decide +kernel
theorem dX9_dollsWith_14 : decode cX9_dollsWith 14 = .ok (.if_icmp .ge 24, 3) := by decide +kernel
theorem dX9_dollsWith_17 : decode cX9_dollsWith 17 = .ok (.aload_n 1, 1) := by decide +kernel
theorem dX9_dollsWith_18 : decode cX9_dollsWith 18 = .ok (.iload 4, 2) := by decide +kernel
theorem dX9_dollsWith_20 : decode cX9_dollsWith 20 = .ok (.iaload, 1) := by decide +kernel
theorem dX9_dollsWith_21 : decode cX9_dollsWith 21 = .ok (.iload_n 2, 1) := by decide +kernel
theorem dX9_dollsWith_22 : decode cX9_dollsWith 22 = .ok (.if_icmp .ne 10, 3) := by decide +kernel
theorem dX9_dollsWith_25 : decode cX9_dollsWith 25 = .ok (.iload_n 3, 1) := by decide +kernel
theorem dX9_dollsWith_26 : decode cX9_dollsWith 26 = .ok (.iconst 1, 1) := by decide +kernel
theorem dX9_dollsWith_27 : decode cX9_dollsWith 27 = .ok (.iload 4, 2) := by decide +kernel
theorem dX9_dollsWith_29 : decode cX9_dollsWith 29 = .ok (.ishl, 1) := by decide +kernel
theorem dX9_dollsWith_30 : decode cX9_dollsWith 30 = .ok (.ior, 1) := by decide +kernel
theorem dX9_dollsWith_31 : decode cX9_dollsWith 31 = .ok (.istore_n 3, 1) := by decide +kernel
theorem dX9_dollsWith_32 : decode cX9_dollsWith 32 = .ok (.iinc 4 1, 3) := by decide +kernel
theorem dX9_dollsWith_35 : decode cX9_dollsWith 35 = .ok (.goto (-30), 3) := by decide +kernel
theorem dX9_dollsWith_38 : decode cX9_dollsWith 38 = .ok (.iload_n 3, 1) := by decide +kernel
theorem dX9_dollsWith_39 : decode cX9_dollsWith 39 = .ok (.ireturn, 1) := by decide +kernel
theorem dX9_refusalOfYears_0 : decode cX9_refusalOfYears 0 = .ok (.iload_n 1, 1) := by decide +kernel
theorem dX9_refusalOfYears_1 : decode cX9_refusalOfYears 1 = .ok (.iconst 1, 1) := by decide +kernel
theorem dX9_refusalOfYears_2 : decode cX9_refusalOfYears 2 = .ok (.if_icmp .lt 9, 3) := by decide +kernel
theorem dX9_refusalOfYears_5 : decode cX9_refusalOfYears 5 = .ok (.iload_n 1, 1) := by decide +kernel
theorem dX9_refusalOfYears_6 : decode cX9_refusalOfYears 6 = .ok (.bipush 60, 2) := by decide +kernel
theorem dX9_refusalOfYears_8 : decode cX9_refusalOfYears 8 = .ok (.if_icmp .le 6, 3) := by decide +kernel
theorem dX9_refusalOfYears_11 : decode cX9_refusalOfYears 11 = .ok (.ldc 68, 2) := by decide +kernel
theorem dX9_refusalOfYears_13 : decode cX9_refusalOfYears 13 = .ok (.ireturn, 1) := by decide +kernel
theorem dX9_refusalOfYears_14 : decode cX9_refusalOfYears 14 = .ok (.aload_n 0, 1) := by decide +kernel
theorem dX9_refusalOfYears_15 : decode cX9_refusalOfYears 15 = .ok (.invokevirtual 141, 3) := by decide +kernel
theorem dX9_refusalOfYears_18 : decode cX9_refusalOfYears 18 = .ok (.ifCond .ne 6, 3) := by decide +kernel
theorem dX9_refusalOfYears_21 : decode cX9_refusalOfYears 21 = .ok (.ldc 193, 2) := by decide +kernel
theorem dX9_refusalOfYears_23 : decode cX9_refusalOfYears 23 = .ok (.ireturn, 1) := by decide +kernel
theorem dX9_refusalOfYears_24 : decode cX9_refusalOfYears 24 = .ok (.aload_n 0, 1) := by decide +kernel
theorem dX9_refusalOfYears_25 : decode cX9_refusalOfYears 25 = .ok (.getfield 19, 3) := by decide +kernel
theorem dX9_refusalOfYears_28 : decode cX9_refusalOfYears 28 = .ok (.getfield 112, 3) := by decide +kernel
theorem dX9_refusalOfYears_31 : decode cX9_refusalOfYears 31 = .ok (.sipush 9000, 3) := by decide +kernel
theorem dX9_refusalOfYears_34 : decode cX9_refusalOfYears 34 = .ok (.if_icmp .le 8, 3) := by decide +kernel
theorem dX9_refusalOfYears_37 : decode cX9_refusalOfYears 37 = .ok (.ldc 73, 2) := by decide +kernel
theorem dX9_refusalOfYears_39 : decode cX9_refusalOfYears 39 = .ok (.goto 4, 3) := by decide +kernel
theorem dX9_refusalOfYears_42 : decode cX9_refusalOfYears 42 = .ok (.iconst 0, 1) := by decide +kernel
theorem dX9_refusalOfYears_43 : decode cX9_refusalOfYears 43 = .ok (.ireturn, 1) := by decide +kernel
theorem dX9_draw_0 : decode cX9_draw 0 = .ok (.aload_n 0, 1) := by decide +kernel
theorem dX9_draw_1 : decode cX9_draw 1 = .ok (.aload_n 0, 1) := by decide +kernel
theorem dX9_draw_2 : decode cX9_draw 2 = .ok (.getfield 286, 3) := by decide +kernel
theorem dX9_draw_5 : decode cX9_draw 5 = .ok (.ldc_w 296, 3) := by decide +kernel
theorem dX9_draw_8 : decode cX9_draw 8 = .ok (.imul, 1) := by decide +kernel
theorem dX9_draw_9 : decode cX9_draw 9 = .ok (.sipush 12345, 3) := by decide +kernel
theorem dX9_draw_12 : decode cX9_draw 12 = .ok (.iadd, 1) := by decide +kernel
theorem dX9_draw_13 : decode cX9_draw 13 = .ok (.ldc_w 297, 3) := by decide +kernel
theorem dX9_draw_16 : decode cX9_draw 16 = .ok (.iand, 1) := by decide +kernel
theorem dX9_draw_17 : decode cX9_draw 17 = .ok (.putfield 286, 3) := by decide +kernel
theorem dX9_draw_20 : decode cX9_draw 20 = .ok (.iload_n 1, 1) := by decide +kernel
theorem dX9_draw_21 : decode cX9_draw 21 = .ok (.ifCond .le 16, 3) := by decide +kernel
theorem dX9_draw_24 : decode cX9_draw 24 = .ok (.aload_n 0, 1) := by decide +kernel
theorem dX9_draw_25 : decode cX9_draw 25 = .ok (.getfield 286, 3) := by decide +kernel
theorem dX9_draw_28 : decode cX9_draw 28 = .ok (.ldc_w 298, 3) := by decide +kernel
theorem dX9_draw_31 : decode cX9_draw 31 = .ok (.idiv, 1) := by decide +kernel
theorem dX9_draw_32 : decode cX9_draw 32 = .ok (.iload_n 1, 1) := by decide +kernel
theorem dX9_draw_33 : decode cX9_draw 33 = .ok (.irem, 1) := by decide +kernel
theorem dX9_draw_34 : decode cX9_draw 34 = .ok (.goto 4, 3) := by decide +kernel
theorem dX9_draw_37 : decode cX9_draw 37 = .ok (.iconst 0, 1) := by decide +kernel
theorem dX9_draw_38 : decode cX9_draw 38 = .ok (.ireturn, 1) := by decide +kernel
theorem dX9_meddle_0 : decode cX9_meddle 0 = .ok (.aload_n 0, 1) := by decide +kernel
theorem dX9_meddle_1 : decode cX9_meddle 1 = .ok (.iconst 5, 1) := by decide +kernel
theorem dX9_meddle_2 : decode cX9_meddle 2 = .ok (.invokevirtual 299, 3) := by decide +kernel
theorem dX9_meddle_5 : decode cX9_meddle 5 = .ok (.istore_n 1, 1) := by decide +kernel
theorem dX9_meddle_6 : decode cX9_meddle 6 = .ok (.aload_n 0, 1) := by decide +kernel
theorem dX9_meddle_7 : decode cX9_meddle 7 = .ok (.aload_n 0, 1) := by decide +kernel
theorem dX9_meddle_8 : decode cX9_meddle 8 = .ok (.getfield 60, 3) := by decide +kernel
theorem dX9_meddle_11 : decode cX9_meddle 11 = .ok (.getfield 97, 3) := by decide +kernel
theorem dX9_meddle_14 : decode cX9_meddle 14 = .ok (.invokevirtual 299, 3) := by decide +kernel
theorem dX9_meddle_17 : decode cX9_meddle 17 = .ok (.istore_n 2, 1) := by decide +kernel
theorem dX9_meddle_18 : decode cX9_meddle 18 = .ok (.iload_n 1, 1) := by decide +kernel
theorem dX9_meddle_19 : decode cX9_meddle 19 = .ok (.tableswitch 120 0 3 #[29, 66, 98, 109], 29) := by decide +kernel
theorem dX9_meddle_48 : decode cX9_meddle 48 = .ok (.aload_n 0, 1) := by decide +kernel
theorem dX9_meddle_49 : decode cX9_meddle 49 = .ok (.aload_n 0, 1) := by decide +kernel
theorem dX9_meddle_50 : decode cX9_meddle 50 = .ok (.getfield 60, 3) := by decide +kernel
theorem dX9_meddle_53 : decode cX9_meddle 53 = .ok (.getfield 103, 3) := by decide +kernel
theorem dX9_meddle_56 : decode cX9_meddle 56 = .ok (.invokevirtual 299, 3) := by decide +kernel
theorem dX9_meddle_59 : decode cX9_meddle 59 = .ok (.istore_n 3, 1) := by decide +kernel
theorem dX9_meddle_60 : decode cX9_meddle 60 = .ok (.aload_n 0, 1) := by decide +kernel
theorem dX9_meddle_61 : decode cX9_meddle 61 = .ok (.getfield 19, 3) := by decide +kernel
theorem dX9_meddle_64 : decode cX9_meddle 64 = .ok (.getfield 164, 3) := by decide +kernel
theorem dX9_meddle_67 : decode cX9_meddle 67 = .ok (.iload_n 2, 1) := by decide +kernel
theorem dX9_meddle_68 : decode cX9_meddle 68 = .ok (.iaload, 1) := by decide +kernel
theorem dX9_meddle_69 : decode cX9_meddle 69 = .ok (.iload_n 3, 1) := by decide +kernel
theorem dX9_meddle_70 : decode cX9_meddle 70 = .ok (.if_icmp .eq 81, 3) := by decide +kernel
theorem dX9_meddle_73 : decode cX9_meddle 73 = .ok (.aload_n 0, 1) := by decide +kernel
theorem dX9_meddle_74 : decode cX9_meddle 74 = .ok (.getfield 19, 3) := by decide +kernel
theorem dX9_meddle_77 : decode cX9_meddle 77 = .ok (.iload_n 2, 1) := by decide +kernel
theorem dX9_meddle_78 : decode cX9_meddle 78 = .ok (.iload_n 3, 1) := by decide +kernel
theorem dX9_meddle_79 : decode cX9_meddle 79 = .ok (.invokevirtual 198, 3) := by decide +kernel
theorem dX9_meddle_82 : decode cX9_meddle 82 = .ok (.goto 69, 3) := by decide +kernel
theorem dX9_meddle_85 : decode cX9_meddle 85 = .ok (.aload_n 0, 1) := by decide +kernel
theorem dX9_meddle_86 : decode cX9_meddle 86 = .ok (.aload_n 0, 1) := by decide +kernel
theorem dX9_meddle_87 : decode cX9_meddle 87 = .ok (.getfield 60, 3) := by decide +kernel
theorem dX9_meddle_90 : decode cX9_meddle 90 = .ok (.getfield 97, 3) := by decide +kernel
theorem dX9_meddle_93 : decode cX9_meddle 93 = .ok (.invokevirtual 299, 3) := by decide +kernel
theorem dX9_meddle_96 : decode cX9_meddle 96 = .ok (.istore 4, 2) := by decide +kernel
theorem dX9_meddle_98 : decode cX9_meddle 98 = .ok (.iload 4, 2) := by decide +kernel
theorem dX9_meddle_100 : decode cX9_meddle 100 = .ok (.iload_n 2, 1) := by decide +kernel
theorem dX9_meddle_101 : decode cX9_meddle 101 = .ok (.if_icmp .eq 50, 3) := by decide +kernel
theorem dX9_meddle_104 : decode cX9_meddle 104 = .ok (.aload_n 0, 1) := by decide +kernel
theorem dX9_meddle_105 : decode cX9_meddle 105 = .ok (.getfield 19, 3) := by decide +kernel
theorem dX9_meddle_108 : decode cX9_meddle 108 = .ok (.iload_n 2, 1) := by decide +kernel
theorem dX9_meddle_109 : decode cX9_meddle 109 = .ok (.iload 4, 2) := by decide +kernel
theorem dX9_meddle_111 : decode cX9_meddle 111 = .ok (.invokevirtual 202, 3) := by decide +kernel
theorem dX9_meddle_114 : decode cX9_meddle 114 = .ok (.goto 37, 3) := by decide +kernel
theorem dX9_meddle_117 : decode cX9_meddle 117 = .ok (.aload_n 0, 1) := by decide +kernel
theorem dX9_meddle_118 : decode cX9_meddle 118 = .ok (.getfield 19, 3) := by decide +kernel
theorem dX9_meddle_121 : decode cX9_meddle 121 = .ok (.iload_n 2, 1) := by decide +kernel
theorem dX9_meddle_122 : decode cX9_meddle 122 = .ok (.invokevirtual 209, 3) := by decide +kernel
theorem dX9_meddle_125 : decode cX9_meddle 125 = .ok (.goto 26, 3) := by decide +kernel
theorem dX9_meddle_128 : decode cX9_meddle 128 = .ok (.aload_n 0, 1) := by decide +kernel
theorem dX9_meddle_129 : decode cX9_meddle 129 = .ok (.getfield 19, 3) := by decide +kernel
theorem dX9_meddle_132 : decode cX9_meddle 132 = .ok (.iload_n 2, 1) := by decide +kernel
theorem dX9_meddle_133 : decode cX9_meddle 133 = .ok (.invokevirtual 205, 3) := by decide +kernel
theorem dX9_meddle_136 : decode cX9_meddle 136 = .ok (.goto 15, 3) := by decide +kernel
theorem dX9_meddle_139 : decode cX9_meddle 139 = .ok (.aload_n 0, 1) := by decide +kernel
theorem dX9_meddle_140 : decode cX9_meddle 140 = .ok (.getfield 19, 3) := by decide +kernel
theorem dX9_meddle_143 : decode cX9_meddle 143 = .ok (.aload_n 0, 1) := by decide +kernel
theorem dX9_meddle_144 : decode cX9_meddle 144 = .ok (.getfield 60, 3) := by decide +kernel
theorem dX9_meddle_147 : decode cX9_meddle 147 = .ok (.invokevirtual 212, 3) := by decide +kernel
theorem dX9_meddle_150 : decode cX9_meddle 150 = .ok (.pop, 1) := by decide +kernel
theorem dX9_meddle_151 : decode cX9_meddle 151 = .ok (.return_, 1) := by decide +kernel
theorem dX9_yearsUntilAllKnow_0 : decode cX9_yearsUntilAllKnow 0 = .ok (.iload_n 1, 1) := by decide +kernel
theorem dX9_yearsUntilAllKnow_1 : decode cX9_yearsUntilAllKnow 1 = .ok (.istore_n 2, 1) := by decide +kernel
theorem dX9_yearsUntilAllKnow_2 : decode cX9_yearsUntilAllKnow 2 = .ok (.iconst 0, 1) := by decide +kernel
theorem dX9_yearsUntilAllKnow_3 : decode cX9_yearsUntilAllKnow 3 = .ok (.istore_n 3, 1) := by decide +kernel
theorem dX9_yearsUntilAllKnow_4 : decode cX9_yearsUntilAllKnow 4 = .ok (.iload_n 3, 1) := by decide +kernel
theorem dX9_yearsUntilAllKnow_5 : decode cX9_yearsUntilAllKnow 5 = .ok (.bipush 7, 2) := by decide +kernel
theorem dX9_yearsUntilAllKnow_7 : decode cX9_yearsUntilAllKnow 7 = .ok (.if_icmp .ge 29, 3) := by decide +kernel
theorem dX9_yearsUntilAllKnow_10 : decode cX9_yearsUntilAllKnow 10 = .ok (.iload_n 2, 1) := by decide +kernel
theorem dX9_yearsUntilAllKnow_11 : decode cX9_yearsUntilAllKnow 11 = .ok (.aload_n 0, 1) := by decide +kernel
theorem dX9_yearsUntilAllKnow_12 : decode cX9_yearsUntilAllKnow 12 = .ok (.getfield 60, 3) := by decide +kernel
theorem dX9_yearsUntilAllKnow_15 : decode cX9_yearsUntilAllKnow 15 = .ok (.invokevirtual 246, 3) := by decide +kernel
theorem dX9_yearsUntilAllKnow_18 : decode cX9_yearsUntilAllKnow 18 = .ok (.if_icmp .eq 18, 3) := by decide +kernel
theorem dX9_yearsUntilAllKnow_21 : decode cX9_yearsUntilAllKnow 21 = .ok (.aload_n 0, 1) := by decide +kernel
theorem dX9_yearsUntilAllKnow_22 : decode cX9_yearsUntilAllKnow 22 = .ok (.getfield 60, 3) := by decide +kernel
theorem dX9_yearsUntilAllKnow_25 : decode cX9_yearsUntilAllKnow 25 = .ok (.iload_n 2, 1) := by decide +kernel
theorem dX9_yearsUntilAllKnow_26 : decode cX9_yearsUntilAllKnow 26 = .ok (.invokevirtual 272, 3) := by decide +kernel
theorem dX9_yearsUntilAllKnow_29 : decode cX9_yearsUntilAllKnow 29 = .ok (.istore_n 2, 1) := by decide +kernel
theorem dX9_yearsUntilAllKnow_30 : decode cX9_yearsUntilAllKnow 30 = .ok (.iinc 3 1, 3) := by decide +kernel
theorem dX9_yearsUntilAllKnow_33 : decode cX9_yearsUntilAllKnow 33 = .ok (.goto (-29), 3) := by decide +kernel
theorem dX9_yearsUntilAllKnow_36 : decode cX9_yearsUntilAllKnow 36 = .ok (.iload_n 3, 1) := by decide +kernel
theorem dX9_yearsUntilAllKnow_37 : decode cX9_yearsUntilAllKnow 37 = .ok (.ireturn, 1) := by decide +kernel
theorem dX10_init_0 : decode cX10_init 0 = .ok (.aload_n 0, 1) := by decide +kernel
theorem dX10_init_1 : decode cX10_init 1 = .ok (.invokespecial 1, 3) := by decide +kernel
theorem dX10_init_4 : decode cX10_init 4 = .ok (.aload_n 0, 1) := by decide +kernel
theorem dX10_init_5 : decode cX10_init 5 = .ok (.bipush 7, 2) := by decide +kernel
theorem dX10_init_7 : decode cX10_init 7 = .ok (.newarray .int, 2) := by decide +kernel
theorem dX10_init_9 : decode cX10_init 9 = .ok (.putfield 7, 3) := by decide +kernel
theorem dX10_init_12 : decode cX10_init 12 = .ok (.aload_n 0, 1) := by decide +kernel
theorem dX10_init_13 : decode cX10_init 13 = .ok (.bipush 8, 2) := by decide +kernel
theorem dX10_init_15 : decode cX10_init 15 = .ok (.newarray .int, 2) := by decide +kernel
theorem dX10_init_17 : decode cX10_init 17 = .ok (.putfield 13, 3) := by decide +kernel
theorem dX10_init_20 : decode cX10_init 20 = .ok (.aload_n 0, 1) := by decide +kernel
theorem dX10_init_21 : decode cX10_init 21 = .ok (.bipush 8, 2) := by decide +kernel
theorem dX10_init_23 : decode cX10_init 23 = .ok (.newarray .int, 2) := by decide +kernel
theorem dX10_init_25 : decode cX10_init 25 = .ok (.putfield 16, 3) := by decide +kernel
theorem dX10_init_28 : decode cX10_init 28 = .ok (.aload_n 0, 1) := by decide +kernel
theorem dX10_init_29 : decode cX10_init 29 = .ok (.bipush 8, 2) := by decide +kernel
theorem dX10_init_31 : decode cX10_init 31 = .ok (.newarray .int, 2) := by decide +kernel
theorem dX10_init_33 : decode cX10_init 33 = .ok (.putfield 19, 3) := by decide +kernel
theorem dX10_init_36 : decode cX10_init 36 = .ok (.aload_n 0, 1) := by decide +kernel
theorem dX10_init_37 : decode cX10_init 37 = .ok (.bipush 36, 2) := by decide +kernel
theorem dX10_init_39 : decode cX10_init 39 = .ok (.newarray .int, 2) := by decide +kernel
theorem dX10_init_41 : decode cX10_init 41 = .ok (.putfield 22, 3) := by decide +kernel
theorem dX10_init_44 : decode cX10_init 44 = .ok (.aload_n 0, 1) := by decide +kernel
theorem dX10_init_45 : decode cX10_init 45 = .ok (.sipush 240, 3) := by decide +kernel
theorem dX10_init_48 : decode cX10_init 48 = .ok (.newarray .int, 2) := by decide +kernel
theorem dX10_init_50 : decode cX10_init 50 = .ok (.putfield 25, 3) := by decide +kernel
theorem dX10_init_53 : decode cX10_init 53 = .ok (.aload_n 0, 1) := by decide +kernel
theorem dX10_init_54 : decode cX10_init 54 = .ok (.iconst (-1), 1) := by decide +kernel
theorem dX10_init_55 : decode cX10_init 55 = .ok (.putfield 28, 3) := by decide +kernel
theorem dX10_init_58 : decode cX10_init 58 = .ok (.aload_n 0, 1) := by decide +kernel
theorem dX10_init_59 : decode cX10_init 59 = .ok (.bipush 7, 2) := by decide +kernel
theorem dX10_init_61 : decode cX10_init 61 = .ok (.newarray .int, 2) := by decide +kernel
theorem dX10_init_63 : decode cX10_init 63 = .ok (.putfield 32, 3) := by decide +kernel
theorem dX10_init_66 : decode cX10_init 66 = .ok (.aload_n 0, 1) := by decide +kernel
theorem dX10_init_67 : decode cX10_init 67 = .ok (.bipush 8, 2) := by decide +kernel
theorem dX10_init_69 : decode cX10_init 69 = .ok (.newarray .int, 2) := by decide +kernel
theorem dX10_init_71 : decode cX10_init 71 = .ok (.putfield 35, 3) := by decide +kernel
theorem dX10_init_74 : decode cX10_init 74 = .ok (.aload_n 0, 1) := by decide +kernel
theorem dX10_init_75 : decode cX10_init 75 = .ok (.bipush 8, 2) := by decide +kernel
theorem dX10_init_77 : decode cX10_init 77 = .ok (.newarray .int, 2) := by decide +kernel
theorem dX10_init_79 : decode cX10_init 79 = .ok (.putfield 38, 3) := by decide +kernel
theorem dX10_init_82 : decode cX10_init 82 = .ok (.aload_n 0, 1) := by decide +kernel
theorem dX10_init_83 : decode cX10_init 83 = .ok (.bipush 8, 2) := by decide +kernel
theorem dX10_init_85 : decode cX10_init 85 = .ok (.newarray .int, 2) := by decide +kernel
theorem dX10_init_87 : decode cX10_init 87 = .ok (.putfield 41, 3) := by decide +kernel
theorem dX10_init_90 : decode cX10_init 90 = .ok (.aload_n 0, 1) := by decide +kernel
theorem dX10_init_91 : decode cX10_init 91 = .ok (.sipush 576, 3) := by decide +kernel
theorem dX10_init_94 : decode cX10_init 94 = .ok (.newarray .int, 2) := by decide +kernel
theorem dX10_init_96 : decode cX10_init 96 = .ok (.putfield 44, 3) := by decide +kernel
theorem dX10_init_99 : decode cX10_init 99 = .ok (.aload_n 0, 1) := by decide +kernel
theorem dX10_init_100 : decode cX10_init 100 = .ok (.bipush 36, 2) := by decide +kernel
theorem dX10_init_102 : decode cX10_init 102 = .ok (.newarray .int, 2) := by decide +kernel
theorem dX10_init_104 : decode cX10_init 104 = .ok (.putfield 47, 3) := by decide +kernel
theorem dX10_init_107 : decode cX10_init 107 = .ok (.aload_n 0, 1) := by decide +kernel
theorem dX10_init_108 : decode cX10_init 108 = .ok (.sipush 256, 3) := by decide +kernel
theorem dX10_init_111 : decode cX10_init 111 = .ok (.newarray .int, 2) := by decide +kernel
theorem dX10_init_113 : decode cX10_init 113 = .ok (.putfield 50, 3) := by decide +kernel
theorem dX10_init_116 : decode cX10_init 116 = .ok (.aload_n 0, 1) := by decide +kernel
theorem dX10_init_117 : decode cX10_init 117 = .ok (.sipush 256, 3) := by decide +kernel
theorem dX10_init_120 : decode cX10_init 120 = .ok (.newarray .boolean, 2) := by decide +kernel
theorem dX10_init_122 : decode cX10_init 122 = .ok (.putfield 53, 3) := by decide +kernel
theorem dX10_init_125 : decode cX10_init 125 = .ok (.aload_n 0, 1) := by decide +kernel
theorem dX10_init_126 : decode cX10_init 126 = .ok (.sipush 2048, 3) := by decide +kernel
theorem dX10_init_129 : decode cX10_init 129 = .ok (.newarray .int, 2) := by decide +kernel
theorem dX10_init_131 : decode cX10_init 131 = .ok (.putfield 57, 3) := by decide +kernel
theorem dX10_init_134 : decode cX10_init 134 = .ok (.aload_n 0, 1) := by decide +kernel
theorem dX10_init_135 : decode cX10_init 135 = .ok (.bipush 15, 2) := by decide +kernel
theorem dX10_init_137 : decode cX10_init 137 = .ok (.newarray .int, 2) := by decide +kernel
theorem dX10_init_139 : decode cX10_init 139 = .ok (.putfield 60, 3) := by decide +kernel
theorem dX10_init_142 : decode cX10_init 142 = .ok (.aload_n 0, 1) := by decide +kernel
theorem dX10_init_143 : decode cX10_init 143 = .ok (.bipush 15, 2) := by decide +kernel
theorem dX10_init_145 : decode cX10_init 145 = .ok (.newarray .int, 2) := by decide +kernel
theorem dX10_init_147 : decode cX10_init 147 = .ok (.putfield 63, 3) := by decide +kernel
theorem dX10_init_150 : decode cX10_init 150 = .ok (.aload_n 0, 1) := by decide +kernel
theorem dX10_init_151 : decode cX10_init 151 = .ok (.bipush 74, 2) := by decide +kernel
theorem dX10_init_153 : decode cX10_init 153 = .ok (.newarray .int, 2) := by decide +kernel
theorem dX10_init_155 : decode cX10_init 155 = .ok (.putfield 66, 3) := by decide +kernel
theorem dX10_init_158 : decode cX10_init 158 = .ok (.aload_n 0, 1) := by decide +kernel
theorem dX10_init_159 : decode cX10_init 159 = .ok (.iconst 2, 1) := by decide +kernel
theorem dX10_init_160 : decode cX10_init 160 = .ok (.newarray .boolean, 2) := by decide +kernel
theorem dX10_init_162 : decode cX10_init 162 = .ok (.putfield 69, 3) := by decide +kernel
theorem dX10_init_165 : decode cX10_init 165 = .ok (.aload_n 0, 1) := by decide +kernel
theorem dX10_init_166 : decode cX10_init 166 = .ok (.iconst 0, 1) := by decide +kernel
theorem dX10_init_167 : decode cX10_init 167 = .ok (.putfield 72, 3) := by decide +kernel
theorem dX10_init_170 : decode cX10_init 170 = .ok (.return_, 1) := by decide +kernel
theorem dX10_in_0 : decode cX10_in 0 = .ok (.lload_n 0, 1) := by decide +kernel
theorem dX10_in_1 : decode cX10_in 1 = .ok (.lload_n 2, 1) := by decide +kernel
theorem dX10_in_2 : decode cX10_in 2 = .ok (.lcmp, 1) := by decide +kernel
theorem dX10_in_3 : decode cX10_in 3 = .ok (.ifCond .lt 14, 3) := by decide +kernel
theorem dX10_in_6 : decode cX10_in 6 = .ok (.lload_n 0, 1) := by decide +kernel
theorem dX10_in_7 : decode cX10_in 7 = .ok (.lload 4, 2) := by decide +kernel
theorem dX10_in_9 : decode cX10_in 9 = .ok (.lcmp, 1) := by decide +kernel
theorem dX10_in_10 : decode cX10_in 10 = .ok (.ifCond .gt 7, 3) := by decide +kernel
theorem dX10_in_13 : decode cX10_in 13 = .ok (.iconst 1, 1) := by decide +kernel
theorem dX10_in_14 : decode cX10_in 14 = .ok (.goto 4, 3) := by decide +kernel
theorem dX10_in_17 : decode cX10_in 17 = .ok (.iconst 0, 1) := by decide +kernel
theorem dX10_in_18 : decode cX10_in 18 = .ok (.ireturn, 1) := by decide +kernel
theorem dX10_has_0 : decode cX10_has 0 = .ok (.iload_n 0, 1) := by decide +kernel
theorem dX10_has_1 : decode cX10_has 1 = .ok (.iload_n 1, 1) := by decide +kernel
theorem dX10_has_2 : decode cX10_has 2 = .ok (.ishr, 1) := by decide +kernel
theorem dX10_has_3 : decode cX10_has 3 = .ok (.iconst 1, 1) := by decide +kernel
theorem dX10_has_4 : decode cX10_has 4 = .ok (.iand, 1) := by decide +kernel
theorem dX10_has_5 : decode cX10_has 5 = .ok (.iconst 1, 1) := by decide +kernel
theorem dX10_has_6 : decode cX10_has 6 = .ok (.if_icmp .ne 7, 3) := by decide +kernel
theorem dX10_has_9 : decode cX10_has 9 = .ok (.iconst 1, 1) := by decide +kernel
theorem dX10_has_10 : decode cX10_has 10 = .ok (.goto 4, 3) := by decide +kernel
theorem dX10_has_13 : decode cX10_has 13 = .ok (.iconst 0, 1) := by decide +kernel
theorem dX10_has_14 : decode cX10_has 14 = .ok (.ireturn, 1) := by decide +kernel
theorem dX10_bits_0 : decode cX10_bits 0 = .ok (.iconst 0, 1) := by decide +kernel
theorem dX10_bits_1 : decode cX10_bits 1 = .ok (.istore_n 1, 1) := by decide +kernel
theorem dX10_bits_2 : decode cX10_bits 2 = .ok (.iconst 0, 1) := by decide +kernel
theorem dX10_bits_3 : decode cX10_bits 3 = .ok (.istore_n 2, 1) := by decide +kernel
theorem dX10_bits_4 : decode cX10_bits 4 = .ok (.iload_n 2, 1) := by decide +kernel
theorem dX10_bits_5 : decode cX10_bits 5 = .ok (.bipush 8, 2) := by decide +kernel
theorem dX10_bits_7 : decode cX10_bits 7 = .ok (.if_icmp .ge 17, 3) := by decide +kernel
theorem dX10_bits_10 : decode cX10_bits 10 = .ok (.iload_n 1, 1) := by decide +kernel
theorem dX10_bits_11 : decode cX10_bits 11 = .ok (.iload_n 0, 1) := by decide +kernel
theorem dX10_bits_12 : decode cX10_bits 12 = .ok (.iload_n 2, 1) := by decide +kernel
theorem dX10_bits_13 : decode cX10_bits 13 = .ok (.ishr, 1) := by decide +kernel
theorem dX10_bits_14 : decode cX10_bits 14 = .ok (.iconst 1, 1) := by decide +kernel
theorem dX10_bits_15 : decode cX10_bits 15 = .ok (.iand, 1) := by decide +kernel
theorem dX10_bits_16 : decode cX10_bits 16 = .ok (.iadd, 1) := by decide +kernel
theorem dX10_bits_17 : decode cX10_bits 17 = .ok (.istore_n 1, 1) := by decide +kernel
theorem dX10_bits_18 : decode cX10_bits 18 = .ok (.iinc 2 1, 3) := by decide +kernel
theorem dX10_bits_21 : decode cX10_bits 21 = .ok (.goto (-17), 3) := by decide +kernel
theorem dX10_bits_24 : decode cX10_bits 24 = .ok (.iload_n 1, 1) := by decide +kernel
theorem dX10_bits_25 : decode cX10_bits 25 = .ok (.ireturn, 1) := by decide +kernel
theorem dX10_isCourt_0 : decode cX10_isCourt 0 = .ok (.iload_n 1, 1) := by decide +kernel
theorem dX10_isCourt_1 : decode cX10_isCourt 1 = .ok (.i2l, 1) := by decide +kernel
theorem dX10_isCourt_2 : decode cX10_isCourt 2 = .ok (.lconst 0, 1) := by decide +kernel
theorem dX10_isCourt_3 : decode cX10_isCourt 3 = .ok (.aload_n 0, 1) := by decide +kernel
theorem dX10_isCourt_4 : decode cX10_isCourt 4 = .ok (.getfield 72, 3) := by decide +kernel
theorem dX10_isCourt_7 : decode cX10_isCourt 7 = .ok (.iconst 1, 1) := by decide +kernel
theorem dX10_isCourt_8 : decode cX10_isCourt 8 = .ok (.isub, 1) := by decide +kernel
theorem dX10_isCourt_9 : decode cX10_isCourt 9 = .ok (.i2l, 1) := by decide +kernel
theorem dX10_isCourt_10 : decode cX10_isCourt 10 = .ok (.invokestatic 75, 3) := by decide +kernel
theorem dX10_isCourt_13 : decode cX10_isCourt 13 = .ok (.ireturn, 1) := by decide +kernel
theorem dX10_isDoll_0 : decode cX10_isDoll 0 = .ok (.iload_n 1, 1) := by decide +kernel
theorem dX10_isDoll_1 : decode cX10_isDoll 1 = .ok (.i2l, 1) := by decide +kernel
theorem dX10_isDoll_2 : decode cX10_isDoll 2 = .ok (.lconst 0, 1) := by decide +kernel
theorem dX10_isDoll_3 : decode cX10_isDoll 3 = .ok (.aload_n 0, 1) := by decide +kernel
theorem dX10_isDoll_4 : decode cX10_isDoll 4 = .ok (.getfield 79, 3) := by decide +kernel
theorem dX10_isDoll_7 : decode cX10_isDoll 7 = .ok (.iconst 1, 1) := by decide +kernel
theorem dX10_isDoll_8 : decode cX10_isDoll 8 = .ok (.isub, 1) := by decide +kernel
theorem dX10_isDoll_9 : decode cX10_isDoll 9 = .ok (.i2l, 1) := by decide +kernel
theorem dX10_isDoll_10 : decode cX10_isDoll 10 = .ok (.invokestatic 75, 3) := by decide +kernel
theorem dX10_isDoll_13 : decode cX10_isDoll 13 = .ok (.ireturn, 1) := by decide +kernel
theorem dX10_feed_0 : decode cX10_feed 0 = .ok (.iload_n 1, 1) := by decide +kernel
theorem dX10_feed_1 : decode cX10_feed 1 = .ok (.i2l, 1) := by decide +kernel
theorem dX10_feed_2 : decode cX10_feed 2 = .ok (.lconst 0, 1) := by decide +kernel
theorem dX10_feed_3 : decode cX10_feed 3 = .ok (.ldc2_w 82, 3) := by decide +kernel
theorem dX10_feed_6 : decode cX10_feed 6 = .ok (.invokestatic 75, 3) := by decide +kernel
theorem dX10_feed_9 : decode cX10_feed 9 = .ok (.ifCond .ne 6, 3) := by decide +kernel
theorem dX10_feed_12 : decode cX10_feed 12 = .ok (.ldc 84, 2) := by decide +kernel
theorem dX10_feed_14 : decode cX10_feed 14 = .ok (.ireturn, 1) := by decide +kernel
theorem dX10_feed_15 : decode cX10_feed 15 = .ok (.aload_n 0, 1) := by decide +kernel
theorem dX10_feed_16 : decode cX10_feed 16 = .ok (.getfield 85, 3) := by decide +kernel
theorem dX10_feed_19 : decode cX10_feed 19 = .ok (.sipush 240, 3) := by decide +kernel
theorem dX10_feed_22 : decode cX10_feed 22 = .ok (.if_icmp .ne 6, 3) := by decide +kernel
theorem dX10_feed_25 : decode cX10_feed 25 = .ok (.ldc 88, 2) := by decide +kernel
theorem dX10_feed_27 : decode cX10_feed 27 = .ok (.ireturn, 1) := by decide +kernel
theorem dX10_feed_28 : decode cX10_feed 28 = .ok (.aload_n 0, 1) := by decide +kernel
theorem dX10_feed_29 : decode cX10_feed 29 = .ok (.getfield 25, 3) := by decide +kernel
theorem dX10_feed_32 : decode cX10_feed 32 = .ok (.aload_n 0, 1) := by decide +kernel
theorem dX10_feed_33 : decode cX10_feed 33 = .ok (.getfield 85, 3) := by decide +kernel
theorem dX10_feed_36 : decode cX10_feed 36 = .ok (.iload_n 1, 1) := by decide +kernel
theorem dX10_feed_37 : decode cX10_feed 37 = .ok (.iastore, 1) := by decide +kernel
theorem dX10_feed_38 : decode cX10_feed 38 = .ok (.aload_n 0, 1) := by decide +kernel
theorem dX10_feed_39 : decode cX10_feed 39 = .ok (.dup, 1) := by decide +kernel
theorem dX10_feed_40 : decode cX10_feed 40 = .ok (.getfield 85, 3) := by decide +kernel
theorem dX10_feed_43 : decode cX10_feed 43 = .ok (.iconst 1, 1) := by decide +kernel
theorem dX10_feed_44 : decode cX10_feed 44 = .ok (.iadd, 1) := by decide +kernel
theorem dX10_feed_45 : decode cX10_feed 45 = .ok (.putfield 85, 3) := by decide +kernel
theorem dX10_feed_48 : decode cX10_feed 48 = .ok (.aload_n 0, 1) := by decide +kernel
theorem dX10_feed_49 : decode cX10_feed 49 = .ok (.getfield 85, 3) := by decide +kernel
theorem dX10_feed_52 : decode cX10_feed 52 = .ok (.ireturn, 1) := by decide +kernel
theorem dX10_here_0 : decode cX10_here 0 = .ok (.aload_n 0, 1) := by decide +kernel
theorem dX10_here_1 : decode cX10_here 1 = .ok (.getfield 89, 3) := by decide +kernel
theorem dX10_here_4 : decode cX10_here 4 = .ok (.aload_n 0, 1) := by decide +kernel
theorem dX10_here_5 : decode cX10_here 5 = .ok (.getfield 85, 3) := by decide +kernel
theorem dX10_here_8 : decode cX10_here 8 = .ok (.if_icmp .ge 30, 3) := by decide +kernel
theorem dX10_here_11 : decode cX10_here 11 = .ok (.aload_n 0, 1) := by decide +kernel
theorem dX10_here_12 : decode cX10_here 12 = .ok (.getfield 25, 3) := by decide +kernel
theorem dX10_here_15 : decode cX10_here 15 = .ok (.aload_n 0, 1) := by decide +kernel
theorem dX10_here_16 : decode cX10_here 16 = .ok (.getfield 89, 3) := by decide +kernel
theorem dX10_here_19 : decode cX10_here 19 = .ok (.iaload, 1) := by decide +kernel
theorem dX10_here_20 : decode cX10_here 20 = .ok (.bipush 32, 2) := by decide +kernel
theorem dX10_here_22 : decode cX10_here 22 = .ok (.if_icmp .ne 16, 3) := by decide +kernel
theorem dX10_here_25 : decode cX10_here 25 = .ok (.aload_n 0, 1) := by decide +kernel
theorem dX10_here_26 : decode cX10_here 26 = .ok (.dup, 1) := by decide +kernel
theorem dX10_here_27 : decode cX10_here 27 = .ok (.getfield 89, 3) := by decide +kernel
theorem dX10_here_30 : decode cX10_here 30 = .ok (.iconst 1, 1) := by decide +kernel
theorem dX10_here_31 : decode cX10_here 31 = .ok (.iadd, 1) := by decide +kernel
theorem dX10_here_32 : decode cX10_here 32 = .ok (.putfield 89, 3) := by decide +kernel
theorem dX10_here_35 : decode cX10_here 35 = .ok (.goto (-35), 3) := by decide +kernel
theorem dX10_here_38 : decode cX10_here 38 = .ok (.aload_n 0, 1) := by decide +kernel
theorem dX10_here_39 : decode cX10_here 39 = .ok (.getfield 89, 3) := by decide +kernel
theorem dX10_here_42 : decode cX10_here 42 = .ok (.aload_n 0, 1) := by decide +kernel
theorem dX10_here_43 : decode cX10_here 43 = .ok (.getfield 85, 3) := by decide +kernel
theorem dX10_here_46 : decode cX10_here 46 = .ok (.if_icmp .ge 15, 3) := by decide +kernel
theorem dX10_here_49 : decode cX10_here 49 = .ok (.aload_n 0, 1) := by decide +kernel
theorem dX10_here_50 : decode cX10_here 50 = .ok (.getfield 25, 3) := by decide +kernel
theorem dX10_here_53 : decode cX10_here 53 = .ok (.aload_n 0, 1) := by decide +kernel
theorem dX10_here_54 : decode cX10_here 54 = .ok (.getfield 89, 3) := by decide +kernel
theorem dX10_here_57 : decode cX10_here 57 = .ok (.iaload, 1) := by decide +kernel
theorem dX10_here_58 : decode cX10_here 58 = .ok (.goto 4, 3) := by decide +kernel
theorem dX10_here_61 : decode cX10_here 61 = .ok (.iconst (-1), 1) := by decide +kernel
theorem dX10_here_62 : decode cX10_here 62 = .ok (.ireturn, 1) := by decide +kernel
theorem dX10_fails_0 : decode cX10_fails 0 = .ok (.aload_n 0, 1) := by decide +kernel
theorem dX10_fails_1 : decode cX10_fails 1 = .ok (.iload_n 2, 1) := by decide +kernel
theorem dX10_fails_2 : decode cX10_fails 2 = .ok (.putfield 28, 3) := by decide +kernel
theorem dX10_fails_5 : decode cX10_fails 5 = .ok (.iload_n 1, 1) := by decide +kernel
theorem dX10_fails_6 : decode cX10_fails 6 = .ok (.ireturn, 1) := by decide +kernel
theorem dX10_takeNumber_0 : decode cX10_takeNumber 0 = .ok (.aload_n 0, 1) := by decide +kernel
theorem dX10_takeNumber_1 : decode cX10_takeNumber 1 = .ok (.invokevirtual 92, 3) := by decide +kernel
theorem dX10_takeNumber_4 : decode cX10_takeNumber 4 = .ok (.istore_n 3, 1) := by decide +kernel
theorem dX10_takeNumber_5 : decode cX10_takeNumber 5 = .ok (.iload_n 3, 1) := by decide +kernel
theorem dX10_takeNumber_6 : decode cX10_takeNumber 6 = .ok (.i2l, 1) := by decide +kernel
theorem dX10_takeNumber_7 : decode cX10_takeNumber 7 = .ok (.ldc2_w 96, 3) := by decide +kernel
theorem dX10_takeNumber_10 : decode cX10_takeNumber 10 = .ok (.ldc2_w 98, 3) := by decide +kernel
theorem dX10_takeNumber_13 : decode cX10_takeNumber 13 = .ok (.invokestatic 75, 3) := by decide +kernel
theorem dX10_takeNumber_16 : decode cX10_takeNumber 16 = .ok (.ifCond .ne 13, 3) := by decide +kernel
theorem dX10_takeNumber_19 : decode cX10_takeNumber 19 = .ok (.aload_n 0, 1) := by decide +kernel
theorem dX10_takeNumber_20 : decode cX10_takeNumber 20 = .ok (.iconst 1, 1) := by decide +kernel
theorem dX10_takeNumber_21 : decode cX10_takeNumber 21 = .ok (.aload_n 0, 1) := by decide +kernel
theorem dX10_takeNumber_22 : decode cX10_takeNumber 22 = .ok (.getfield 89, 3) := by decide +kernel
theorem dX10_takeNumber_25 : decode cX10_takeNumber 25 = .ok (.invokevirtual 100, 3) := by decide +kernel
theorem dX10_takeNumber_28 : decode cX10_takeNumber 28 = .ok (.ireturn, 1) := by decide +kernel
theorem dX10_takeNumber_29 : decode cX10_takeNumber 29 = .ok (.aload_n 0, 1) := by decide +kernel
theorem dX10_takeNumber_30 : decode cX10_takeNumber 30 = .ok (.aload_n 0, 1) := by decide +kernel
theorem dX10_takeNumber_31 : decode cX10_takeNumber 31 = .ok (.getfield 89, 3) := by decide +kernel
theorem dX10_takeNumber_34 : decode cX10_takeNumber 34 = .ok (.putfield 104, 3) := by decide +kernel
theorem dX10_takeNumber_37 : decode cX10_takeNumber 37 = .ok (.aload_n 0, 1) := by decide +kernel
theorem dX10_takeNumber_38 : decode cX10_takeNumber 38 = .ok (.iconst 0, 1) := by decide +kernel
theorem dX10_takeNumber_39 : decode cX10_takeNumber 39 = .ok (.putfield 107, 3) := by decide +kernel
theorem dX10_takeNumber_42 : decode cX10_takeNumber 42 = .ok (.aload_n 0, 1) := by decide +kernel
theorem dX10_takeNumber_43 : decode cX10_takeNumber 43 = .ok (.getfield 89, 3) := by decide +kernel
theorem dX10_takeNumber_46 : decode cX10_takeNumber 46 = .ok (.aload_n 0, 1) := by decide +kernel
theorem dX10_takeNumber_47 : decode cX10_takeNumber 47 = .ok (.getfield 85, 3) := by decide +kernel
theorem dX10_takeNumber_50 : decode cX10_takeNumber 50 = .ok (.if_icmp .ge 79, 3) := by decide +kernel
theorem dX10_takeNumber_53 : decode cX10_takeNumber 53 = .ok (.aload_n 0, 1) := by decide +kernel
theorem dX10_takeNumber_54 : decode cX10_takeNumber 54 = .ok (.getfield 25, 3) := by decide +kernel
theorem dX10_takeNumber_57 : decode cX10_takeNumber 57 = .ok (.aload_n 0, 1) := by decide +kernel
theorem dX10_takeNumber_58 : decode cX10_takeNumber 58 = .ok (.getfield 89, 3) := by decide +kernel
theorem dX10_takeNumber_61 : decode cX10_takeNumber 61 = .ok (.iaload, 1) := by decide +kernel
theorem dX10_takeNumber_62 : decode cX10_takeNumber 62 = .ok (.i2l, 1) := by decide +kernel
theorem dX10_takeNumber_63 : decode cX10_takeNumber 63 = .ok (.ldc2_w 96, 3) := by decide +kernel
theorem dX10_takeNumber_66 : decode cX10_takeNumber 66 = .ok (.ldc2_w 98, 3) := by decide +kernel
theorem dX10_takeNumber_69 : decode cX10_takeNumber 69 = .ok (.invokestatic 75, 3) := by decide +kernel
theorem dX10_takeNumber_72 : decode cX10_takeNumber 72 = .ok (.ifCond .eq 57, 3) := by decide +kernel
theorem dX10_takeNumber_75 : decode cX10_takeNumber 75 = .ok (.aload_n 0, 1) := by decide +kernel
theorem dX10_takeNumber_76 : decode cX10_takeNumber 76 = .ok (.aload_n 0, 1) := by decide +kernel
theorem dX10_takeNumber_77 : decode cX10_takeNumber 77 = .ok (.getfield 107, 3) := by decide +kernel
theorem dX10_takeNumber_80 : decode cX10_takeNumber 80 = .ok (.sipush 10000, 3) := by decide +kernel
theorem dX10_takeNumber_83 : decode cX10_takeNumber 83 = .ok (.if_icmp .le 10, 3) := by decide +kernel
theorem dX10_takeNumber_86 : decode cX10_takeNumber 86 = .ok (.aload_n 0, 1) := by decide +kernel
theorem dX10_takeNumber_87 : decode cX10_takeNumber 87 = .ok (.getfield 107, 3) := by decide +kernel
theorem dX10_takeNumber_90 : decode cX10_takeNumber 90 = .ok (.goto 23, 3) := by decide +kernel
theorem dX10_takeNumber_93 : decode cX10_takeNumber 93 = .ok (.bipush 10, 2) := by decide +kernel
theorem dX10_takeNumber_95 : decode cX10_takeNumber 95 = .ok (.aload_n 0, 1) := by decide +kernel
theorem dX10_takeNumber_96 : decode cX10_takeNumber 96 = .ok (.getfield 107, 3) := by decide +kernel
theorem dX10_takeNumber_99 : decode cX10_takeNumber 99 = .ok (.imul, 1) := by decide +kernel
theorem dX10_takeNumber_100 : decode cX10_takeNumber 100 = .ok (.aload_n 0, 1) := by decide +kernel
theorem dX10_takeNumber_101 : decode cX10_takeNumber 101 = .ok (.getfield 25, 3) := by decide +kernel
theorem dX10_takeNumber_104 : decode cX10_takeNumber 104 = .ok (.aload_n 0, 1) := by decide +kernel
theorem dX10_takeNumber_105 : decode cX10_takeNumber 105 = .ok (.getfield 89, 3) := by decide +kernel
theorem dX10_takeNumber_108 : decode cX10_takeNumber 108 = .ok (.iaload, 1) := by decide +kernel
theorem dX10_takeNumber_109 : decode cX10_takeNumber 109 = .ok (.iadd, 1) := by decide +kernel
theorem dX10_takeNumber_110 : decode cX10_takeNumber 110 = .ok (.bipush 48, 2) := by decide +kernel
theorem dX10_takeNumber_112 : decode cX10_takeNumber 112 = .ok (.isub, 1) := by decide +kernel
theorem dX10_takeNumber_113 : decode cX10_takeNumber 113 = .ok (.putfield 107, 3) := by decide +kernel
theorem dX10_takeNumber_116 : decode cX10_takeNumber 116 = .ok (.aload_n 0, 1) := by decide +kernel
theorem dX10_takeNumber_117 : decode cX10_takeNumber 117 = .ok (.dup, 1) := by decide +kernel
theorem dX10_takeNumber_118 : decode cX10_takeNumber 118 = .ok (.getfield 89, 3) := by decide +kernel
theorem dX10_takeNumber_121 : decode cX10_takeNumber 121 = .ok (.iconst 1, 1) := by decide +kernel
theorem dX10_takeNumber_122 : decode cX10_takeNumber 122 = .ok (.iadd, 1) := by decide +kernel
theorem dX10_takeNumber_123 : decode cX10_takeNumber 123 = .ok (.putfield 89, 3) := by decide +kernel
theorem dX10_takeNumber_126 : decode cX10_takeNumber 126 = .ok (.goto (-84), 3) := by decide +kernel
theorem dX10_takeNumber_129 : decode cX10_takeNumber 129 = .ok (.aload_n 0, 1) := by decide +kernel
theorem dX10_takeNumber_130 : decode cX10_takeNumber 130 = .ok (.getfield 89, 3) := by decide +kernel
theorem dX10_takeNumber_133 : decode cX10_takeNumber 133 = .ok (.aload_n 0, 1) := by decide +kernel
theorem dX10_takeNumber_134 : decode cX10_takeNumber 134 = .ok (.getfield 104, 3) := by decide +kernel
theorem dX10_takeNumber_137 : decode cX10_takeNumber 137 = .ok (.isub, 1) := by decide +kernel
theorem dX10_takeNumber_138 : decode cX10_takeNumber 138 = .ok (.iconst 3, 1) := by decide +kernel
theorem dX10_takeNumber_139 : decode cX10_takeNumber 139 = .ok (.if_icmp .gt 18, 3) := by decide +kernel
theorem dX10_takeNumber_142 : decode cX10_takeNumber 142 = .ok (.aload_n 0, 1) := by decide +kernel
theorem dX10_takeNumber_143 : decode cX10_takeNumber 143 = .ok (.getfield 107, 3) := by decide +kernel
theorem dX10_takeNumber_146 : decode cX10_takeNumber 146 = .ok (.i2l, 1) := by decide +kernel
theorem dX10_takeNumber_147 : decode cX10_takeNumber 147 = .ok (.iload_n 1, 1) := by decide +kernel
theorem dX10_takeNumber_148 : decode cX10_takeNumber 148 = .ok (.i2l, 1) := by decide +kernel
theorem dX10_takeNumber_149 : decode cX10_takeNumber 149 = .ok (.iload_n 2, 1) := by decide +kernel
theorem dX10_takeNumber_150 : decode cX10_takeNumber 150 = .ok (.i2l, 1) := by decide +kernel
theorem dX10_takeNumber_151 : decode cX10_takeNumber 151 = .ok (.invokestatic 75, 3) := by decide +kernel
theorem dX10_takeNumber_154 : decode cX10_takeNumber 154 = .ok (.ifCond .ne 15, 3) := by decide +kernel
theorem dX10_takeNumber_157 : decode cX10_takeNumber 157 = .ok (.aload_n 0, 1) := by decide +kernel
theorem dX10_takeNumber_158 : decode cX10_takeNumber 158 = .ok (.iconst 2, 1) := by decide +kernel
theorem dX10_takeNumber_159 : decode cX10_takeNumber 159 = .ok (.aload_n 0, 1) := by decide +kernel
theorem dX10_takeNumber_160 : decode cX10_takeNumber 160 = .ok (.getfield 104, 3) := by decide +kernel
theorem dX10_takeNumber_163 : decode cX10_takeNumber 163 = .ok (.invokevirtual 100, 3) := by decide +kernel
theorem dX10_takeNumber_166 : decode cX10_takeNumber 166 = .ok (.goto 4, 3) := by decide +kernel
theorem dX10_takeNumber_169 : decode cX10_takeNumber 169 = .ok (.iconst 0, 1) := by decide +kernel
theorem dX10_takeNumber_170 : decode cX10_takeNumber 170 = .ok (.ireturn, 1) := by decide +kernel
theorem dX10_into_0 : decode cX10_into 0 = .ok (.aload_n 0, 1) := by decide +kernel
theorem dX10_into_1 : decode cX10_into 1 = .ok (.iload_n 3, 1) := by decide +kernel
theorem dX10_into_2 : decode cX10_into 2 = .ok (.iload 4, 2) := by decide +kernel
theorem dX10_into_4 : decode cX10_into 4 = .ok (.invokevirtual 110, 3) := by decide +kernel
theorem dX10_into_7 : decode cX10_into 7 = .ok (.istore 5, 2) := by decide +kernel
theorem dX10_into_9 : decode cX10_into 9 = .ok (.aload_n 1, 1) := by decide +kernel
theorem dX10_into_10 : decode cX10_into 10 = .ok (.iload_n 2, 1) := by decide +kernel
theorem dX10_into_11 : decode cX10_into 11 = .ok (.aload_n 0, 1) := by decide +kernel
theorem dX10_into_12 : decode cX10_into 12 = .ok (.getfield 107, 3) := by decide +kernel
theorem dX10_into_15 : decode cX10_into 15 = .ok (.iastore, 1) := by decide +kernel
theorem dX10_into_16 : decode cX10_into 16 = .ok (.iload 5, 2) := by decide +kernel
theorem dX10_into_18 : decode cX10_into 18 = .ok (.ireturn, 1) := by decide +kernel
theorem dX10_takeCourts_0 : decode cX10_takeCourts 0 = .ok (.aload_n 0, 1) := by decide +kernel
theorem dX10_takeCourts_1 : decode cX10_takeCourts 1 = .ok (.aload_n 0, 1) := by decide +kernel
theorem dX10_takeCourts_2 : decode cX10_takeCourts 2 = .ok (.getfield 32, 3) := by decide +kernel
theorem dX10_takeCourts_5 : decode cX10_takeCourts 5 = .ok (.iconst 0, 1) := by decide +kernel
theorem dX10_takeCourts_6 : decode cX10_takeCourts 6 = .ok (.iconst 1, 1) := by decide +kernel
theorem dX10_takeCourts_7 : decode cX10_takeCourts 7 = .ok (.bipush 9, 2) := by decide +kernel
theorem dX10_takeCourts_9 : decode cX10_takeCourts 9 = .ok (.invokevirtual 113, 3) := by decide +kernel
theorem dX10_takeCourts_12 : decode cX10_takeCourts 12 = .ok (.istore_n 1, 1) := by decide +kernel
theorem dX10_takeCourts_13 : decode cX10_takeCourts 13 = .ok (.aload_n 0, 1) := by decide +kernel
theorem dX10_takeCourts_14 : decode cX10_takeCourts 14 = .ok (.iconst 1, 1) := by decide +kernel
theorem dX10_takeCourts_15 : decode cX10_takeCourts 15 = .ok (.putfield 117, 3) := by decide +kernel
theorem dX10_takeCourts_18 : decode cX10_takeCourts 18 = .ok (.iload_n 1, 1) := by decide +kernel
theorem dX10_takeCourts_19 : decode cX10_takeCourts 19 = .ok (.ifCond .ne 70, 3) := by decide +kernel
theorem dX10_takeCourts_22 : decode cX10_takeCourts 22 = .ok (.aload_n 0, 1) := by decide +kernel
theorem dX10_takeCourts_23 : decode cX10_takeCourts 23 = .ok (.invokevirtual 92, 3) := by decide +kernel
end
section
theorem dX10_takeCourts_26 : decode cX10_takeCourts 26 = .ok (.bipush 44, 2) := by decide +kernel
theorem dX10_takeCourts_28 : decode cX10_takeCourts 28 = .ok (.if_icmp .ne 61, 3) := by decide +kernel
theorem dX10_takeCourts_31 : decode cX10_takeCourts 31 = .ok (.aload_n 0, 1) := by decide +kernel
theorem dX10_takeCourts_32 : decode cX10_takeCourts 32 = .ok (.getfield 117, 3) := by decide +kernel
theorem dX10_takeCourts_35 : decode cX10_takeCourts 35 = .ok (.bipush 7, 2) := by decide +kernel
theorem dX10_takeCourts_37 : decode cX10_takeCourts 37 = .ok (.if_icmp .ne 13, 3) := by decide +kernel
theorem dX10_takeCourts_40 : decode cX10_takeCourts 40 = .ok (.aload_n 0, 1) := by decide +kernel
theorem dX10_takeCourts_41 : decode cX10_takeCourts 41 = .ok (.iconst 1, 1) := by decide +kernel
theorem dX10_takeCourts_42 : decode cX10_takeCourts 42 = .ok (.aload_n 0, 1) := by decide +kernel
theorem dX10_takeCourts_43 : decode cX10_takeCourts 43 = .ok (.getfield 89, 3) := by decide +kernel
theorem dX10_takeCourts_46 : decode cX10_takeCourts 46 = .ok (.invokevirtual 100, 3) := by decide +kernel
theorem dX10_takeCourts_49 : decode cX10_takeCourts 49 = .ok (.ireturn, 1) := by decide +kernel
theorem dX10_takeCourts_50 : decode cX10_takeCourts 50 = .ok (.aload_n 0, 1) := by decide +kernel
theorem dX10_takeCourts_51 : decode cX10_takeCourts 51 = .ok (.dup, 1) := by decide +kernel
theorem dX10_takeCourts_52 : decode cX10_takeCourts 52 = .ok (.getfield 89, 3) := by decide +kernel
theorem dX10_takeCourts_55 : decode cX10_takeCourts 55 = .ok (.iconst 1, 1) := by decide +kernel
theorem dX10_takeCourts_56 : decode cX10_takeCourts 56 = .ok (.iadd, 1) := by decide +kernel
theorem dX10_takeCourts_57 : decode cX10_takeCourts 57 = .ok (.putfield 89, 3) := by decide +kernel
theorem dX10_takeCourts_60 : decode cX10_takeCourts 60 = .ok (.aload_n 0, 1) := by decide +kernel
theorem dX10_takeCourts_61 : decode cX10_takeCourts 61 = .ok (.aload_n 0, 1) := by decide +kernel
theorem dX10_takeCourts_62 : decode cX10_takeCourts 62 = .ok (.getfield 32, 3) := by decide +kernel
theorem dX10_takeCourts_65 : decode cX10_takeCourts 65 = .ok (.aload_n 0, 1) := by decide +kernel
theorem dX10_takeCourts_66 : decode cX10_takeCourts 66 = .ok (.getfield 117, 3) := by decide +kernel
theorem dX10_takeCourts_69 : decode cX10_takeCourts 69 = .ok (.iconst 1, 1) := by decide +kernel
theorem dX10_takeCourts_70 : decode cX10_takeCourts 70 = .ok (.bipush 9, 2) := by decide +kernel
theorem dX10_takeCourts_72 : decode cX10_takeCourts 72 = .ok (.invokevirtual 113, 3) := by decide +kernel
theorem dX10_takeCourts_75 : decode cX10_takeCourts 75 = .ok (.istore_n 1, 1) := by decide +kernel
theorem dX10_takeCourts_76 : decode cX10_takeCourts 76 = .ok (.aload_n 0, 1) := by decide +kernel
theorem dX10_takeCourts_77 : decode cX10_takeCourts 77 = .ok (.dup, 1) := by decide +kernel
theorem dX10_takeCourts_78 : decode cX10_takeCourts 78 = .ok (.getfield 117, 3) := by decide +kernel
theorem dX10_takeCourts_81 : decode cX10_takeCourts 81 = .ok (.iconst 1, 1) := by decide +kernel
theorem dX10_takeCourts_82 : decode cX10_takeCourts 82 = .ok (.iadd, 1) := by decide +kernel
theorem dX10_takeCourts_83 : decode cX10_takeCourts 83 = .ok (.putfield 117, 3) := by decide +kernel
theorem dX10_takeCourts_86 : decode cX10_takeCourts 86 = .ok (.goto (-68), 3) := by decide +kernel
theorem dX10_takeCourts_89 : decode cX10_takeCourts 89 = .ok (.iload_n 1, 1) := by decide +kernel
theorem dX10_takeCourts_90 : decode cX10_takeCourts 90 = .ok (.ifCond .ne 23, 3) := by decide +kernel
theorem dX10_takeCourts_93 : decode cX10_takeCourts 93 = .ok (.aload_n 0, 1) := by decide +kernel
theorem dX10_takeCourts_94 : decode cX10_takeCourts 94 = .ok (.getfield 117, 3) := by decide +kernel
theorem dX10_takeCourts_97 : decode cX10_takeCourts 97 = .ok (.iconst 1, 1) := by decide +kernel
theorem dX10_takeCourts_98 : decode cX10_takeCourts 98 = .ok (.if_icmp .ne 15, 3) := by decide +kernel
theorem dX10_takeCourts_101 : decode cX10_takeCourts 101 = .ok (.aload_n 0, 1) := by decide +kernel
theorem dX10_takeCourts_102 : decode cX10_takeCourts 102 = .ok (.iconst 1, 1) := by decide +kernel
theorem dX10_takeCourts_103 : decode cX10_takeCourts 103 = .ok (.aload_n 0, 1) := by decide +kernel
theorem dX10_takeCourts_104 : decode cX10_takeCourts 104 = .ok (.getfield 89, 3) := by decide +kernel
theorem dX10_takeCourts_107 : decode cX10_takeCourts 107 = .ok (.invokevirtual 100, 3) := by decide +kernel
theorem dX10_takeCourts_110 : decode cX10_takeCourts 110 = .ok (.goto 4, 3) := by decide +kernel
theorem dX10_takeCourts_113 : decode cX10_takeCourts 113 = .ok (.iload_n 1, 1) := by decide +kernel
theorem dX10_takeCourts_114 : decode cX10_takeCourts 114 = .ok (.ireturn, 1) := by decide +kernel
theorem dX10_takeDoll_0 : decode cX10_takeDoll 0 = .ok (.aload_n 0, 1) := by decide +kernel
theorem dX10_takeDoll_1 : decode cX10_takeDoll 1 = .ok (.getfield 120, 3) := by decide +kernel
theorem dX10_takeDoll_4 : decode cX10_takeDoll 4 = .ok (.istore_n 1, 1) := by decide +kernel
theorem dX10_takeDoll_5 : decode cX10_takeDoll 5 = .ok (.aload_n 0, 1) := by decide +kernel
theorem dX10_takeDoll_6 : decode cX10_takeDoll 6 = .ok (.dup, 1) := by decide +kernel
theorem dX10_takeDoll_7 : decode cX10_takeDoll 7 = .ok (.getfield 120, 3) := by decide +kernel
theorem dX10_takeDoll_10 : decode cX10_takeDoll 10 = .ok (.iconst 1, 1) := by decide +kernel
theorem dX10_takeDoll_11 : decode cX10_takeDoll 11 = .ok (.iadd, 1) := by decide +kernel
theorem dX10_takeDoll_12 : decode cX10_takeDoll 12 = .ok (.putfield 120, 3) := by decide +kernel
theorem dX10_takeDoll_15 : decode cX10_takeDoll 15 = .ok (.aload_n 0, 1) := by decide +kernel
theorem dX10_takeDoll_16 : decode cX10_takeDoll 16 = .ok (.aload_n 0, 1) := by decide +kernel
theorem dX10_takeDoll_17 : decode cX10_takeDoll 17 = .ok (.getfield 35, 3) := by decide +kernel
theorem dX10_takeDoll_20 : decode cX10_takeDoll 20 = .ok (.iload_n 1, 1) := by decide +kernel
theorem dX10_takeDoll_21 : decode cX10_takeDoll 21 = .ok (.iconst 0, 1) := by decide +kernel
theorem dX10_takeDoll_22 : decode cX10_takeDoll 22 = .ok (.iconst 3, 1) := by decide +kernel
theorem dX10_takeDoll_23 : decode cX10_takeDoll 23 = .ok (.invokevirtual 113, 3) := by decide +kernel
theorem dX10_takeDoll_26 : decode cX10_takeDoll 26 = .ok (.istore_n 2, 1) := by decide +kernel
theorem dX10_takeDoll_27 : decode cX10_takeDoll 27 = .ok (.iload_n 2, 1) := by decide +kernel
theorem dX10_takeDoll_28 : decode cX10_takeDoll 28 = .ok (.ifCond .le 7, 3) := by decide +kernel
theorem dX10_takeDoll_31 : decode cX10_takeDoll 31 = .ok (.iload_n 2, 1) := by decide +kernel
theorem dX10_takeDoll_32 : decode cX10_takeDoll 32 = .ok (.goto 19, 3) := by decide +kernel
theorem dX10_takeDoll_35 : decode cX10_takeDoll 35 = .ok (.aload_n 0, 1) := by decide +kernel
theorem dX10_takeDoll_36 : decode cX10_takeDoll 36 = .ok (.aload_n 0, 1) := by decide +kernel
theorem dX10_takeDoll_37 : decode cX10_takeDoll 37 = .ok (.getfield 38, 3) := by decide +kernel
theorem dX10_takeDoll_40 : decode cX10_takeDoll 40 = .ok (.iload_n 1, 1) := by decide +kernel
theorem dX10_takeDoll_41 : decode cX10_takeDoll 41 = .ok (.iconst 0, 1) := by decide +kernel
theorem dX10_takeDoll_42 : decode cX10_takeDoll 42 = .ok (.aload_n 0, 1) := by decide +kernel
theorem dX10_takeDoll_43 : decode cX10_takeDoll 43 = .ok (.getfield 117, 3) := by decide +kernel
theorem dX10_takeDoll_46 : decode cX10_takeDoll 46 = .ok (.iconst 1, 1) := by decide +kernel
theorem dX10_takeDoll_47 : decode cX10_takeDoll 47 = .ok (.isub, 1) := by decide +kernel
theorem dX10_takeDoll_48 : decode cX10_takeDoll 48 = .ok (.invokevirtual 113, 3) := by decide +kernel
theorem dX10_takeDoll_51 : decode cX10_takeDoll 51 = .ok (.istore_n 2, 1) := by decide +kernel
theorem dX10_takeDoll_52 : decode cX10_takeDoll 52 = .ok (.iload_n 2, 1) := by decide +kernel
theorem dX10_takeDoll_53 : decode cX10_takeDoll 53 = .ok (.ifCond .le 7, 3) := by decide +kernel
theorem dX10_takeDoll_56 : decode cX10_takeDoll 56 = .ok (.iload_n 2, 1) := by decide +kernel
theorem dX10_takeDoll_57 : decode cX10_takeDoll 57 = .ok (.goto 15, 3) := by decide +kernel
theorem dX10_takeDoll_60 : decode cX10_takeDoll 60 = .ok (.aload_n 0, 1) := by decide +kernel
theorem dX10_takeDoll_61 : decode cX10_takeDoll 61 = .ok (.aload_n 0, 1) := by decide +kernel
theorem dX10_takeDoll_62 : decode cX10_takeDoll 62 = .ok (.getfield 41, 3) := by decide +kernel
theorem dX10_takeDoll_65 : decode cX10_takeDoll 65 = .ok (.iload_n 1, 1) := by decide +kernel
theorem dX10_takeDoll_66 : decode cX10_takeDoll 66 = .ok (.iconst 0, 1) := by decide +kernel
theorem dX10_takeDoll_67 : decode cX10_takeDoll 67 = .ok (.bipush 63, 2) := by decide +kernel
theorem dX10_takeDoll_69 : decode cX10_takeDoll 69 = .ok (.invokevirtual 113, 3) := by decide +kernel
theorem dX10_takeDoll_72 : decode cX10_takeDoll 72 = .ok (.ireturn, 1) := by decide +kernel
theorem dX10_takePattern_0 : decode cX10_takePattern 0 = .ok (.aload_n 0, 1) := by decide +kernel
theorem dX10_takePattern_1 : decode cX10_takePattern 1 = .ok (.iconst 1, 1) := by decide +kernel
theorem dX10_takePattern_2 : decode cX10_takePattern 2 = .ok (.putfield 123, 3) := by decide +kernel
theorem dX10_takePattern_5 : decode cX10_takePattern 5 = .ok (.aload_n 0, 1) := by decide +kernel
theorem dX10_takePattern_6 : decode cX10_takePattern 6 = .ok (.iconst 0, 1) := by decide +kernel
theorem dX10_takePattern_7 : decode cX10_takePattern 7 = .ok (.bipush 63, 2) := by decide +kernel
theorem dX10_takePattern_9 : decode cX10_takePattern 9 = .ok (.invokevirtual 110, 3) := by decide +kernel
theorem dX10_takePattern_12 : decode cX10_takePattern 12 = .ok (.istore_n 1, 1) := by decide +kernel
theorem dX10_takePattern_13 : decode cX10_takePattern 13 = .ok (.aload_n 0, 1) := by decide +kernel
theorem dX10_takePattern_14 : decode cX10_takePattern 14 = .ok (.aload_n 0, 1) := by decide +kernel
theorem dX10_takePattern_15 : decode cX10_takePattern 15 = .ok (.getfield 107, 3) := by decide +kernel
theorem dX10_takePattern_18 : decode cX10_takePattern 18 = .ok (.putfield 127, 3) := by decide +kernel
theorem dX10_takePattern_21 : decode cX10_takePattern 21 = .ok (.iload_n 1, 1) := by decide +kernel
theorem dX10_takePattern_22 : decode cX10_takePattern 22 = .ok (.ireturn, 1) := by decide +kernel
theorem dX10_takeQuota_0 : decode cX10_takeQuota 0 = .ok (.aload_n 0, 1) := by decide +kernel
theorem dX10_takeQuota_1 : decode cX10_takeQuota 1 = .ok (.iconst 1, 1) := by decide +kernel
theorem dX10_takeQuota_2 : decode cX10_takeQuota 2 = .ok (.bipush 63, 2) := by decide +kernel
theorem dX10_takeQuota_4 : decode cX10_takeQuota 4 = .ok (.invokevirtual 110, 3) := by decide +kernel
theorem dX10_takeQuota_7 : decode cX10_takeQuota 7 = .ok (.istore_n 1, 1) := by decide +kernel
theorem dX10_takeQuota_8 : decode cX10_takeQuota 8 = .ok (.aload_n 0, 1) := by decide +kernel
theorem dX10_takeQuota_9 : decode cX10_takeQuota 9 = .ok (.aload_n 0, 1) := by decide +kernel
theorem dX10_takeQuota_10 : decode cX10_takeQuota 10 = .ok (.getfield 107, 3) := by decide +kernel
theorem dX10_takeQuota_13 : decode cX10_takeQuota 13 = .ok (.putfield 130, 3) := by decide +kernel
theorem dX10_takeQuota_16 : decode cX10_takeQuota 16 = .ok (.iload_n 1, 1) := by decide +kernel
theorem dX10_takeQuota_17 : decode cX10_takeQuota 17 = .ok (.ireturn, 1) := by decide +kernel
theorem dX10_isFull_0 : decode cX10_isFull 0 = .ok (.iload_n 1, 1) := by decide +kernel
theorem dX10_isFull_1 : decode cX10_isFull 1 = .ok (.tableswitch 60 0 2 #[27, 40, 55], 27) := by decide +kernel
theorem dX10_isFull_28 : decode cX10_isFull 28 = .ok (.aload_n 0, 1) := by decide +kernel
theorem dX10_isFull_29 : decode cX10_isFull 29 = .ok (.getfield 117, 3) := by decide +kernel
theorem dX10_isFull_32 : decode cX10_isFull 32 = .ok (.ifCond .le 7, 3) := by decide +kernel
theorem dX10_isFull_35 : decode cX10_isFull 35 = .ok (.iconst 1, 1) := by decide +kernel
theorem dX10_isFull_36 : decode cX10_isFull 36 = .ok (.goto 4, 3) := by decide +kernel
theorem dX10_isFull_39 : decode cX10_isFull 39 = .ok (.iconst 0, 1) := by decide +kernel
theorem dX10_isFull_40 : decode cX10_isFull 40 = .ok (.ireturn, 1) := by decide +kernel
theorem dX10_isFull_41 : decode cX10_isFull 41 = .ok (.aload_n 0, 1) := by decide +kernel
theorem dX10_isFull_42 : decode cX10_isFull 42 = .ok (.getfield 120, 3) := by decide +kernel
theorem dX10_isFull_45 : decode cX10_isFull 45 = .ok (.bipush 8, 2) := by decide +kernel
theorem dX10_isFull_47 : decode cX10_isFull 47 = .ok (.if_icmp .ne 7, 3) := by decide +kernel
theorem dX10_isFull_50 : decode cX10_isFull 50 = .ok (.iconst 1, 1) := by decide +kernel
theorem dX10_isFull_51 : decode cX10_isFull 51 = .ok (.goto 4, 3) := by decide +kernel
theorem dX10_isFull_54 : decode cX10_isFull 54 = .ok (.iconst 0, 1) := by decide +kernel
theorem dX10_isFull_55 : decode cX10_isFull 55 = .ok (.ireturn, 1) := by decide +kernel
theorem dX10_isFull_56 : decode cX10_isFull 56 = .ok (.aload_n 0, 1) := by decide +kernel
theorem dX10_isFull_57 : decode cX10_isFull 57 = .ok (.getfield 123, 3) := by decide +kernel
theorem dX10_isFull_60 : decode cX10_isFull 60 = .ok (.ireturn, 1) := by decide +kernel
theorem dX10_isFull_61 : decode cX10_isFull 61 = .ok (.aload_n 0, 1) := by decide +kernel
theorem dX10_isFull_62 : decode cX10_isFull 62 = .ok (.getfield 130, 3) := by decide +kernel
theorem dX10_isFull_65 : decode cX10_isFull 65 = .ok (.ifCond .le 7, 3) := by decide +kernel
theorem dX10_isFull_68 : decode cX10_isFull 68 = .ok (.iconst 1, 1) := by decide +kernel
theorem dX10_isFull_69 : decode cX10_isFull 69 = .ok (.goto 4, 3) := by decide +kernel
theorem dX10_isFull_72 : decode cX10_isFull 72 = .ok (.iconst 0, 1) := by decide +kernel
theorem dX10_isFull_73 : decode cX10_isFull 73 = .ok (.ireturn, 1) := by decide +kernel
theorem dX10_takeClause_0 : decode cX10_takeClause 0 = .ok (.aload_n 0, 1) := by decide +kernel
theorem dX10_takeClause_1 : decode cX10_takeClause 1 = .ok (.invokevirtual 92, 3) := by decide +kernel
theorem dX10_takeClause_4 : decode cX10_takeClause 4 = .ok (.istore_n 1, 1) := by decide +kernel
theorem dX10_takeClause_5 : decode cX10_takeClause 5 = .ok (.iload_n 1, 1) := by decide +kernel
theorem dX10_takeClause_6 : decode cX10_takeClause 6 = .ok (.bipush 99, 2) := by decide +kernel
theorem dX10_takeClause_8 : decode cX10_takeClause 8 = .ok (.if_icmp .ne 7, 3) := by decide +kernel
theorem dX10_takeClause_11 : decode cX10_takeClause 11 = .ok (.iconst 0, 1) := by decide +kernel
theorem dX10_takeClause_12 : decode cX10_takeClause 12 = .ok (.goto 34, 3) := by decide +kernel
theorem dX10_takeClause_15 : decode cX10_takeClause 15 = .ok (.iload_n 1, 1) := by decide +kernel
theorem dX10_takeClause_16 : decode cX10_takeClause 16 = .ok (.bipush 100, 2) := by decide +kernel
theorem dX10_takeClause_18 : decode cX10_takeClause 18 = .ok (.if_icmp .ne 7, 3) := by decide +kernel
theorem dX10_takeClause_21 : decode cX10_takeClause 21 = .ok (.iconst 1, 1) := by decide +kernel
theorem dX10_takeClause_22 : decode cX10_takeClause 22 = .ok (.goto 24, 3) := by decide +kernel
theorem dX10_takeClause_25 : decode cX10_takeClause 25 = .ok (.iload_n 1, 1) := by decide +kernel
theorem dX10_takeClause_26 : decode cX10_takeClause 26 = .ok (.bipush 115, 2) := by decide +kernel
theorem dX10_takeClause_28 : decode cX10_takeClause 28 = .ok (.if_icmp .ne 7, 3) := by decide +kernel
theorem dX10_takeClause_31 : decode cX10_takeClause 31 = .ok (.iconst 2, 1) := by decide +kernel
theorem dX10_takeClause_32 : decode cX10_takeClause 32 = .ok (.goto 14, 3) := by decide +kernel
theorem dX10_takeClause_35 : decode cX10_takeClause 35 = .ok (.iload_n 1, 1) := by decide +kernel
theorem dX10_takeClause_36 : decode cX10_takeClause 36 = .ok (.bipush 113, 2) := by decide +kernel
theorem dX10_takeClause_38 : decode cX10_takeClause 38 = .ok (.if_icmp .ne 7, 3) := by decide +kernel
theorem dX10_takeClause_41 : decode cX10_takeClause 41 = .ok (.iconst 3, 1) := by decide +kernel
theorem dX10_takeClause_42 : decode cX10_takeClause 42 = .ok (.goto 4, 3) := by decide +kernel
theorem dX10_takeClause_45 : decode cX10_takeClause 45 = .ok (.iconst (-1), 1) := by decide +kernel
theorem dX10_takeClause_46 : decode cX10_takeClause 46 = .ok (.istore_n 2, 1) := by decide +kernel
theorem dX10_takeClause_47 : decode cX10_takeClause 47 = .ok (.iload_n 2, 1) := by decide +kernel
theorem dX10_takeClause_48 : decode cX10_takeClause 48 = .ok (.ifCond .lt 14, 3) := by decide +kernel
theorem dX10_takeClause_51 : decode cX10_takeClause 51 = .ok (.iload_n 2, 1) := by decide +kernel
theorem dX10_takeClause_52 : decode cX10_takeClause 52 = .ok (.ifCond .le 20, 3) := by decide +kernel
theorem dX10_takeClause_55 : decode cX10_takeClause 55 = .ok (.aload_n 0, 1) := by decide +kernel
theorem dX10_takeClause_56 : decode cX10_takeClause 56 = .ok (.getfield 117, 3) := by decide +kernel
theorem dX10_takeClause_59 : decode cX10_takeClause 59 = .ok (.ifCond .ne 13, 3) := by decide +kernel
theorem dX10_takeClause_62 : decode cX10_takeClause 62 = .ok (.aload_n 0, 1) := by decide +kernel
theorem dX10_takeClause_63 : decode cX10_takeClause 63 = .ok (.iconst 1, 1) := by decide +kernel
theorem dX10_takeClause_64 : decode cX10_takeClause 64 = .ok (.aload_n 0, 1) := by decide +kernel
theorem dX10_takeClause_65 : decode cX10_takeClause 65 = .ok (.getfield 89, 3) := by decide +kernel
theorem dX10_takeClause_68 : decode cX10_takeClause 68 = .ok (.invokevirtual 100, 3) := by decide +kernel
theorem dX10_takeClause_71 : decode cX10_takeClause 71 = .ok (.ireturn, 1) := by decide +kernel
theorem dX10_takeClause_72 : decode cX10_takeClause 72 = .ok (.aload_n 0, 1) := by decide +kernel
theorem dX10_takeClause_73 : decode cX10_takeClause 73 = .ok (.iload_n 2, 1) := by decide +kernel
theorem dX10_takeClause_74 : decode cX10_takeClause 74 = .ok (.invokevirtual 133, 3) := by decide +kernel
theorem dX10_takeClause_77 : decode cX10_takeClause 77 = .ok (.ifCond .eq 13, 3) := by decide +kernel
theorem dX10_takeClause_80 : decode cX10_takeClause 80 = .ok (.aload_n 0, 1) := by decide +kernel
theorem dX10_takeClause_81 : decode cX10_takeClause 81 = .ok (.iconst 3, 1) := by decide +kernel
theorem dX10_takeClause_82 : decode cX10_takeClause 82 = .ok (.aload_n 0, 1) := by decide +kernel
theorem dX10_takeClause_83 : decode cX10_takeClause 83 = .ok (.getfield 89, 3) := by decide +kernel
theorem dX10_takeClause_86 : decode cX10_takeClause 86 = .ok (.invokevirtual 100, 3) := by decide +kernel
theorem dX10_takeClause_89 : decode cX10_takeClause 89 = .ok (.ireturn, 1) := by decide +kernel
theorem dX10_takeClause_90 : decode cX10_takeClause 90 = .ok (.aload_n 0, 1) := by decide +kernel
theorem dX10_takeClause_91 : decode cX10_takeClause 91 = .ok (.dup, 1) := by decide +kernel
theorem dX10_takeClause_92 : decode cX10_takeClause 92 = .ok (.getfield 89, 3) := by decide +kernel
theorem dX10_takeClause_95 : decode cX10_takeClause 95 = .ok (.iconst 1, 1) := by decide +kernel
theorem dX10_takeClause_96 : decode cX10_takeClause 96 = .ok (.iadd, 1) := by decide +kernel
theorem dX10_takeClause_97 : decode cX10_takeClause 97 = .ok (.putfield 89, 3) := by decide +kernel
theorem dX10_takeClause_100 : decode cX10_takeClause 100 = .ok (.iload_n 2, 1) := by decide +kernel
theorem dX10_takeClause_101 : decode cX10_takeClause 101 = .ok (.ifCond .ne 10, 3) := by decide +kernel
theorem dX10_takeClause_104 : decode cX10_takeClause 104 = .ok (.aload_n 0, 1) := by decide +kernel
theorem dX10_takeClause_105 : decode cX10_takeClause 105 = .ok (.invokevirtual 137, 3) := by decide +kernel
theorem dX10_takeClause_108 : decode cX10_takeClause 108 = .ok (.goto 31, 3) := by decide +kernel
theorem dX10_takeClause_111 : decode cX10_takeClause 111 = .ok (.iload_n 2, 1) := by decide +kernel
theorem dX10_takeClause_112 : decode cX10_takeClause 112 = .ok (.iconst 1, 1) := by decide +kernel
theorem dX10_takeClause_113 : decode cX10_takeClause 113 = .ok (.if_icmp .ne 10, 3) := by decide +kernel
theorem dX10_takeClause_116 : decode cX10_takeClause 116 = .ok (.aload_n 0, 1) := by decide +kernel
theorem dX10_takeClause_117 : decode cX10_takeClause 117 = .ok (.invokevirtual 140, 3) := by decide +kernel
theorem dX10_takeClause_120 : decode cX10_takeClause 120 = .ok (.goto 19, 3) := by decide +kernel
theorem dX10_takeClause_123 : decode cX10_takeClause 123 = .ok (.iload_n 2, 1) := by decide +kernel
theorem dX10_takeClause_124 : decode cX10_takeClause 124 = .ok (.iconst 2, 1) := by decide +kernel
theorem dX10_takeClause_125 : decode cX10_takeClause 125 = .ok (.if_icmp .ne 10, 3) := by decide +kernel
theorem dX10_takeClause_128 : decode cX10_takeClause 128 = .ok (.aload_n 0, 1) := by decide +kernel
theorem dX10_takeClause_129 : decode cX10_takeClause 129 = .ok (.invokevirtual 143, 3) := by decide +kernel
theorem dX10_takeClause_132 : decode cX10_takeClause 132 = .ok (.goto 7, 3) := by decide +kernel
theorem dX10_takeClause_135 : decode cX10_takeClause 135 = .ok (.aload_n 0, 1) := by decide +kernel
theorem dX10_takeClause_136 : decode cX10_takeClause 136 = .ok (.invokevirtual 146, 3) := by decide +kernel
theorem dX10_takeClause_139 : decode cX10_takeClause 139 = .ok (.istore_n 3, 1) := by decide +kernel
theorem dX10_takeClause_140 : decode cX10_takeClause 140 = .ok (.iload_n 3, 1) := by decide +kernel
theorem dX10_takeClause_141 : decode cX10_takeClause 141 = .ok (.ifCond .ne 22, 3) := by decide +kernel
theorem dX10_takeClause_144 : decode cX10_takeClause 144 = .ok (.aload_n 0, 1) := by decide +kernel
theorem dX10_takeClause_145 : decode cX10_takeClause 145 = .ok (.invokevirtual 92, 3) := by decide +kernel
theorem dX10_takeClause_148 : decode cX10_takeClause 148 = .ok (.bipush 59, 2) := by decide +kernel
theorem dX10_takeClause_150 : decode cX10_takeClause 150 = .ok (.if_icmp .eq 13, 3) := by decide +kernel
theorem dX10_takeClause_153 : decode cX10_takeClause 153 = .ok (.aload_n 0, 1) := by decide +kernel
theorem dX10_takeClause_154 : decode cX10_takeClause 154 = .ok (.iconst 1, 1) := by decide +kernel
theorem dX10_takeClause_155 : decode cX10_takeClause 155 = .ok (.aload_n 0, 1) := by decide +kernel
theorem dX10_takeClause_156 : decode cX10_takeClause 156 = .ok (.getfield 89, 3) := by decide +kernel
theorem dX10_takeClause_159 : decode cX10_takeClause 159 = .ok (.invokevirtual 100, 3) := by decide +kernel
theorem dX10_takeClause_162 : decode cX10_takeClause 162 = .ok (.ireturn, 1) := by decide +kernel
theorem dX10_takeClause_163 : decode cX10_takeClause 163 = .ok (.aload_n 0, 1) := by decide +kernel
theorem dX10_takeClause_164 : decode cX10_takeClause 164 = .ok (.dup, 1) := by decide +kernel
theorem dX10_takeClause_165 : decode cX10_takeClause 165 = .ok (.getfield 89, 3) := by decide +kernel
theorem dX10_takeClause_168 : decode cX10_takeClause 168 = .ok (.iconst 1, 1) := by decide +kernel
theorem dX10_takeClause_169 : decode cX10_takeClause 169 = .ok (.iadd, 1) := by decide +kernel
theorem dX10_takeClause_170 : decode cX10_takeClause 170 = .ok (.putfield 89, 3) := by decide +kernel
theorem dX10_takeClause_173 : decode cX10_takeClause 173 = .ok (.iload_n 3, 1) := by decide +kernel
theorem dX10_takeClause_174 : decode cX10_takeClause 174 = .ok (.ireturn, 1) := by decide +kernel
theorem dX10_copyRow_0 : decode cX10_copyRow 0 = .ok (.iconst 0, 1) := by decide +kernel
theorem dX10_copyRow_1 : decode cX10_copyRow 1 = .ok (.istore_n 3, 1) := by decide +kernel
theorem dX10_copyRow_2 : decode cX10_copyRow 2 = .ok (.iload_n 3, 1) := by decide +kernel
theorem dX10_copyRow_3 : decode cX10_copyRow 3 = .ok (.iload_n 2, 1) := by decide +kernel
theorem dX10_copyRow_4 : decode cX10_copyRow 4 = .ok (.if_icmp .ge 15, 3) := by decide +kernel
theorem dX10_copyRow_7 : decode cX10_copyRow 7 = .ok (.aload_n 1, 1) := by decide +kernel
theorem dX10_copyRow_8 : decode cX10_copyRow 8 = .ok (.iload_n 3, 1) := by decide +kernel
theorem dX10_copyRow_9 : decode cX10_copyRow 9 = .ok (.aload_n 0, 1) := by decide +kernel
theorem dX10_copyRow_10 : decode cX10_copyRow 10 = .ok (.iload_n 3, 1) := by decide +kernel
theorem dX10_copyRow_11 : decode cX10_copyRow 11 = .ok (.iaload, 1) := by decide +kernel
theorem dX10_copyRow_12 : decode cX10_copyRow 12 = .ok (.iastore, 1) := by decide +kernel
theorem dX10_copyRow_13 : decode cX10_copyRow 13 = .ok (.iinc 3 1, 3) := by decide +kernel
theorem dX10_copyRow_16 : decode cX10_copyRow 16 = .ok (.goto (-14), 3) := by decide +kernel
theorem dX10_copyRow_19 : decode cX10_copyRow 19 = .ok (.return_, 1) := by decide +kernel
theorem dX10_takeRead_0 : decode cX10_takeRead 0 = .ok (.aload_n 0, 1) := by decide +kernel
theorem dX10_takeRead_1 : decode cX10_takeRead 1 = .ok (.aload_n 0, 1) := by decide +kernel
theorem dX10_takeRead_2 : decode cX10_takeRead 2 = .ok (.getfield 117, 3) := by decide +kernel
theorem dX10_takeRead_5 : decode cX10_takeRead 5 = .ok (.putfield 72, 3) := by decide +kernel
theorem dX10_takeRead_8 : decode cX10_takeRead 8 = .ok (.aload_n 0, 1) := by decide +kernel
theorem dX10_takeRead_9 : decode cX10_takeRead 9 = .ok (.aload_n 0, 1) := by decide +kernel
theorem dX10_takeRead_10 : decode cX10_takeRead 10 = .ok (.getfield 120, 3) := by decide +kernel
theorem dX10_takeRead_13 : decode cX10_takeRead 13 = .ok (.putfield 79, 3) := by decide +kernel
theorem dX10_takeRead_16 : decode cX10_takeRead 16 = .ok (.aload_n 0, 1) := by decide +kernel
theorem dX10_takeRead_17 : decode cX10_takeRead 17 = .ok (.aload_n 0, 1) := by decide +kernel
theorem dX10_takeRead_18 : decode cX10_takeRead 18 = .ok (.getfield 127, 3) := by decide +kernel
theorem dX10_takeRead_21 : decode cX10_takeRead 21 = .ok (.putfield 149, 3) := by decide +kernel
theorem dX10_takeRead_24 : decode cX10_takeRead 24 = .ok (.aload_n 0, 1) := by decide +kernel
theorem dX10_takeRead_25 : decode cX10_takeRead 25 = .ok (.getfield 32, 3) := by decide +kernel
theorem dX10_takeRead_28 : decode cX10_takeRead 28 = .ok (.aload_n 0, 1) := by decide +kernel
theorem dX10_takeRead_29 : decode cX10_takeRead 29 = .ok (.getfield 7, 3) := by decide +kernel
theorem dX10_takeRead_32 : decode cX10_takeRead 32 = .ok (.aload_n 0, 1) := by decide +kernel
theorem dX10_takeRead_33 : decode cX10_takeRead 33 = .ok (.getfield 72, 3) := by decide +kernel
theorem dX10_takeRead_36 : decode cX10_takeRead 36 = .ok (.invokestatic 152, 3) := by decide +kernel
theorem dX10_takeRead_39 : decode cX10_takeRead 39 = .ok (.aload_n 0, 1) := by decide +kernel
theorem dX10_takeRead_40 : decode cX10_takeRead 40 = .ok (.getfield 35, 3) := by decide +kernel
theorem dX10_takeRead_43 : decode cX10_takeRead 43 = .ok (.aload_n 0, 1) := by decide +kernel
theorem dX10_takeRead_44 : decode cX10_takeRead 44 = .ok (.getfield 13, 3) := by decide +kernel
theorem dX10_takeRead_47 : decode cX10_takeRead 47 = .ok (.aload_n 0, 1) := by decide +kernel
theorem dX10_takeRead_48 : decode cX10_takeRead 48 = .ok (.getfield 79, 3) := by decide +kernel
theorem dX10_takeRead_51 : decode cX10_takeRead 51 = .ok (.invokestatic 152, 3) := by decide +kernel
theorem dX10_takeRead_54 : decode cX10_takeRead 54 = .ok (.aload_n 0, 1) := by decide +kernel
theorem dX10_takeRead_55 : decode cX10_takeRead 55 = .ok (.getfield 38, 3) := by decide +kernel
theorem dX10_takeRead_58 : decode cX10_takeRead 58 = .ok (.aload_n 0, 1) := by decide +kernel
theorem dX10_takeRead_59 : decode cX10_takeRead 59 = .ok (.getfield 16, 3) := by decide +kernel
theorem dX10_takeRead_62 : decode cX10_takeRead 62 = .ok (.aload_n 0, 1) := by decide +kernel
theorem dX10_takeRead_63 : decode cX10_takeRead 63 = .ok (.getfield 79, 3) := by decide +kernel
theorem dX10_takeRead_66 : decode cX10_takeRead 66 = .ok (.invokestatic 152, 3) := by decide +kernel
theorem dX10_takeRead_69 : decode cX10_takeRead 69 = .ok (.aload_n 0, 1) := by decide +kernel
theorem dX10_takeRead_70 : decode cX10_takeRead 70 = .ok (.getfield 41, 3) := by decide +kernel
theorem dX10_takeRead_73 : decode cX10_takeRead 73 = .ok (.aload_n 0, 1) := by decide +kernel
theorem dX10_takeRead_74 : decode cX10_takeRead 74 = .ok (.getfield 19, 3) := by decide +kernel
theorem dX10_takeRead_77 : decode cX10_takeRead 77 = .ok (.aload_n 0, 1) := by decide +kernel
theorem dX10_takeRead_78 : decode cX10_takeRead 78 = .ok (.getfield 79, 3) := by decide +kernel
theorem dX10_takeRead_81 : decode cX10_takeRead 81 = .ok (.invokestatic 152, 3) := by decide +kernel
theorem dX10_takeRead_84 : decode cX10_takeRead 84 = .ok (.aload_n 0, 1) := by decide +kernel
theorem dX10_takeRead_85 : decode cX10_takeRead 85 = .ok (.aload_n 0, 1) := by decide +kernel
theorem dX10_takeRead_86 : decode cX10_takeRead 86 = .ok (.getfield 72, 3) := by decide +kernel
theorem dX10_takeRead_89 : decode cX10_takeRead 89 = .ok (.ifCond .ne 7, 3) := by decide +kernel
theorem dX10_takeRead_92 : decode cX10_takeRead 92 = .ok (.iconst 0, 1) := by decide +kernel
theorem dX10_takeRead_93 : decode cX10_takeRead 93 = .ok (.goto 33, 3) := by decide +kernel
theorem dX10_takeRead_96 : decode cX10_takeRead 96 = .ok (.aload_n 0, 1) := by decide +kernel
theorem dX10_takeRead_97 : decode cX10_takeRead 97 = .ok (.getfield 130, 3) := by decide +kernel
theorem dX10_takeRead_100 : decode cX10_takeRead 100 = .ok (.ifCond .le 10, 3) := by decide +kernel
theorem dX10_takeRead_103 : decode cX10_takeRead 103 = .ok (.aload_n 0, 1) := by decide +kernel
theorem dX10_takeRead_104 : decode cX10_takeRead 104 = .ok (.getfield 130, 3) := by decide +kernel
theorem dX10_takeRead_107 : decode cX10_takeRead 107 = .ok (.goto 19, 3) := by decide +kernel
theorem dX10_takeRead_110 : decode cX10_takeRead 110 = .ok (.aload_n 0, 1) := by decide +kernel
theorem dX10_takeRead_111 : decode cX10_takeRead 111 = .ok (.iconst 1, 1) := by decide +kernel
theorem dX10_takeRead_112 : decode cX10_takeRead 112 = .ok (.aload_n 0, 1) := by decide +kernel
theorem dX10_takeRead_113 : decode cX10_takeRead 113 = .ok (.getfield 72, 3) := by decide +kernel
theorem dX10_takeRead_116 : decode cX10_takeRead 116 = .ok (.ishl, 1) := by decide +kernel
theorem dX10_takeRead_117 : decode cX10_takeRead 117 = .ok (.iconst 1, 1) := by decide +kernel
theorem dX10_takeRead_118 : decode cX10_takeRead 118 = .ok (.isub, 1) := by decide +kernel
theorem dX10_takeRead_119 : decode cX10_takeRead 119 = .ok (.invokevirtual 156, 3) := by decide +kernel
theorem dX10_takeRead_122 : decode cX10_takeRead 122 = .ok (.iconst 2, 1) := by decide +kernel
theorem dX10_takeRead_123 : decode cX10_takeRead 123 = .ok (.idiv, 1) := by decide +kernel
theorem dX10_takeRead_124 : decode cX10_takeRead 124 = .ok (.iconst 1, 1) := by decide +kernel
theorem dX10_takeRead_125 : decode cX10_takeRead 125 = .ok (.iadd, 1) := by decide +kernel
theorem dX10_takeRead_126 : decode cX10_takeRead 126 = .ok (.putfield 160, 3) := by decide +kernel
theorem dX10_takeRead_129 : decode cX10_takeRead 129 = .ok (.iconst 0, 1) := by decide +kernel
theorem dX10_takeRead_130 : decode cX10_takeRead 130 = .ok (.istore_n 1, 1) := by decide +kernel
theorem dX10_takeRead_131 : decode cX10_takeRead 131 = .ok (.iload_n 1, 1) := by decide +kernel
theorem dX10_takeRead_132 : decode cX10_takeRead 132 = .ok (.bipush 36, 2) := by decide +kernel
theorem dX10_takeRead_134 : decode cX10_takeRead 134 = .ok (.if_icmp .ge 16, 3) := by decide +kernel
theorem dX10_takeRead_137 : decode cX10_takeRead 137 = .ok (.aload_n 0, 1) := by decide +kernel
theorem dX10_takeRead_138 : decode cX10_takeRead 138 = .ok (.getfield 22, 3) := by decide +kernel
theorem dX10_takeRead_141 : decode cX10_takeRead 141 = .ok (.iload_n 1, 1) := by decide +kernel
theorem dX10_takeRead_142 : decode cX10_takeRead 142 = .ok (.iconst 0, 1) := by decide +kernel
theorem dX10_takeRead_143 : decode cX10_takeRead 143 = .ok (.iastore, 1) := by decide +kernel
theorem dX10_takeRead_144 : decode cX10_takeRead 144 = .ok (.iinc 1 1, 3) := by decide +kernel
theorem dX10_takeRead_147 : decode cX10_takeRead 147 = .ok (.goto (-16), 3) := by decide +kernel
theorem dX10_takeRead_150 : decode cX10_takeRead 150 = .ok (.iconst 0, 1) := by decide +kernel
theorem dX10_takeRead_151 : decode cX10_takeRead 151 = .ok (.istore_n 1, 1) := by decide +kernel
theorem dX10_takeRead_152 : decode cX10_takeRead 152 = .ok (.iload_n 1, 1) := by decide +kernel
theorem dX10_takeRead_153 : decode cX10_takeRead 153 = .ok (.aload_n 0, 1) := by decide +kernel
theorem dX10_takeRead_154 : decode cX10_takeRead 154 = .ok (.getfield 79, 3) := by decide +kernel
theorem dX10_takeRead_157 : decode cX10_takeRead 157 = .ok (.if_icmp .ge 36, 3) := by decide +kernel
theorem dX10_takeRead_160 : decode cX10_takeRead 160 = .ok (.aload_n 0, 1) := by decide +kernel
theorem dX10_takeRead_161 : decode cX10_takeRead 161 = .ok (.getfield 22, 3) := by decide +kernel
theorem dX10_takeRead_164 : decode cX10_takeRead 164 = .ok (.iload_n 1, 1) := by decide +kernel
theorem dX10_takeRead_165 : decode cX10_takeRead 165 = .ok (.aload_n 0, 1) := by decide +kernel
theorem dX10_takeRead_166 : decode cX10_takeRead 166 = .ok (.getfield 16, 3) := by decide +kernel
theorem dX10_takeRead_169 : decode cX10_takeRead 169 = .ok (.iload_n 1, 1) := by decide +kernel
theorem dX10_takeRead_170 : decode cX10_takeRead 170 = .ok (.iaload, 1) := by decide +kernel
theorem dX10_takeRead_171 : decode cX10_takeRead 171 = .ok (.iastore, 1) := by decide +kernel
theorem dX10_takeRead_172 : decode cX10_takeRead 172 = .ok (.aload_n 0, 1) := by decide +kernel
theorem dX10_takeRead_173 : decode cX10_takeRead 173 = .ok (.getfield 22, 3) := by decide +kernel
theorem dX10_takeRead_176 : decode cX10_takeRead 176 = .ok (.bipush 17, 2) := by decide +kernel
theorem dX10_takeRead_178 : decode cX10_takeRead 178 = .ok (.iload_n 1, 1) := by decide +kernel
theorem dX10_takeRead_179 : decode cX10_takeRead 179 = .ok (.iadd, 1) := by decide +kernel
theorem dX10_takeRead_180 : decode cX10_takeRead 180 = .ok (.aload_n 0, 1) := by decide +kernel
theorem dX10_takeRead_181 : decode cX10_takeRead 181 = .ok (.getfield 19, 3) := by decide +kernel
theorem dX10_takeRead_184 : decode cX10_takeRead 184 = .ok (.iload_n 1, 1) := by decide +kernel
theorem dX10_takeRead_185 : decode cX10_takeRead 185 = .ok (.iaload, 1) := by decide +kernel
theorem dX10_takeRead_186 : decode cX10_takeRead 186 = .ok (.iastore, 1) := by decide +kernel
theorem dX10_takeRead_187 : decode cX10_takeRead 187 = .ok (.iinc 1 1, 3) := by decide +kernel
theorem dX10_takeRead_190 : decode cX10_takeRead 190 = .ok (.goto (-38), 3) := by decide +kernel
theorem dX10_takeRead_193 : decode cX10_takeRead 193 = .ok (.aload_n 0, 1) := by decide +kernel
theorem dX10_takeRead_194 : decode cX10_takeRead 194 = .ok (.getfield 22, 3) := by decide +kernel
theorem dX10_takeRead_197 : decode cX10_takeRead 197 = .ok (.bipush 8, 2) := by decide +kernel
theorem dX10_takeRead_199 : decode cX10_takeRead 199 = .ok (.iconst 1, 1) := by decide +kernel
theorem dX10_takeRead_200 : decode cX10_takeRead 200 = .ok (.aload_n 0, 1) := by decide +kernel
theorem dX10_takeRead_201 : decode cX10_takeRead 201 = .ok (.getfield 79, 3) := by decide +kernel
theorem dX10_takeRead_204 : decode cX10_takeRead 204 = .ok (.ishl, 1) := by decide +kernel
theorem dX10_takeRead_205 : decode cX10_takeRead 205 = .ok (.iconst 1, 1) := by decide +kernel
theorem dX10_takeRead_206 : decode cX10_takeRead 206 = .ok (.isub, 1) := by decide +kernel
theorem dX10_takeRead_207 : decode cX10_takeRead 207 = .ok (.iastore, 1) := by decide +kernel
theorem dX10_takeRead_208 : decode cX10_takeRead 208 = .ok (.return_, 1) := by decide +kernel
theorem dX10_congress_0 : decode cX10_congress 0 = .ok (.aload_n 0, 1) := by decide +kernel
theorem dX10_congress_1 : decode cX10_congress 1 = .ok (.iconst (-1), 1) := by decide +kernel
theorem dX10_congress_2 : decode cX10_congress 2 = .ok (.putfield 28, 3) := by decide +kernel
theorem dX10_congress_5 : decode cX10_congress 5 = .ok (.aload_n 0, 1) := by decide +kernel
theorem dX10_congress_6 : decode cX10_congress 6 = .ok (.iconst 0, 1) := by decide +kernel
theorem dX10_congress_7 : decode cX10_congress 7 = .ok (.putfield 89, 3) := by decide +kernel
theorem dX10_congress_10 : decode cX10_congress 10 = .ok (.aload_n 0, 1) := by decide +kernel
theorem dX10_congress_11 : decode cX10_congress 11 = .ok (.iconst 0, 1) := by decide +kernel
theorem dX10_congress_12 : decode cX10_congress 12 = .ok (.putfield 117, 3) := by decide +kernel
theorem dX10_congress_15 : decode cX10_congress 15 = .ok (.aload_n 0, 1) := by decide +kernel
theorem dX10_congress_16 : decode cX10_congress 16 = .ok (.iconst 0, 1) := by decide +kernel
theorem dX10_congress_17 : decode cX10_congress 17 = .ok (.putfield 120, 3) := by decide +kernel
theorem dX10_congress_20 : decode cX10_congress 20 = .ok (.aload_n 0, 1) := by decide +kernel
theorem dX10_congress_21 : decode cX10_congress 21 = .ok (.iconst 0, 1) := by decide +kernel
theorem dX10_congress_22 : decode cX10_congress 22 = .ok (.putfield 123, 3) := by decide +kernel
theorem dX10_congress_25 : decode cX10_congress 25 = .ok (.aload_n 0, 1) := by decide +kernel
theorem dX10_congress_26 : decode cX10_congress 26 = .ok (.iconst 0, 1) := by decide +kernel
theorem dX10_congress_27 : decode cX10_congress 27 = .ok (.putfield 127, 3) := by decide +kernel
theorem dX10_congress_30 : decode cX10_congress 30 = .ok (.aload_n 0, 1) := by decide +kernel
theorem dX10_congress_31 : decode cX10_congress 31 = .ok (.iconst 0, 1) := by decide +kernel
theorem dX10_congress_32 : decode cX10_congress 32 = .ok (.putfield 130, 3) := by decide +kernel
theorem dX10_congress_35 : decode cX10_congress 35 = .ok (.iconst 0, 1) := by decide +kernel
theorem dX10_congress_36 : decode cX10_congress 36 = .ok (.istore_n 1, 1) := by decide +kernel
theorem dX10_congress_37 : decode cX10_congress 37 = .ok (.iload_n 1, 1) := by decide +kernel
theorem dX10_congress_38 : decode cX10_congress 38 = .ok (.ifCond .ne 18, 3) := by decide +kernel
theorem dX10_congress_41 : decode cX10_congress 41 = .ok (.aload_n 0, 1) := by decide +kernel
theorem dX10_congress_42 : decode cX10_congress 42 = .ok (.invokevirtual 92, 3) := by decide +kernel
theorem dX10_congress_45 : decode cX10_congress 45 = .ok (.ifCond .lt 11, 3) := by decide +kernel
theorem dX10_congress_48 : decode cX10_congress 48 = .ok (.aload_n 0, 1) := by decide +kernel
theorem dX10_congress_49 : decode cX10_congress 49 = .ok (.invokevirtual 163, 3) := by decide +kernel
theorem dX10_congress_52 : decode cX10_congress 52 = .ok (.istore_n 1, 1) := by decide +kernel
theorem dX10_congress_53 : decode cX10_congress 53 = .ok (.goto (-16), 3) := by decide +kernel
theorem dX10_congress_56 : decode cX10_congress 56 = .ok (.aload_n 0, 1) := by decide +kernel
theorem dX10_congress_57 : decode cX10_congress 57 = .ok (.iconst 0, 1) := by decide +kernel
theorem dX10_congress_58 : decode cX10_congress 58 = .ok (.putfield 85, 3) := by decide +kernel
theorem dX10_congress_61 : decode cX10_congress 61 = .ok (.iload_n 1, 1) := by decide +kernel
theorem dX10_congress_62 : decode cX10_congress 62 = .ok (.ifCond .le 8, 3) := by decide +kernel
theorem dX10_congress_65 : decode cX10_congress 65 = .ok (.bipush (-10), 2) := by decide +kernel
theorem dX10_congress_67 : decode cX10_congress 67 = .ok (.iload_n 1, 1) := by decide +kernel
theorem dX10_congress_68 : decode cX10_congress 68 = .ok (.isub, 1) := by decide +kernel
theorem dX10_congress_69 : decode cX10_congress 69 = .ok (.ireturn, 1) := by decide +kernel
theorem dX10_congress_70 : decode cX10_congress 70 = .ok (.aload_n 0, 1) := by decide +kernel
theorem dX10_congress_71 : decode cX10_congress 71 = .ok (.invokevirtual 166, 3) := by decide +kernel
theorem dX10_congress_74 : decode cX10_congress 74 = .ok (.aload_n 0, 1) := by decide +kernel
theorem dX10_congress_75 : decode cX10_congress 75 = .ok (.iconst 0, 1) := by decide +kernel
theorem dX10_congress_76 : decode cX10_congress 76 = .ok (.putfield 169, 3) := by decide +kernel
theorem dX10_congress_79 : decode cX10_congress 79 = .ok (.aload_n 0, 1) := by decide +kernel
theorem dX10_congress_80 : decode cX10_congress 80 = .ok (.iconst 0, 1) := by decide +kernel
theorem dX10_congress_81 : decode cX10_congress 81 = .ok (.putfield 172, 3) := by decide +kernel
theorem dX10_congress_84 : decode cX10_congress 84 = .ok (.aload_n 0, 1) := by decide +kernel
theorem dX10_congress_85 : decode cX10_congress 85 = .ok (.getfield 69, 3) := by decide +kernel
theorem dX10_congress_88 : decode cX10_congress 88 = .ok (.iconst 0, 1) := by decide +kernel
theorem dX10_congress_89 : decode cX10_congress 89 = .ok (.iconst 0, 1) := by decide +kernel
theorem dX10_congress_90 : decode cX10_congress 90 = .ok (.bastore, 1) := by decide +kernel
theorem dX10_congress_91 : decode cX10_congress 91 = .ok (.aload_n 0, 1) := by decide +kernel
theorem dX10_congress_92 : decode cX10_congress 92 = .ok (.getfield 69, 3) := by decide +kernel
theorem dX10_congress_95 : decode cX10_congress 95 = .ok (.iconst 1, 1) := by decide +kernel
theorem dX10_congress_96 : decode cX10_congress 96 = .ok (.iconst 0, 1) := by decide +kernel
theorem dX10_congress_97 : decode cX10_congress 97 = .ok (.bastore, 1) := by decide +kernel
theorem dX10_congress_98 : decode cX10_congress 98 = .ok (.aload_n 0, 1) := by decide +kernel
theorem dX10_congress_99 : decode cX10_congress 99 = .ok (.getfield 79, 3) := by decide +kernel
theorem dX10_congress_102 : decode cX10_congress 102 = .ok (.ireturn, 1) := by decide +kernel
theorem dX10_fault_0 : decode cX10_fault 0 = .ok (.aload_n 0, 1) := by decide +kernel
theorem dX10_fault_1 : decode cX10_fault 1 = .ok (.getfield 28, 3) := by decide +kernel
theorem dX10_fault_4 : decode cX10_fault 4 = .ok (.ireturn, 1) := by decide +kernel
theorem dX10_votesOf_0 : decode cX10_votesOf 0 = .ok (.iconst 0, 1) := by decide +kernel
theorem dX10_votesOf_1 : decode cX10_votesOf 1 = .ok (.istore_n 2, 1) := by decide +kernel
theorem dX10_votesOf_2 : decode cX10_votesOf 2 = .ok (.iconst 0, 1) := by decide +kernel
theorem dX10_votesOf_3 : decode cX10_votesOf 3 = .ok (.istore_n 3, 1) := by decide +kernel
theorem dX10_votesOf_4 : decode cX10_votesOf 4 = .ok (.iload_n 3, 1) := by decide +kernel
theorem dX10_votesOf_5 : decode cX10_votesOf 5 = .ok (.aload_n 0, 1) := by decide +kernel
theorem dX10_votesOf_6 : decode cX10_votesOf 6 = .ok (.getfield 72, 3) := by decide +kernel
theorem dX10_votesOf_9 : decode cX10_votesOf 9 = .ok (.if_icmp .ge 30, 3) := by decide +kernel
theorem dX10_votesOf_12 : decode cX10_votesOf 12 = .ok (.iload_n 2, 1) := by decide +kernel
theorem dX10_votesOf_13 : decode cX10_votesOf 13 = .ok (.iload_n 1, 1) := by decide +kernel
theorem dX10_votesOf_14 : decode cX10_votesOf 14 = .ok (.iload_n 3, 1) := by decide +kernel
theorem dX10_votesOf_15 : decode cX10_votesOf 15 = .ok (.invokestatic 175, 3) := by decide +kernel
theorem dX10_votesOf_18 : decode cX10_votesOf 18 = .ok (.ifCond .eq 12, 3) := by decide +kernel
theorem dX10_votesOf_21 : decode cX10_votesOf 21 = .ok (.aload_n 0, 1) := by decide +kernel
theorem dX10_votesOf_22 : decode cX10_votesOf 22 = .ok (.getfield 7, 3) := by decide +kernel
theorem dX10_votesOf_25 : decode cX10_votesOf 25 = .ok (.iload_n 3, 1) := by decide +kernel
theorem dX10_votesOf_26 : decode cX10_votesOf 26 = .ok (.iaload, 1) := by decide +kernel
theorem dX10_votesOf_27 : decode cX10_votesOf 27 = .ok (.goto 4, 3) := by decide +kernel
theorem dX10_votesOf_30 : decode cX10_votesOf 30 = .ok (.iconst 0, 1) := by decide +kernel
theorem dX10_votesOf_31 : decode cX10_votesOf 31 = .ok (.iadd, 1) := by decide +kernel
theorem dX10_votesOf_32 : decode cX10_votesOf 32 = .ok (.istore_n 2, 1) := by decide +kernel
theorem dX10_votesOf_33 : decode cX10_votesOf 33 = .ok (.iinc 3 1, 3) := by decide +kernel
theorem dX10_votesOf_36 : decode cX10_votesOf 36 = .ok (.goto (-32), 3) := by decide +kernel
theorem dX10_votesOf_39 : decode cX10_votesOf 39 = .ok (.iload_n 2, 1) := by decide +kernel
theorem dX10_votesOf_40 : decode cX10_votesOf 40 = .ok (.ireturn, 1) := by decide +kernel
theorem dX10_hasQuota_0 : decode cX10_hasQuota 0 = .ok (.aload_n 0, 1) := by decide +kernel
theorem dX10_hasQuota_1 : decode cX10_hasQuota 1 = .ok (.iload_n 1, 1) := by decide +kernel
theorem dX10_hasQuota_2 : decode cX10_hasQuota 2 = .ok (.invokevirtual 156, 3) := by decide +kernel
theorem dX10_hasQuota_5 : decode cX10_hasQuota 5 = .ok (.aload_n 0, 1) := by decide +kernel
theorem dX10_hasQuota_6 : decode cX10_hasQuota 6 = .ok (.getfield 160, 3) := by decide +kernel
theorem dX10_hasQuota_9 : decode cX10_hasQuota 9 = .ok (.if_icmp .lt 7, 3) := by decide +kernel
theorem dX10_hasQuota_12 : decode cX10_hasQuota 12 = .ok (.iconst 1, 1) := by decide +kernel
theorem dX10_hasQuota_13 : decode cX10_hasQuota 13 = .ok (.goto 4, 3) := by decide +kernel
theorem dX10_hasQuota_16 : decode cX10_hasQuota 16 = .ok (.iconst 0, 1) := by decide +kernel
theorem dX10_hasQuota_17 : decode cX10_hasQuota 17 = .ok (.ireturn, 1) := by decide +kernel
theorem dX10_whoIsAt_0 : decode cX10_whoIsAt 0 = .ok (.iconst 0, 1) := by decide +kernel
theorem dX10_whoIsAt_1 : decode cX10_whoIsAt 1 = .ok (.istore_n 2, 1) := by decide +kernel
theorem dX10_whoIsAt_2 : decode cX10_whoIsAt 2 = .ok (.iconst 0, 1) := by decide +kernel
theorem dX10_whoIsAt_3 : decode cX10_whoIsAt 3 = .ok (.istore_n 3, 1) := by decide +kernel
theorem dX10_whoIsAt_4 : decode cX10_whoIsAt 4 = .ok (.iload_n 3, 1) := by decide +kernel
theorem dX10_whoIsAt_5 : decode cX10_whoIsAt 5 = .ok (.aload_n 0, 1) := by decide +kernel
theorem dX10_whoIsAt_6 : decode cX10_whoIsAt 6 = .ok (.getfield 79, 3) := by decide +kernel
theorem dX10_whoIsAt_9 : decode cX10_whoIsAt 9 = .ok (.if_icmp .ge 29, 3) := by decide +kernel
theorem dX10_whoIsAt_12 : decode cX10_whoIsAt 12 = .ok (.iload_n 2, 1) := by decide +kernel
theorem dX10_whoIsAt_13 : decode cX10_whoIsAt 13 = .ok (.aload_n 0, 1) := by decide +kernel
theorem dX10_whoIsAt_14 : decode cX10_whoIsAt 14 = .ok (.getfield 22, 3) := by decide +kernel
theorem dX10_whoIsAt_17 : decode cX10_whoIsAt 17 = .ok (.iload_n 3, 1) := by decide +kernel
theorem dX10_whoIsAt_18 : decode cX10_whoIsAt 18 = .ok (.iaload, 1) := by decide +kernel
theorem dX10_whoIsAt_19 : decode cX10_whoIsAt 19 = .ok (.iload_n 1, 1) := by decide +kernel
theorem dX10_whoIsAt_20 : decode cX10_whoIsAt 20 = .ok (.if_icmp .ne 9, 3) := by decide +kernel
theorem dX10_whoIsAt_23 : decode cX10_whoIsAt 23 = .ok (.iconst 1, 1) := by decide +kernel
theorem dX10_whoIsAt_24 : decode cX10_whoIsAt 24 = .ok (.iload_n 3, 1) := by decide +kernel
theorem dX10_whoIsAt_25 : decode cX10_whoIsAt 25 = .ok (.ishl, 1) := by decide +kernel
theorem dX10_whoIsAt_26 : decode cX10_whoIsAt 26 = .ok (.goto 4, 3) := by decide +kernel
theorem dX10_whoIsAt_29 : decode cX10_whoIsAt 29 = .ok (.iconst 0, 1) := by decide +kernel
theorem dX10_whoIsAt_30 : decode cX10_whoIsAt 30 = .ok (.ior, 1) := by decide +kernel
theorem dX10_whoIsAt_31 : decode cX10_whoIsAt 31 = .ok (.istore_n 2, 1) := by decide +kernel
theorem dX10_whoIsAt_32 : decode cX10_whoIsAt 32 = .ok (.iinc 3 1, 3) := by decide +kernel
theorem dX10_whoIsAt_35 : decode cX10_whoIsAt 35 = .ok (.goto (-31), 3) := by decide +kernel
theorem dX10_whoIsAt_38 : decode cX10_whoIsAt 38 = .ok (.iload_n 2, 1) := by decide +kernel
theorem dX10_whoIsAt_39 : decode cX10_whoIsAt 39 = .ok (.ireturn, 1) := by decide +kernel
theorem dX10_whoBelongsTo_0 : decode cX10_whoBelongsTo 0 = .ok (.iconst 0, 1) := by decide +kernel
theorem dX10_whoBelongsTo_1 : decode cX10_whoBelongsTo 1 = .ok (.istore_n 2, 1) := by decide +kernel
theorem dX10_whoBelongsTo_2 : decode cX10_whoBelongsTo 2 = .ok (.iconst 0, 1) := by decide +kernel
theorem dX10_whoBelongsTo_3 : decode cX10_whoBelongsTo 3 = .ok (.istore_n 3, 1) := by decide +kernel
theorem dX10_whoBelongsTo_4 : decode cX10_whoBelongsTo 4 = .ok (.iload_n 3, 1) := by decide +kernel
theorem dX10_whoBelongsTo_5 : decode cX10_whoBelongsTo 5 = .ok (.aload_n 0, 1) := by decide +kernel
theorem dX10_whoBelongsTo_6 : decode cX10_whoBelongsTo 6 = .ok (.getfield 79, 3) := by decide +kernel
theorem dX10_whoBelongsTo_9 : decode cX10_whoBelongsTo 9 = .ok (.if_icmp .ge 29, 3) := by decide +kernel
theorem dX10_whoBelongsTo_12 : decode cX10_whoBelongsTo 12 = .ok (.iload_n 2, 1) := by decide +kernel
theorem dX10_whoBelongsTo_13 : decode cX10_whoBelongsTo 13 = .ok (.aload_n 0, 1) := by decide +kernel
theorem dX10_whoBelongsTo_14 : decode cX10_whoBelongsTo 14 = .ok (.getfield 16, 3) := by decide +kernel
theorem dX10_whoBelongsTo_17 : decode cX10_whoBelongsTo 17 = .ok (.iload_n 3, 1) := by decide +kernel
theorem dX10_whoBelongsTo_18 : decode cX10_whoBelongsTo 18 = .ok (.iaload, 1) := by decide +kernel
theorem dX10_whoBelongsTo_19 : decode cX10_whoBelongsTo 19 = .ok (.iload_n 1, 1) := by decide +kernel
theorem dX10_whoBelongsTo_20 : decode cX10_whoBelongsTo 20 = .ok (.if_icmp .ne 9, 3) := by decide +kernel
theorem dX10_whoBelongsTo_23 : decode cX10_whoBelongsTo 23 = .ok (.iconst 1, 1) := by decide +kernel
theorem dX10_whoBelongsTo_24 : decode cX10_whoBelongsTo 24 = .ok (.iload_n 3, 1) := by decide +kernel
theorem dX10_whoBelongsTo_25 : decode cX10_whoBelongsTo 25 = .ok (.ishl, 1) := by decide +kernel
theorem dX10_whoBelongsTo_26 : decode cX10_whoBelongsTo 26 = .ok (.goto 4, 3) := by decide +kernel
theorem dX10_whoBelongsTo_29 : decode cX10_whoBelongsTo 29 = .ok (.iconst 0, 1) := by decide +kernel
theorem dX10_whoBelongsTo_30 : decode cX10_whoBelongsTo 30 = .ok (.ior, 1) := by decide +kernel
theorem dX10_whoBelongsTo_31 : decode cX10_whoBelongsTo 31 = .ok (.istore_n 2, 1) := by decide +kernel
theorem dX10_whoBelongsTo_32 : decode cX10_whoBelongsTo 32 = .ok (.iinc 3 1, 3) := by decide +kernel
theorem dX10_whoBelongsTo_35 : decode cX10_whoBelongsTo 35 = .ok (.goto (-31), 3) := by decide +kernel
theorem dX10_whoBelongsTo_38 : decode cX10_whoBelongsTo 38 = .ok (.iload_n 2, 1) := by decide +kernel
theorem dX10_whoBelongsTo_39 : decode cX10_whoBelongsTo 39 = .ok (.ireturn, 1) := by decide +kernel
theorem dX10_nods_0 : decode cX10_nods 0 = .ok (.aload_n 0, 1) := by decide +kernel
theorem dX10_nods_1 : decode cX10_nods 1 = .ok (.iload_n 1, 1) := by decide +kernel
theorem dX10_nods_2 : decode cX10_nods 2 = .ok (.invokevirtual 179, 3) := by decide +kernel
theorem dX10_nods_5 : decode cX10_nods 5 = .ok (.aload_n 0, 1) := by decide +kernel
theorem dX10_nods_6 : decode cX10_nods 6 = .ok (.getfield 22, 3) := by decide +kernel
theorem dX10_nods_9 : decode cX10_nods 9 = .ok (.bipush 8, 2) := by decide +kernel
theorem dX10_nods_11 : decode cX10_nods 11 = .ok (.iaload, 1) := by decide +kernel
theorem dX10_nods_12 : decode cX10_nods 12 = .ok (.iand, 1) := by decide +kernel
theorem dX10_nods_13 : decode cX10_nods 13 = .ok (.istore_n 2, 1) := by decide +kernel
theorem dX10_nods_14 : decode cX10_nods 14 = .ok (.iload_n 2, 1) := by decide +kernel
theorem dX10_nods_15 : decode cX10_nods 15 = .ok (.ifCond .eq 7, 3) := by decide +kernel
theorem dX10_nods_18 : decode cX10_nods 18 = .ok (.iconst 1, 1) := by decide +kernel
theorem dX10_nods_19 : decode cX10_nods 19 = .ok (.goto 4, 3) := by decide +kernel
theorem dX10_nods_22 : decode cX10_nods 22 = .ok (.iconst 0, 1) := by decide +kernel
theorem dX10_nods_23 : decode cX10_nods 23 = .ok (.istore_n 3, 1) := by decide +kernel
theorem dX10_nods_24 : decode cX10_nods 24 = .ok (.iconst 0, 1) := by decide +kernel
theorem dX10_nods_25 : decode cX10_nods 25 = .ok (.istore 4, 2) := by decide +kernel
theorem dX10_nods_27 : decode cX10_nods 27 = .ok (.iload 4, 2) := by decide +kernel
theorem dX10_nods_29 : decode cX10_nods 29 = .ok (.aload_n 0, 1) := by decide +kernel
theorem dX10_nods_30 : decode cX10_nods 30 = .ok (.getfield 79, 3) := by decide +kernel
theorem dX10_nods_33 : decode cX10_nods 33 = .ok (.if_icmp .ge 39, 3) := by decide +kernel
theorem dX10_nods_36 : decode cX10_nods 36 = .ok (.iload_n 3, 1) := by decide +kernel
theorem dX10_nods_37 : decode cX10_nods 37 = .ok (.ifCond .eq 27, 3) := by decide +kernel
theorem dX10_nods_40 : decode cX10_nods 40 = .ok (.iload_n 2, 1) := by decide +kernel
theorem dX10_nods_41 : decode cX10_nods 41 = .ok (.iload 4, 2) := by decide +kernel
theorem dX10_nods_43 : decode cX10_nods 43 = .ok (.invokestatic 175, 3) := by decide +kernel
theorem dX10_nods_46 : decode cX10_nods 46 = .ok (.ifCond .eq 14, 3) := by decide +kernel
theorem dX10_nods_49 : decode cX10_nods 49 = .ok (.aload_n 0, 1) := by decide +kernel
theorem dX10_nods_50 : decode cX10_nods 50 = .ok (.getfield 13, 3) := by decide +kernel
theorem dX10_nods_53 : decode cX10_nods 53 = .ok (.iload 4, 2) := by decide +kernel
theorem dX10_nods_55 : decode cX10_nods 55 = .ok (.iaload, 1) := by decide +kernel
theorem dX10_nods_56 : decode cX10_nods 56 = .ok (.iconst 1, 1) := by decide +kernel
theorem dX10_nods_57 : decode cX10_nods 57 = .ok (.if_icmp .eq 7, 3) := by decide +kernel
theorem dX10_nods_60 : decode cX10_nods 60 = .ok (.iconst 1, 1) := by decide +kernel
theorem dX10_nods_61 : decode cX10_nods 61 = .ok (.goto 4, 3) := by decide +kernel
theorem dX10_nods_64 : decode cX10_nods 64 = .ok (.iconst 0, 1) := by decide +kernel
theorem dX10_nods_65 : decode cX10_nods 65 = .ok (.istore_n 3, 1) := by decide +kernel
theorem dX10_nods_66 : decode cX10_nods 66 = .ok (.iinc 4 1, 3) := by decide +kernel
theorem dX10_nods_69 : decode cX10_nods 69 = .ok (.goto (-42), 3) := by decide +kernel
theorem dX10_nods_72 : decode cX10_nods 72 = .ok (.iload_n 3, 1) := by decide +kernel
theorem dX10_nods_73 : decode cX10_nods 73 = .ok (.ireturn, 1) := by decide +kernel
theorem dX10_noddingOnes_0 : decode cX10_noddingOnes 0 = .ok (.iconst 0, 1) := by decide +kernel
theorem dX10_noddingOnes_1 : decode cX10_noddingOnes 1 = .ok (.istore_n 1, 1) := by decide +kernel
theorem dX10_noddingOnes_2 : decode cX10_noddingOnes 2 = .ok (.iconst 0, 1) := by decide +kernel
theorem dX10_noddingOnes_3 : decode cX10_noddingOnes 3 = .ok (.istore_n 2, 1) := by decide +kernel
theorem dX10_noddingOnes_4 : decode cX10_noddingOnes 4 = .ok (.iload_n 2, 1) := by decide +kernel
theorem dX10_noddingOnes_5 : decode cX10_noddingOnes 5 = .ok (.aload_n 0, 1) := by decide +kernel
theorem dX10_noddingOnes_6 : decode cX10_noddingOnes 6 = .ok (.getfield 72, 3) := by decide +kernel
theorem dX10_noddingOnes_9 : decode cX10_noddingOnes 9 = .ok (.if_icmp .ge 27, 3) := by decide +kernel
theorem dX10_noddingOnes_12 : decode cX10_noddingOnes 12 = .ok (.iload_n 1, 1) := by decide +kernel
theorem dX10_noddingOnes_13 : decode cX10_noddingOnes 13 = .ok (.aload_n 0, 1) := by decide +kernel
theorem dX10_noddingOnes_14 : decode cX10_noddingOnes 14 = .ok (.iload_n 2, 1) := by decide +kernel
theorem dX10_noddingOnes_15 : decode cX10_noddingOnes 15 = .ok (.invokevirtual 182, 3) := by decide +kernel
theorem dX10_noddingOnes_18 : decode cX10_noddingOnes 18 = .ok (.ifCond .eq 9, 3) := by decide +kernel
theorem dX10_noddingOnes_21 : decode cX10_noddingOnes 21 = .ok (.iconst 1, 1) := by decide +kernel
theorem dX10_noddingOnes_22 : decode cX10_noddingOnes 22 = .ok (.iload_n 2, 1) := by decide +kernel
theorem dX10_noddingOnes_23 : decode cX10_noddingOnes 23 = .ok (.ishl, 1) := by decide +kernel
theorem dX10_noddingOnes_24 : decode cX10_noddingOnes 24 = .ok (.goto 4, 3) := by decide +kernel
theorem dX10_noddingOnes_27 : decode cX10_noddingOnes 27 = .ok (.iconst 0, 1) := by decide +kernel
theorem dX10_noddingOnes_28 : decode cX10_noddingOnes 28 = .ok (.ior, 1) := by decide +kernel
theorem dX10_noddingOnes_29 : decode cX10_noddingOnes 29 = .ok (.istore_n 1, 1) := by decide +kernel
theorem dX10_noddingOnes_30 : decode cX10_noddingOnes 30 = .ok (.iinc 2 1, 3) := by decide +kernel
theorem dX10_noddingOnes_33 : decode cX10_noddingOnes 33 = .ok (.goto (-29), 3) := by decide +kernel
theorem dX10_noddingOnes_36 : decode cX10_noddingOnes 36 = .ok (.iload_n 1, 1) := by decide +kernel
theorem dX10_noddingOnes_37 : decode cX10_noddingOnes 37 = .ok (.ireturn, 1) := by decide +kernel
theorem dX10_factorial_0 : decode cX10_factorial 0 = .ok (.iconst 1, 1) := by decide +kernel
theorem dX10_factorial_1 : decode cX10_factorial 1 = .ok (.istore_n 1, 1) := by decide +kernel
theorem dX10_factorial_2 : decode cX10_factorial 2 = .ok (.iconst 2, 1) := by decide +kernel
theorem dX10_factorial_3 : decode cX10_factorial 3 = .ok (.istore_n 2, 1) := by decide +kernel
theorem dX10_factorial_4 : decode cX10_factorial 4 = .ok (.iload_n 2, 1) := by decide +kernel
theorem dX10_factorial_5 : decode cX10_factorial 5 = .ok (.iload_n 0, 1) := by decide +kernel
theorem dX10_factorial_6 : decode cX10_factorial 6 = .ok (.if_icmp .gt 13, 3) := by decide +kernel
theorem dX10_factorial_9 : decode cX10_factorial 9 = .ok (.iload_n 1, 1) := by decide +kernel
theorem dX10_factorial_10 : decode cX10_factorial 10 = .ok (.iload_n 2, 1) := by decide +kernel
theorem dX10_factorial_11 : decode cX10_factorial 11 = .ok (.imul, 1) := by decide +kernel
theorem dX10_factorial_12 : decode cX10_factorial 12 = .ok (.istore_n 1, 1) := by decide +kernel
theorem dX10_factorial_13 : decode cX10_factorial 13 = .ok (.iinc 2 1, 3) := by decide +kernel
theorem dX10_factorial_16 : decode cX10_factorial 16 = .ok (.goto (-12), 3) := by decide +kernel
theorem dX10_factorial_19 : decode cX10_factorial 19 = .ok (.iload_n 1, 1) := by decide +kernel
theorem dX10_factorial_20 : decode cX10_factorial 20 = .ok (.ireturn, 1) := by decide +kernel
theorem dX10_power_0 : decode cX10_power 0 = .ok (.iconst 0, 1) := by decide +kernel
theorem dX10_power_1 : decode cX10_power 1 = .ok (.istore_n 2, 1) := by decide +kernel
theorem dX10_power_2 : decode cX10_power 2 = .ok (.iconst 0, 1) := by decide +kernel
theorem dX10_power_3 : decode cX10_power 3 = .ok (.istore_n 3, 1) := by decide +kernel
theorem dX10_power_4 : decode cX10_power 4 = .ok (.iload_n 3, 1) := by decide +kernel
theorem dX10_power_5 : decode cX10_power 5 = .ok (.iconst 1, 1) := by decide +kernel
theorem dX10_power_6 : decode cX10_power 6 = .ok (.aload_n 0, 1) := by decide +kernel
theorem dX10_power_7 : decode cX10_power 7 = .ok (.getfield 72, 3) := by decide +kernel
theorem dX10_power_10 : decode cX10_power 10 = .ok (.ishl, 1) := by decide +kernel
theorem dX10_power_11 : decode cX10_power 11 = .ok (.if_icmp .ge 78, 3) := by decide +kernel
theorem dX10_power_14 : decode cX10_power 14 = .ok (.iload_n 3, 1) := by decide +kernel
theorem dX10_power_15 : decode cX10_power 15 = .ok (.iload_n 1, 1) := by decide +kernel
theorem dX10_power_16 : decode cX10_power 16 = .ok (.invokestatic 175, 3) := by decide +kernel
theorem dX10_power_19 : decode cX10_power 19 = .ok (.ifCond .ne 27, 3) := by decide +kernel
theorem dX10_power_22 : decode cX10_power 22 = .ok (.aload_n 0, 1) := by decide +kernel
theorem dX10_power_23 : decode cX10_power 23 = .ok (.iload_n 3, 1) := by decide +kernel
theorem dX10_power_24 : decode cX10_power 24 = .ok (.invokevirtual 185, 3) := by decide +kernel
theorem dX10_power_27 : decode cX10_power 27 = .ok (.ifCond .ne 19, 3) := by decide +kernel
theorem dX10_power_30 : decode cX10_power 30 = .ok (.aload_n 0, 1) := by decide +kernel
theorem dX10_power_31 : decode cX10_power 31 = .ok (.iload_n 3, 1) := by decide +kernel
theorem dX10_power_32 : decode cX10_power 32 = .ok (.iconst 1, 1) := by decide +kernel
theorem dX10_power_33 : decode cX10_power 33 = .ok (.iload_n 1, 1) := by decide +kernel
theorem dX10_power_34 : decode cX10_power 34 = .ok (.ishl, 1) := by decide +kernel
theorem dX10_power_35 : decode cX10_power 35 = .ok (.ior, 1) := by decide +kernel
theorem dX10_power_36 : decode cX10_power 36 = .ok (.invokevirtual 185, 3) := by decide +kernel
theorem dX10_power_39 : decode cX10_power 39 = .ok (.ifCond .eq 7, 3) := by decide +kernel
theorem dX10_power_42 : decode cX10_power 42 = .ok (.iconst 1, 1) := by decide +kernel
theorem dX10_power_43 : decode cX10_power 43 = .ok (.goto 4, 3) := by decide +kernel
theorem dX10_power_46 : decode cX10_power 46 = .ok (.iconst 0, 1) := by decide +kernel
theorem dX10_power_47 : decode cX10_power 47 = .ok (.istore 4, 2) := by decide +kernel
theorem dX10_power_49 : decode cX10_power 49 = .ok (.iload_n 2, 1) := by decide +kernel
theorem dX10_power_50 : decode cX10_power 50 = .ok (.iload 4, 2) := by decide +kernel
theorem dX10_power_52 : decode cX10_power 52 = .ok (.ifCond .eq 28, 3) := by decide +kernel
theorem dX10_power_55 : decode cX10_power 55 = .ok (.iload_n 3, 1) := by decide +kernel
theorem dX10_power_56 : decode cX10_power 56 = .ok (.invokestatic 188, 3) := by decide +kernel
theorem dX10_power_59 : decode cX10_power 59 = .ok (.invokestatic 191, 3) := by decide +kernel
theorem dX10_power_62 : decode cX10_power 62 = .ok (.aload_n 0, 1) := by decide +kernel
theorem dX10_power_63 : decode cX10_power 63 = .ok (.getfield 72, 3) := by decide +kernel
theorem dX10_power_66 : decode cX10_power 66 = .ok (.iload_n 3, 1) := by decide +kernel
theorem dX10_power_67 : decode cX10_power 67 = .ok (.invokestatic 188, 3) := by decide +kernel
theorem dX10_power_70 : decode cX10_power 70 = .ok (.isub, 1) := by decide +kernel
theorem dX10_power_71 : decode cX10_power 71 = .ok (.iconst 1, 1) := by decide +kernel
theorem dX10_power_72 : decode cX10_power 72 = .ok (.isub, 1) := by decide +kernel
theorem dX10_power_73 : decode cX10_power 73 = .ok (.invokestatic 191, 3) := by decide +kernel
theorem dX10_power_76 : decode cX10_power 76 = .ok (.imul, 1) := by decide +kernel
theorem dX10_power_77 : decode cX10_power 77 = .ok (.goto 4, 3) := by decide +kernel
theorem dX10_power_80 : decode cX10_power 80 = .ok (.iconst 0, 1) := by decide +kernel
theorem dX10_power_81 : decode cX10_power 81 = .ok (.iadd, 1) := by decide +kernel
theorem dX10_power_82 : decode cX10_power 82 = .ok (.istore_n 2, 1) := by decide +kernel
theorem dX10_power_83 : decode cX10_power 83 = .ok (.iinc 3 1, 3) := by decide +kernel
theorem dX10_power_86 : decode cX10_power 86 = .ok (.goto (-82), 3) := by decide +kernel
theorem dX10_power_89 : decode cX10_power 89 = .ok (.iload_n 2, 1) := by decide +kernel
theorem dX10_power_90 : decode cX10_power 90 = .ok (.ireturn, 1) := by decide +kernel
theorem dX10_blocks_0 : decode cX10_blocks 0 = .ok (.iconst (-1), 1) := by decide +kernel
theorem dX10_blocks_1 : decode cX10_blocks 1 = .ok (.istore_n 1, 1) := by decide +kernel
theorem dX10_blocks_2 : decode cX10_blocks 2 = .ok (.iconst 1, 1) := by decide +kernel
theorem dX10_blocks_3 : decode cX10_blocks 3 = .ok (.aload_n 0, 1) := by decide +kernel
theorem dX10_blocks_4 : decode cX10_blocks 4 = .ok (.getfield 72, 3) := by decide +kernel
theorem dX10_blocks_7 : decode cX10_blocks 7 = .ok (.ishl, 1) := by decide +kernel
theorem dX10_blocks_8 : decode cX10_blocks 8 = .ok (.iconst 1, 1) := by decide +kernel
theorem dX10_blocks_9 : decode cX10_blocks 9 = .ok (.isub, 1) := by decide +kernel
theorem dX10_blocks_10 : decode cX10_blocks 10 = .ok (.istore_n 2, 1) := by decide +kernel
theorem dX10_blocks_11 : decode cX10_blocks 11 = .ok (.iconst 0, 1) := by decide +kernel
theorem dX10_blocks_12 : decode cX10_blocks 12 = .ok (.istore_n 3, 1) := by decide +kernel
theorem dX10_blocks_13 : decode cX10_blocks 13 = .ok (.iload_n 3, 1) := by decide +kernel
theorem dX10_blocks_14 : decode cX10_blocks 14 = .ok (.iload_n 2, 1) := by decide +kernel
theorem dX10_blocks_15 : decode cX10_blocks 15 = .ok (.if_icmp .gt 54, 3) := by decide +kernel
theorem dX10_blocks_18 : decode cX10_blocks 18 = .ok (.iload_n 1, 1) := by decide +kernel
theorem dX10_blocks_19 : decode cX10_blocks 19 = .ok (.ifCond .lt 14, 3) := by decide +kernel
theorem dX10_blocks_22 : decode cX10_blocks 22 = .ok (.iload_n 3, 1) := by decide +kernel
theorem dX10_blocks_23 : decode cX10_blocks 23 = .ok (.invokestatic 188, 3) := by decide +kernel
theorem dX10_blocks_26 : decode cX10_blocks 26 = .ok (.iload_n 1, 1) := by decide +kernel
theorem dX10_blocks_27 : decode cX10_blocks 27 = .ok (.invokestatic 188, 3) := by decide +kernel
theorem dX10_blocks_30 : decode cX10_blocks 30 = .ok (.if_icmp .ge 7, 3) := by decide +kernel
theorem dX10_blocks_33 : decode cX10_blocks 33 = .ok (.iconst 1, 1) := by decide +kernel
theorem dX10_blocks_34 : decode cX10_blocks 34 = .ok (.goto 4, 3) := by decide +kernel
theorem dX10_blocks_37 : decode cX10_blocks 37 = .ok (.iconst 0, 1) := by decide +kernel
theorem dX10_blocks_38 : decode cX10_blocks 38 = .ok (.istore 4, 2) := by decide +kernel
theorem dX10_blocks_40 : decode cX10_blocks 40 = .ok (.iload 4, 2) := by decide +kernel
theorem dX10_blocks_42 : decode cX10_blocks 42 = .ok (.ifCond .eq 19, 3) := by decide +kernel
theorem dX10_blocks_45 : decode cX10_blocks 45 = .ok (.aload_n 0, 1) := by decide +kernel
theorem dX10_blocks_46 : decode cX10_blocks 46 = .ok (.iload_n 2, 1) := by decide +kernel
theorem dX10_blocks_47 : decode cX10_blocks 47 = .ok (.iload_n 3, 1) := by decide +kernel
theorem dX10_blocks_48 : decode cX10_blocks 48 = .ok (.iconst (-1), 1) := by decide +kernel
theorem dX10_blocks_49 : decode cX10_blocks 49 = .ok (.ixor, 1) := by decide +kernel
theorem dX10_blocks_50 : decode cX10_blocks 50 = .ok (.iand, 1) := by decide +kernel
theorem dX10_blocks_51 : decode cX10_blocks 51 = .ok (.invokevirtual 185, 3) := by decide +kernel
theorem dX10_blocks_54 : decode cX10_blocks 54 = .ok (.ifCond .ne 7, 3) := by decide +kernel
theorem dX10_blocks_57 : decode cX10_blocks 57 = .ok (.iload_n 3, 1) := by decide +kernel
theorem dX10_blocks_58 : decode cX10_blocks 58 = .ok (.goto 4, 3) := by decide +kernel
theorem dX10_blocks_61 : decode cX10_blocks 61 = .ok (.iload_n 1, 1) := by decide +kernel
theorem dX10_blocks_62 : decode cX10_blocks 62 = .ok (.istore_n 1, 1) := by decide +kernel
theorem dX10_blocks_63 : decode cX10_blocks 63 = .ok (.iinc 3 1, 3) := by decide +kernel
theorem dX10_blocks_66 : decode cX10_blocks 66 = .ok (.goto (-53), 3) := by decide +kernel
theorem dX10_blocks_69 : decode cX10_blocks 69 = .ok (.iload_n 1, 1) := by decide +kernel
theorem dX10_blocks_70 : decode cX10_blocks 70 = .ok (.ireturn, 1) := by decide +kernel
theorem dX10_fewest_0 : decode cX10_fewest 0 = .ok (.iconst (-1), 1) := by decide +kernel
theorem dX10_fewest_1 : decode cX10_fewest 1 = .ok (.istore_n 1, 1) := by decide +kernel
theorem dX10_fewest_2 : decode cX10_fewest 2 = .ok (.iconst 0, 1) := by decide +kernel
theorem dX10_fewest_3 : decode cX10_fewest 3 = .ok (.istore_n 2, 1) := by decide +kernel
theorem dX10_fewest_4 : decode cX10_fewest 4 = .ok (.iload_n 2, 1) := by decide +kernel
theorem dX10_fewest_5 : decode cX10_fewest 5 = .ok (.iconst 1, 1) := by decide +kernel
theorem dX10_fewest_6 : decode cX10_fewest 6 = .ok (.aload_n 0, 1) := by decide +kernel
theorem dX10_fewest_7 : decode cX10_fewest 7 = .ok (.getfield 72, 3) := by decide +kernel
theorem dX10_fewest_10 : decode cX10_fewest 10 = .ok (.ishl, 1) := by decide +kernel
theorem dX10_fewest_11 : decode cX10_fewest 11 = .ok (.if_icmp .ge 55, 3) := by decide +kernel
theorem dX10_fewest_14 : decode cX10_fewest 14 = .ok (.aload_n 0, 1) := by decide +kernel
theorem dX10_fewest_15 : decode cX10_fewest 15 = .ok (.getfield 72, 3) := by decide +kernel
theorem dX10_fewest_18 : decode cX10_fewest 18 = .ok (.ifCond .le 48, 3) := by decide +kernel
theorem dX10_fewest_21 : decode cX10_fewest 21 = .ok (.iload_n 1, 1) := by decide +kernel
theorem dX10_fewest_22 : decode cX10_fewest 22 = .ok (.ifCond .lt 14, 3) := by decide +kernel
theorem dX10_fewest_25 : decode cX10_fewest 25 = .ok (.iload_n 2, 1) := by decide +kernel
theorem dX10_fewest_26 : decode cX10_fewest 26 = .ok (.invokestatic 188, 3) := by decide +kernel
theorem dX10_fewest_29 : decode cX10_fewest 29 = .ok (.iload_n 1, 1) := by decide +kernel
theorem dX10_fewest_30 : decode cX10_fewest 30 = .ok (.invokestatic 188, 3) := by decide +kernel
theorem dX10_fewest_33 : decode cX10_fewest 33 = .ok (.if_icmp .ge 7, 3) := by decide +kernel
theorem dX10_fewest_36 : decode cX10_fewest 36 = .ok (.iconst 1, 1) := by decide +kernel
theorem dX10_fewest_37 : decode cX10_fewest 37 = .ok (.goto 4, 3) := by decide +kernel
theorem dX10_fewest_40 : decode cX10_fewest 40 = .ok (.iconst 0, 1) := by decide +kernel
theorem dX10_fewest_41 : decode cX10_fewest 41 = .ok (.istore_n 3, 1) := by decide +kernel
theorem dX10_fewest_42 : decode cX10_fewest 42 = .ok (.iload_n 3, 1) := by decide +kernel
theorem dX10_fewest_43 : decode cX10_fewest 43 = .ok (.ifCond .eq 15, 3) := by decide +kernel
theorem dX10_fewest_46 : decode cX10_fewest 46 = .ok (.aload_n 0, 1) := by decide +kernel
theorem dX10_fewest_47 : decode cX10_fewest 47 = .ok (.iload_n 2, 1) := by decide +kernel
theorem dX10_fewest_48 : decode cX10_fewest 48 = .ok (.invokevirtual 185, 3) := by decide +kernel
theorem dX10_fewest_51 : decode cX10_fewest 51 = .ok (.ifCond .eq 7, 3) := by decide +kernel
theorem dX10_fewest_54 : decode cX10_fewest 54 = .ok (.iload_n 2, 1) := by decide +kernel
theorem dX10_fewest_55 : decode cX10_fewest 55 = .ok (.goto 4, 3) := by decide +kernel
theorem dX10_fewest_58 : decode cX10_fewest 58 = .ok (.iload_n 1, 1) := by decide +kernel
theorem dX10_fewest_59 : decode cX10_fewest 59 = .ok (.istore_n 1, 1) := by decide +kernel
theorem dX10_fewest_60 : decode cX10_fewest 60 = .ok (.iinc 2 1, 3) := by decide +kernel
theorem dX10_fewest_63 : decode cX10_fewest 63 = .ok (.goto (-59), 3) := by decide +kernel
theorem dX10_fewest_66 : decode cX10_fewest 66 = .ok (.iload_n 1, 1) := by decide +kernel
theorem dX10_fewest_67 : decode cX10_fewest 67 = .ok (.ireturn, 1) := by decide +kernel
theorem dX10_wrongOnes_0 : decode cX10_wrongOnes 0 = .ok (.iconst 0, 1) := by decide +kernel
theorem dX10_wrongOnes_1 : decode cX10_wrongOnes 1 = .ok (.istore_n 1, 1) := by decide +kernel
theorem dX10_wrongOnes_2 : decode cX10_wrongOnes 2 = .ok (.iconst 0, 1) := by decide +kernel
theorem dX10_wrongOnes_3 : decode cX10_wrongOnes 3 = .ok (.istore_n 2, 1) := by decide +kernel
theorem dX10_wrongOnes_4 : decode cX10_wrongOnes 4 = .ok (.iload_n 2, 1) := by decide +kernel
theorem dX10_wrongOnes_5 : decode cX10_wrongOnes 5 = .ok (.aload_n 0, 1) := by decide +kernel
theorem dX10_wrongOnes_6 : decode cX10_wrongOnes 6 = .ok (.getfield 79, 3) := by decide +kernel
theorem dX10_wrongOnes_9 : decode cX10_wrongOnes 9 = .ok (.if_icmp .ge 34, 3) := by decide +kernel
theorem dX10_wrongOnes_12 : decode cX10_wrongOnes 12 = .ok (.iload_n 1, 1) := by decide +kernel
theorem dX10_wrongOnes_13 : decode cX10_wrongOnes 13 = .ok (.aload_n 0, 1) := by decide +kernel
theorem dX10_wrongOnes_14 : decode cX10_wrongOnes 14 = .ok (.getfield 22, 3) := by decide +kernel
theorem dX10_wrongOnes_17 : decode cX10_wrongOnes 17 = .ok (.iload_n 2, 1) := by decide +kernel
theorem dX10_wrongOnes_18 : decode cX10_wrongOnes 18 = .ok (.iaload, 1) := by decide +kernel
theorem dX10_wrongOnes_19 : decode cX10_wrongOnes 19 = .ok (.aload_n 0, 1) := by decide +kernel
theorem dX10_wrongOnes_20 : decode cX10_wrongOnes 20 = .ok (.getfield 16, 3) := by decide +kernel
theorem dX10_wrongOnes_23 : decode cX10_wrongOnes 23 = .ok (.iload_n 2, 1) := by decide +kernel
theorem dX10_wrongOnes_24 : decode cX10_wrongOnes 24 = .ok (.iaload, 1) := by decide +kernel
theorem dX10_wrongOnes_25 : decode cX10_wrongOnes 25 = .ok (.if_icmp .eq 9, 3) := by decide +kernel
theorem dX10_wrongOnes_28 : decode cX10_wrongOnes 28 = .ok (.iconst 1, 1) := by decide +kernel
theorem dX10_wrongOnes_29 : decode cX10_wrongOnes 29 = .ok (.iload_n 2, 1) := by decide +kernel
theorem dX10_wrongOnes_30 : decode cX10_wrongOnes 30 = .ok (.ishl, 1) := by decide +kernel
theorem dX10_wrongOnes_31 : decode cX10_wrongOnes 31 = .ok (.goto 4, 3) := by decide +kernel
theorem dX10_wrongOnes_34 : decode cX10_wrongOnes 34 = .ok (.iconst 0, 1) := by decide +kernel
theorem dX10_wrongOnes_35 : decode cX10_wrongOnes 35 = .ok (.ior, 1) := by decide +kernel
theorem dX10_wrongOnes_36 : decode cX10_wrongOnes 36 = .ok (.istore_n 1, 1) := by decide +kernel
theorem dX10_wrongOnes_37 : decode cX10_wrongOnes 37 = .ok (.iinc 2 1, 3) := by decide +kernel
theorem dX10_wrongOnes_40 : decode cX10_wrongOnes 40 = .ok (.goto (-36), 3) := by decide +kernel
theorem dX10_wrongOnes_43 : decode cX10_wrongOnes 43 = .ok (.iload_n 1, 1) := by decide +kernel
theorem dX10_wrongOnes_44 : decode cX10_wrongOnes 44 = .ok (.ireturn, 1) := by decide +kernel
theorem dX10_closeOnes_0 : decode cX10_closeOnes 0 = .ok (.iconst 0, 1) := by decide +kernel
theorem dX10_closeOnes_1 : decode cX10_closeOnes 1 = .ok (.istore_n 2, 1) := by decide +kernel
theorem dX10_closeOnes_2 : decode cX10_closeOnes 2 = .ok (.iconst 0, 1) := by decide +kernel
theorem dX10_closeOnes_3 : decode cX10_closeOnes 3 = .ok (.istore_n 3, 1) := by decide +kernel
theorem dX10_closeOnes_4 : decode cX10_closeOnes 4 = .ok (.iload_n 3, 1) := by decide +kernel
theorem dX10_closeOnes_5 : decode cX10_closeOnes 5 = .ok (.aload_n 0, 1) := by decide +kernel
theorem dX10_closeOnes_6 : decode cX10_closeOnes 6 = .ok (.getfield 79, 3) := by decide +kernel
theorem dX10_closeOnes_9 : decode cX10_closeOnes 9 = .ok (.if_icmp .ge 40, 3) := by decide +kernel
theorem dX10_closeOnes_12 : decode cX10_closeOnes 12 = .ok (.iload_n 2, 1) := by decide +kernel
theorem dX10_closeOnes_13 : decode cX10_closeOnes 13 = .ok (.aload_n 0, 1) := by decide +kernel
theorem dX10_closeOnes_14 : decode cX10_closeOnes 14 = .ok (.getfield 22, 3) := by decide +kernel
theorem dX10_closeOnes_17 : decode cX10_closeOnes 17 = .ok (.bipush 17, 2) := by decide +kernel
theorem dX10_closeOnes_19 : decode cX10_closeOnes 19 = .ok (.iload_n 3, 1) := by decide +kernel
theorem dX10_closeOnes_20 : decode cX10_closeOnes 20 = .ok (.iadd, 1) := by decide +kernel
theorem dX10_closeOnes_21 : decode cX10_closeOnes 21 = .ok (.iaload, 1) := by decide +kernel
theorem dX10_closeOnes_22 : decode cX10_closeOnes 22 = .ok (.aload_n 0, 1) := by decide +kernel
theorem dX10_closeOnes_23 : decode cX10_closeOnes 23 = .ok (.getfield 149, 3) := by decide +kernel
theorem dX10_closeOnes_26 : decode cX10_closeOnes 26 = .ok (.ixor, 1) := by decide +kernel
theorem dX10_closeOnes_27 : decode cX10_closeOnes 27 = .ok (.invokestatic 188, 3) := by decide +kernel
theorem dX10_closeOnes_30 : decode cX10_closeOnes 30 = .ok (.iload_n 1, 1) := by decide +kernel
theorem dX10_closeOnes_31 : decode cX10_closeOnes 31 = .ok (.if_icmp .gt 9, 3) := by decide +kernel
theorem dX10_closeOnes_34 : decode cX10_closeOnes 34 = .ok (.iconst 1, 1) := by decide +kernel
theorem dX10_closeOnes_35 : decode cX10_closeOnes 35 = .ok (.iload_n 3, 1) := by decide +kernel
theorem dX10_closeOnes_36 : decode cX10_closeOnes 36 = .ok (.ishl, 1) := by decide +kernel
theorem dX10_closeOnes_37 : decode cX10_closeOnes 37 = .ok (.goto 4, 3) := by decide +kernel
theorem dX10_closeOnes_40 : decode cX10_closeOnes 40 = .ok (.iconst 0, 1) := by decide +kernel
theorem dX10_closeOnes_41 : decode cX10_closeOnes 41 = .ok (.ior, 1) := by decide +kernel
theorem dX10_closeOnes_42 : decode cX10_closeOnes 42 = .ok (.istore_n 2, 1) := by decide +kernel
theorem dX10_closeOnes_43 : decode cX10_closeOnes 43 = .ok (.iinc 3 1, 3) := by decide +kernel
theorem dX10_closeOnes_46 : decode cX10_closeOnes 46 = .ok (.goto (-42), 3) := by decide +kernel
theorem dX10_closeOnes_49 : decode cX10_closeOnes 49 = .ok (.iload_n 2, 1) := by decide +kernel
theorem dX10_closeOnes_50 : decode cX10_closeOnes 50 = .ok (.ireturn, 1) := by decide +kernel
theorem dX10_tells_0 : decode cX10_tells 0 = .ok (.iconst 1, 1) := by decide +kernel
theorem dX10_tells_1 : decode cX10_tells 1 = .ok (.istore_n 2, 1) := by decide +kernel
theorem dX10_tells_2 : decode cX10_tells 2 = .ok (.iconst 0, 1) := by decide +kernel
theorem dX10_tells_3 : decode cX10_tells 3 = .ok (.istore_n 3, 1) := by decide +kernel
theorem dX10_tells_4 : decode cX10_tells 4 = .ok (.iload_n 3, 1) := by decide +kernel
theorem dX10_tells_5 : decode cX10_tells 5 = .ok (.aload_n 0, 1) := by decide +kernel
theorem dX10_tells_6 : decode cX10_tells 6 = .ok (.getfield 79, 3) := by decide +kernel
theorem dX10_tells_9 : decode cX10_tells 9 = .ok (.if_icmp .ge 73, 3) := by decide +kernel
theorem dX10_tells_12 : decode cX10_tells 12 = .ok (.iload_n 3, 1) := by decide +kernel
theorem dX10_tells_13 : decode cX10_tells 13 = .ok (.iconst 1, 1) := by decide +kernel
theorem dX10_tells_14 : decode cX10_tells 14 = .ok (.iadd, 1) := by decide +kernel
theorem dX10_tells_15 : decode cX10_tells 15 = .ok (.istore 4, 2) := by decide +kernel
theorem dX10_tells_17 : decode cX10_tells 17 = .ok (.iload 4, 2) := by decide +kernel
theorem dX10_tells_19 : decode cX10_tells 19 = .ok (.aload_n 0, 1) := by decide +kernel
theorem dX10_tells_20 : decode cX10_tells 20 = .ok (.getfield 79, 3) := by decide +kernel
theorem dX10_tells_23 : decode cX10_tells 23 = .ok (.if_icmp .ge 53, 3) := by decide +kernel
theorem dX10_tells_26 : decode cX10_tells 26 = .ok (.aload_n 0, 1) := by decide +kernel
theorem dX10_tells_27 : decode cX10_tells 27 = .ok (.getfield 22, 3) := by decide +kernel
theorem dX10_tells_30 : decode cX10_tells 30 = .ok (.bipush 17, 2) := by decide +kernel
theorem dX10_tells_32 : decode cX10_tells 32 = .ok (.iload_n 3, 1) := by decide +kernel
theorem dX10_tells_33 : decode cX10_tells 33 = .ok (.iadd, 1) := by decide +kernel
theorem dX10_tells_34 : decode cX10_tells 34 = .ok (.iaload, 1) := by decide +kernel
theorem dX10_tells_35 : decode cX10_tells 35 = .ok (.aload_n 0, 1) := by decide +kernel
theorem dX10_tells_36 : decode cX10_tells 36 = .ok (.getfield 22, 3) := by decide +kernel
theorem dX10_tells_39 : decode cX10_tells 39 = .ok (.bipush 17, 2) := by decide +kernel
theorem dX10_tells_41 : decode cX10_tells 41 = .ok (.iload 4, 2) := by decide +kernel
theorem dX10_tells_43 : decode cX10_tells 43 = .ok (.iadd, 1) := by decide +kernel
theorem dX10_tells_44 : decode cX10_tells 44 = .ok (.iaload, 1) := by decide +kernel
theorem dX10_tells_45 : decode cX10_tells 45 = .ok (.ixor, 1) := by decide +kernel
theorem dX10_tells_46 : decode cX10_tells 46 = .ok (.istore 5, 2) := by decide +kernel
theorem dX10_tells_48 : decode cX10_tells 48 = .ok (.iload_n 2, 1) := by decide +kernel
theorem dX10_tells_49 : decode cX10_tells 49 = .ok (.ifCond .eq 19, 3) := by decide +kernel
theorem dX10_tells_52 : decode cX10_tells 52 = .ok (.iload 5, 2) := by decide +kernel
theorem dX10_tells_54 : decode cX10_tells 54 = .ok (.ifCond .eq 10, 3) := by decide +kernel
theorem dX10_tells_57 : decode cX10_tells 57 = .ok (.iload 5, 2) := by decide +kernel
theorem dX10_tells_59 : decode cX10_tells 59 = .ok (.iload_n 1, 1) := by decide +kernel
theorem dX10_tells_60 : decode cX10_tells 60 = .ok (.iand, 1) := by decide +kernel
theorem dX10_tells_61 : decode cX10_tells 61 = .ok (.ifCond .eq 7, 3) := by decide +kernel
theorem dX10_tells_64 : decode cX10_tells 64 = .ok (.iconst 1, 1) := by decide +kernel
theorem dX10_tells_65 : decode cX10_tells 65 = .ok (.goto 4, 3) := by decide +kernel
theorem dX10_tells_68 : decode cX10_tells 68 = .ok (.iconst 0, 1) := by decide +kernel
theorem dX10_tells_69 : decode cX10_tells 69 = .ok (.istore_n 2, 1) := by decide +kernel
theorem dX10_tells_70 : decode cX10_tells 70 = .ok (.iinc 4 1, 3) := by decide +kernel
theorem dX10_tells_73 : decode cX10_tells 73 = .ok (.goto (-56), 3) := by decide +kernel
theorem dX10_tells_76 : decode cX10_tells 76 = .ok (.iinc 3 1, 3) := by decide +kernel
theorem dX10_tells_79 : decode cX10_tells 79 = .ok (.goto (-75), 3) := by decide +kernel
theorem dX10_tells_82 : decode cX10_tells 82 = .ok (.iload_n 2, 1) := by decide +kernel
theorem dX10_tells_83 : decode cX10_tells 83 = .ok (.ireturn, 1) := by decide +kernel
theorem dX10_tellingOnes_0 : decode cX10_tellingOnes 0 = .ok (.bipush 63, 2) := by decide +kernel
theorem dX10_tellingOnes_2 : decode cX10_tellingOnes 2 = .ok (.istore_n 1, 1) := by decide +kernel
theorem dX10_tellingOnes_3 : decode cX10_tellingOnes 3 = .ok (.iconst 0, 1) := by decide +kernel
theorem dX10_tellingOnes_4 : decode cX10_tellingOnes 4 = .ok (.istore_n 2, 1) := by decide +kernel
theorem dX10_tellingOnes_5 : decode cX10_tellingOnes 5 = .ok (.iload_n 2, 1) := by decide +kernel
theorem dX10_tellingOnes_6 : decode cX10_tellingOnes 6 = .ok (.bipush 64, 2) := by decide +kernel
theorem dX10_tellingOnes_8 : decode cX10_tellingOnes 8 = .ok (.if_icmp .ge 34, 3) := by decide +kernel
theorem dX10_tellingOnes_11 : decode cX10_tellingOnes 11 = .ok (.iload_n 2, 1) := by decide +kernel
theorem dX10_tellingOnes_12 : decode cX10_tellingOnes 12 = .ok (.invokestatic 188, 3) := by decide +kernel
theorem dX10_tellingOnes_15 : decode cX10_tellingOnes 15 = .ok (.iload_n 1, 1) := by decide +kernel
theorem dX10_tellingOnes_16 : decode cX10_tellingOnes 16 = .ok (.invokestatic 188, 3) := by decide +kernel
theorem dX10_tellingOnes_19 : decode cX10_tellingOnes 19 = .ok (.if_icmp .ge 15, 3) := by decide +kernel
theorem dX10_tellingOnes_22 : decode cX10_tellingOnes 22 = .ok (.aload_n 0, 1) := by decide +kernel
theorem dX10_tellingOnes_23 : decode cX10_tellingOnes 23 = .ok (.iload_n 2, 1) := by decide +kernel
theorem dX10_tellingOnes_24 : decode cX10_tellingOnes 24 = .ok (.invokevirtual 194, 3) := by decide +kernel
theorem dX10_tellingOnes_27 : decode cX10_tellingOnes 27 = .ok (.ifCond .eq 7, 3) := by decide +kernel
theorem dX10_tellingOnes_30 : decode cX10_tellingOnes 30 = .ok (.iload_n 2, 1) := by decide +kernel
theorem dX10_tellingOnes_31 : decode cX10_tellingOnes 31 = .ok (.goto 4, 3) := by decide +kernel
theorem dX10_tellingOnes_34 : decode cX10_tellingOnes 34 = .ok (.iload_n 1, 1) := by decide +kernel
theorem dX10_tellingOnes_35 : decode cX10_tellingOnes 35 = .ok (.istore_n 1, 1) := by decide +kernel
theorem dX10_tellingOnes_36 : decode cX10_tellingOnes 36 = .ok (.iinc 2 1, 3) := by decide +kernel
theorem dX10_tellingOnes_39 : decode cX10_tellingOnes 39 = .ok (.goto (-34), 3) := by decide +kernel
theorem dX10_tellingOnes_42 : decode cX10_tellingOnes 42 = .ok (.iload_n 1, 1) := by decide +kernel
theorem dX10_tellingOnes_43 : decode cX10_tellingOnes 43 = .ok (.ireturn, 1) := by decide +kernel
theorem dX10_told_0 : decode cX10_told 0 = .ok (.iload_n 1, 1) := by decide +kernel
theorem dX10_told_1 : decode cX10_told 1 = .ok (.tableswitch 181 0 16 #[83, 88, 93, 98, 103, 108, 116, 124, 129, 135, 140, 148, 156, 161, 166, 171, 176], 83) := by decide +kernel
theorem dX10_told_84 : decode cX10_told 84 = .ok (.aload_n 0, 1) := by decide +kernel
theorem dX10_told_85 : decode cX10_told 85 = .ok (.getfield 72, 3) := by decide +kernel
theorem dX10_told_88 : decode cX10_told 88 = .ok (.ireturn, 1) := by decide +kernel
theorem dX10_told_89 : decode cX10_told 89 = .ok (.aload_n 0, 1) := by decide +kernel
theorem dX10_told_90 : decode cX10_told 90 = .ok (.getfield 79, 3) := by decide +kernel
theorem dX10_told_93 : decode cX10_told 93 = .ok (.ireturn, 1) := by decide +kernel
theorem dX10_told_94 : decode cX10_told 94 = .ok (.aload_n 0, 1) := by decide +kernel
theorem dX10_told_95 : decode cX10_told 95 = .ok (.getfield 85, 3) := by decide +kernel
theorem dX10_told_98 : decode cX10_told 98 = .ok (.ireturn, 1) := by decide +kernel
theorem dX10_told_99 : decode cX10_told 99 = .ok (.aload_n 0, 1) := by decide +kernel
theorem dX10_told_100 : decode cX10_told 100 = .ok (.getfield 149, 3) := by decide +kernel
theorem dX10_told_103 : decode cX10_told 103 = .ok (.ireturn, 1) := by decide +kernel
theorem dX10_told_104 : decode cX10_told 104 = .ok (.aload_n 0, 1) := by decide +kernel
theorem dX10_told_105 : decode cX10_told 105 = .ok (.getfield 160, 3) := by decide +kernel
theorem dX10_told_108 : decode cX10_told 108 = .ok (.ireturn, 1) := by decide +kernel
theorem dX10_told_109 : decode cX10_told 109 = .ok (.aload_n 0, 1) := by decide +kernel
theorem dX10_told_110 : decode cX10_told 110 = .ok (.getfield 22, 3) := by decide +kernel
theorem dX10_told_113 : decode cX10_told 113 = .ok (.bipush 33, 2) := by decide +kernel
theorem dX10_told_115 : decode cX10_told 115 = .ok (.iaload, 1) := by decide +kernel
theorem dX10_told_116 : decode cX10_told 116 = .ok (.ireturn, 1) := by decide +kernel
theorem dX10_told_117 : decode cX10_told 117 = .ok (.aload_n 0, 1) := by decide +kernel
theorem dX10_told_118 : decode cX10_told 118 = .ok (.getfield 22, 3) := by decide +kernel
theorem dX10_told_121 : decode cX10_told 121 = .ok (.bipush 8, 2) := by decide +kernel
theorem dX10_told_123 : decode cX10_told 123 = .ok (.iaload, 1) := by decide +kernel
theorem dX10_told_124 : decode cX10_told 124 = .ok (.ireturn, 1) := by decide +kernel
theorem dX10_told_125 : decode cX10_told 125 = .ok (.aload_n 0, 1) := by decide +kernel
theorem dX10_told_126 : decode cX10_told 126 = .ok (.invokevirtual 197, 3) := by decide +kernel
theorem dX10_told_129 : decode cX10_told 129 = .ok (.ireturn, 1) := by decide +kernel
theorem dX10_told_130 : decode cX10_told 130 = .ok (.aload_n 0, 1) := by decide +kernel
theorem dX10_told_131 : decode cX10_told 131 = .ok (.iconst 0, 1) := by decide +kernel
theorem dX10_told_132 : decode cX10_told 132 = .ok (.invokevirtual 200, 3) := by decide +kernel
theorem dX10_told_135 : decode cX10_told 135 = .ok (.ireturn, 1) := by decide +kernel
theorem dX10_told_136 : decode cX10_told 136 = .ok (.aload_n 0, 1) := by decide +kernel
end
section
theorem dX10_told_137 : decode cX10_told 137 = .ok (.invokevirtual 203, 3) := by decide +kernel
theorem dX10_told_140 : decode cX10_told 140 = .ok (.ireturn, 1) := by decide +kernel
theorem dX10_told_141 : decode cX10_told 141 = .ok (.aload_n 0, 1) := by decide +kernel
theorem dX10_told_142 : decode cX10_told 142 = .ok (.getfield 22, 3) := by decide +kernel
theorem dX10_told_145 : decode cX10_told 145 = .ok (.bipush 34, 2) := by decide +kernel
theorem dX10_told_147 : decode cX10_told 147 = .ok (.iaload, 1) := by decide +kernel
theorem dX10_told_148 : decode cX10_told 148 = .ok (.ireturn, 1) := by decide +kernel
theorem dX10_told_149 : decode cX10_told 149 = .ok (.aload_n 0, 1) := by decide +kernel
theorem dX10_told_150 : decode cX10_told 150 = .ok (.getfield 22, 3) := by decide +kernel
theorem dX10_told_153 : decode cX10_told 153 = .ok (.bipush 35, 2) := by decide +kernel
theorem dX10_told_155 : decode cX10_told 155 = .ok (.iaload, 1) := by decide +kernel
theorem dX10_told_156 : decode cX10_told 156 = .ok (.ireturn, 1) := by decide +kernel
theorem dX10_told_157 : decode cX10_told 157 = .ok (.aload_n 0, 1) := by decide +kernel
theorem dX10_told_158 : decode cX10_told 158 = .ok (.invokevirtual 206, 3) := by decide +kernel
theorem dX10_told_161 : decode cX10_told 161 = .ok (.ireturn, 1) := by decide +kernel
theorem dX10_told_162 : decode cX10_told 162 = .ok (.aload_n 0, 1) := by decide +kernel
theorem dX10_told_163 : decode cX10_told 163 = .ok (.invokevirtual 209, 3) := by decide +kernel
theorem dX10_told_166 : decode cX10_told 166 = .ok (.ireturn, 1) := by decide +kernel
theorem dX10_told_167 : decode cX10_told 167 = .ok (.aload_n 0, 1) := by decide +kernel
theorem dX10_told_168 : decode cX10_told 168 = .ok (.invokevirtual 212, 3) := by decide +kernel
theorem dX10_told_171 : decode cX10_told 171 = .ok (.ireturn, 1) := by decide +kernel
theorem dX10_told_172 : decode cX10_told 172 = .ok (.aload_n 0, 1) := by decide +kernel
theorem dX10_told_173 : decode cX10_told 173 = .ok (.getfield 169, 3) := by decide +kernel
theorem dX10_told_176 : decode cX10_told 176 = .ok (.ireturn, 1) := by decide +kernel
theorem dX10_told_177 : decode cX10_told 177 = .ok (.aload_n 0, 1) := by decide +kernel
theorem dX10_told_178 : decode cX10_told 178 = .ok (.getfield 172, 3) := by decide +kernel
theorem dX10_told_181 : decode cX10_told 181 = .ok (.ireturn, 1) := by decide +kernel
theorem dX10_told_182 : decode cX10_told 182 = .ok (.ldc 84, 2) := by decide +kernel
theorem dX10_told_184 : decode cX10_told 184 = .ok (.ireturn, 1) := by decide +kernel
theorem dX10_doll_0 : decode cX10_doll 0 = .ok (.aload_n 0, 1) := by decide +kernel
theorem dX10_doll_1 : decode cX10_doll 1 = .ok (.iload_n 1, 1) := by decide +kernel
theorem dX10_doll_2 : decode cX10_doll 2 = .ok (.invokevirtual 215, 3) := by decide +kernel
theorem dX10_doll_5 : decode cX10_doll 5 = .ok (.ifCond .ne 6, 3) := by decide +kernel
theorem dX10_doll_8 : decode cX10_doll 8 = .ok (.ldc 218, 2) := by decide +kernel
theorem dX10_doll_10 : decode cX10_doll 10 = .ok (.ireturn, 1) := by decide +kernel
theorem dX10_doll_11 : decode cX10_doll 11 = .ok (.iload_n 2, 1) := by decide +kernel
theorem dX10_doll_12 : decode cX10_doll 12 = .ok (.tableswitch 107 0 6 #[44, 51, 58, 65, 75, 85, 97], 44) := by decide +kernel
theorem dX10_doll_56 : decode cX10_doll 56 = .ok (.aload_n 0, 1) := by decide +kernel
theorem dX10_doll_57 : decode cX10_doll 57 = .ok (.getfield 13, 3) := by decide +kernel
theorem dX10_doll_60 : decode cX10_doll 60 = .ok (.iload_n 1, 1) := by decide +kernel
theorem dX10_doll_61 : decode cX10_doll 61 = .ok (.iaload, 1) := by decide +kernel
theorem dX10_doll_62 : decode cX10_doll 62 = .ok (.ireturn, 1) := by decide +kernel
theorem dX10_doll_63 : decode cX10_doll 63 = .ok (.aload_n 0, 1) := by decide +kernel
theorem dX10_doll_64 : decode cX10_doll 64 = .ok (.getfield 16, 3) := by decide +kernel
theorem dX10_doll_67 : decode cX10_doll 67 = .ok (.iload_n 1, 1) := by decide +kernel
theorem dX10_doll_68 : decode cX10_doll 68 = .ok (.iaload, 1) := by decide +kernel
theorem dX10_doll_69 : decode cX10_doll 69 = .ok (.ireturn, 1) := by decide +kernel
theorem dX10_doll_70 : decode cX10_doll 70 = .ok (.aload_n 0, 1) := by decide +kernel
theorem dX10_doll_71 : decode cX10_doll 71 = .ok (.getfield 22, 3) := by decide +kernel
theorem dX10_doll_74 : decode cX10_doll 74 = .ok (.iload_n 1, 1) := by decide +kernel
theorem dX10_doll_75 : decode cX10_doll 75 = .ok (.iaload, 1) := by decide +kernel
theorem dX10_doll_76 : decode cX10_doll 76 = .ok (.ireturn, 1) := by decide +kernel
theorem dX10_doll_77 : decode cX10_doll 77 = .ok (.aload_n 0, 1) := by decide +kernel
theorem dX10_doll_78 : decode cX10_doll 78 = .ok (.getfield 22, 3) := by decide +kernel
theorem dX10_doll_81 : decode cX10_doll 81 = .ok (.bipush 17, 2) := by decide +kernel
theorem dX10_doll_83 : decode cX10_doll 83 = .ok (.iload_n 1, 1) := by decide +kernel
theorem dX10_doll_84 : decode cX10_doll 84 = .ok (.iadd, 1) := by decide +kernel
theorem dX10_doll_85 : decode cX10_doll 85 = .ok (.iaload, 1) := by decide +kernel
theorem dX10_doll_86 : decode cX10_doll 86 = .ok (.ireturn, 1) := by decide +kernel
theorem dX10_doll_87 : decode cX10_doll 87 = .ok (.aload_n 0, 1) := by decide +kernel
theorem dX10_doll_88 : decode cX10_doll 88 = .ok (.getfield 22, 3) := by decide +kernel
theorem dX10_doll_91 : decode cX10_doll 91 = .ok (.bipush 9, 2) := by decide +kernel
theorem dX10_doll_93 : decode cX10_doll 93 = .ok (.iload_n 1, 1) := by decide +kernel
theorem dX10_doll_94 : decode cX10_doll 94 = .ok (.iadd, 1) := by decide +kernel
theorem dX10_doll_95 : decode cX10_doll 95 = .ok (.iaload, 1) := by decide +kernel
theorem dX10_doll_96 : decode cX10_doll 96 = .ok (.ireturn, 1) := by decide +kernel
theorem dX10_doll_97 : decode cX10_doll 97 = .ok (.aload_n 0, 1) := by decide +kernel
theorem dX10_doll_98 : decode cX10_doll 98 = .ok (.getfield 22, 3) := by decide +kernel
theorem dX10_doll_101 : decode cX10_doll 101 = .ok (.bipush 8, 2) := by decide +kernel
theorem dX10_doll_103 : decode cX10_doll 103 = .ok (.iaload, 1) := by decide +kernel
theorem dX10_doll_104 : decode cX10_doll 104 = .ok (.iload_n 1, 1) := by decide +kernel
theorem dX10_doll_105 : decode cX10_doll 105 = .ok (.ishr, 1) := by decide +kernel
theorem dX10_doll_106 : decode cX10_doll 106 = .ok (.iconst 1, 1) := by decide +kernel
theorem dX10_doll_107 : decode cX10_doll 107 = .ok (.iand, 1) := by decide +kernel
theorem dX10_doll_108 : decode cX10_doll 108 = .ok (.ireturn, 1) := by decide +kernel
theorem dX10_doll_109 : decode cX10_doll 109 = .ok (.aload_n 0, 1) := by decide +kernel
theorem dX10_doll_110 : decode cX10_doll 110 = .ok (.getfield 22, 3) := by decide +kernel
theorem dX10_doll_113 : decode cX10_doll 113 = .ok (.bipush 25, 2) := by decide +kernel
theorem dX10_doll_115 : decode cX10_doll 115 = .ok (.iload_n 1, 1) := by decide +kernel
theorem dX10_doll_116 : decode cX10_doll 116 = .ok (.iadd, 1) := by decide +kernel
theorem dX10_doll_117 : decode cX10_doll 117 = .ok (.iaload, 1) := by decide +kernel
theorem dX10_doll_118 : decode cX10_doll 118 = .ok (.ireturn, 1) := by decide +kernel
theorem dX10_doll_119 : decode cX10_doll 119 = .ok (.ldc 84, 2) := by decide +kernel
theorem dX10_doll_121 : decode cX10_doll 121 = .ok (.ireturn, 1) := by decide +kernel
theorem dX10_court_0 : decode cX10_court 0 = .ok (.aload_n 0, 1) := by decide +kernel
theorem dX10_court_1 : decode cX10_court 1 = .ok (.iload_n 1, 1) := by decide +kernel
theorem dX10_court_2 : decode cX10_court 2 = .ok (.invokevirtual 219, 3) := by decide +kernel
theorem dX10_court_5 : decode cX10_court 5 = .ok (.ifCond .ne 6, 3) := by decide +kernel
theorem dX10_court_8 : decode cX10_court 8 = .ok (.ldc 218, 2) := by decide +kernel
theorem dX10_court_10 : decode cX10_court 10 = .ok (.ireturn, 1) := by decide +kernel
theorem dX10_court_11 : decode cX10_court 11 = .ok (.iload_n 2, 1) := by decide +kernel
theorem dX10_court_12 : decode cX10_court 12 = .ok (.tableswitch 75 0 4 #[36, 43, 49, 55, 69], 36) := by decide +kernel
theorem dX10_court_48 : decode cX10_court 48 = .ok (.aload_n 0, 1) := by decide +kernel
theorem dX10_court_49 : decode cX10_court 49 = .ok (.getfield 7, 3) := by decide +kernel
theorem dX10_court_52 : decode cX10_court 52 = .ok (.iload_n 1, 1) := by decide +kernel
theorem dX10_court_53 : decode cX10_court 53 = .ok (.iaload, 1) := by decide +kernel
theorem dX10_court_54 : decode cX10_court 54 = .ok (.ireturn, 1) := by decide +kernel
theorem dX10_court_55 : decode cX10_court 55 = .ok (.aload_n 0, 1) := by decide +kernel
theorem dX10_court_56 : decode cX10_court 56 = .ok (.iload_n 1, 1) := by decide +kernel
theorem dX10_court_57 : decode cX10_court 57 = .ok (.invokevirtual 179, 3) := by decide +kernel
theorem dX10_court_60 : decode cX10_court 60 = .ok (.ireturn, 1) := by decide +kernel
theorem dX10_court_61 : decode cX10_court 61 = .ok (.aload_n 0, 1) := by decide +kernel
theorem dX10_court_62 : decode cX10_court 62 = .ok (.iload_n 1, 1) := by decide +kernel
theorem dX10_court_63 : decode cX10_court 63 = .ok (.invokevirtual 222, 3) := by decide +kernel
theorem dX10_court_66 : decode cX10_court 66 = .ok (.ireturn, 1) := by decide +kernel
theorem dX10_court_67 : decode cX10_court 67 = .ok (.aload_n 0, 1) := by decide +kernel
theorem dX10_court_68 : decode cX10_court 68 = .ok (.iload_n 1, 1) := by decide +kernel
theorem dX10_court_69 : decode cX10_court 69 = .ok (.invokevirtual 182, 3) := by decide +kernel
theorem dX10_court_72 : decode cX10_court 72 = .ok (.ifCond .eq 7, 3) := by decide +kernel
theorem dX10_court_75 : decode cX10_court 75 = .ok (.iconst 1, 1) := by decide +kernel
theorem dX10_court_76 : decode cX10_court 76 = .ok (.goto 4, 3) := by decide +kernel
theorem dX10_court_79 : decode cX10_court 79 = .ok (.iconst 0, 1) := by decide +kernel
theorem dX10_court_80 : decode cX10_court 80 = .ok (.ireturn, 1) := by decide +kernel
theorem dX10_court_81 : decode cX10_court 81 = .ok (.aload_n 0, 1) := by decide +kernel
theorem dX10_court_82 : decode cX10_court 82 = .ok (.iload_n 1, 1) := by decide +kernel
theorem dX10_court_83 : decode cX10_court 83 = .ok (.invokevirtual 225, 3) := by decide +kernel
theorem dX10_court_86 : decode cX10_court 86 = .ok (.ireturn, 1) := by decide +kernel
theorem dX10_court_87 : decode cX10_court 87 = .ok (.ldc 84, 2) := by decide +kernel
theorem dX10_court_89 : decode cX10_court 89 = .ok (.ireturn, 1) := by decide +kernel
theorem dX10_moreWarm_0 : decode cX10_moreWarm 0 = .ok (.aload_n 0, 1) := by decide +kernel
theorem dX10_moreWarm_1 : decode cX10_moreWarm 1 = .ok (.getfield 22, 3) := by decide +kernel
theorem dX10_moreWarm_4 : decode cX10_moreWarm 4 = .ok (.bipush 8, 2) := by decide +kernel
theorem dX10_moreWarm_6 : decode cX10_moreWarm 6 = .ok (.iaload, 1) := by decide +kernel
theorem dX10_moreWarm_7 : decode cX10_moreWarm 7 = .ok (.iload_n 1, 1) := by decide +kernel
theorem dX10_moreWarm_8 : decode cX10_moreWarm 8 = .ok (.invokestatic 175, 3) := by decide +kernel
theorem dX10_moreWarm_11 : decode cX10_moreWarm 11 = .ok (.ifCond .ne 5, 3) := by decide +kernel
theorem dX10_moreWarm_14 : decode cX10_moreWarm 14 = .ok (.iconst (-1), 1) := by decide +kernel
theorem dX10_moreWarm_15 : decode cX10_moreWarm 15 = .ok (.ireturn, 1) := by decide +kernel
theorem dX10_moreWarm_16 : decode cX10_moreWarm 16 = .ok (.aload_n 0, 1) := by decide +kernel
theorem dX10_moreWarm_17 : decode cX10_moreWarm 17 = .ok (.getfield 13, 3) := by decide +kernel
theorem dX10_moreWarm_20 : decode cX10_moreWarm 20 = .ok (.iload_n 1, 1) := by decide +kernel
theorem dX10_moreWarm_21 : decode cX10_moreWarm 21 = .ok (.iaload, 1) := by decide +kernel
theorem dX10_moreWarm_22 : decode cX10_moreWarm 22 = .ok (.tableswitch 52 0 3 #[30, 52, 32, 34], 30) := by decide +kernel
theorem dX10_moreWarm_52 : decode cX10_moreWarm 52 = .ok (.iconst 1, 1) := by decide +kernel
theorem dX10_moreWarm_53 : decode cX10_moreWarm 53 = .ok (.ireturn, 1) := by decide +kernel
theorem dX10_moreWarm_54 : decode cX10_moreWarm 54 = .ok (.iconst 3, 1) := by decide +kernel
theorem dX10_moreWarm_55 : decode cX10_moreWarm 55 = .ok (.ireturn, 1) := by decide +kernel
theorem dX10_moreWarm_56 : decode cX10_moreWarm 56 = .ok (.aload_n 0, 1) := by decide +kernel
theorem dX10_moreWarm_57 : decode cX10_moreWarm 57 = .ok (.getfield 22, 3) := by decide +kernel
theorem dX10_moreWarm_60 : decode cX10_moreWarm 60 = .ok (.bipush 33, 2) := by decide +kernel
theorem dX10_moreWarm_62 : decode cX10_moreWarm 62 = .ok (.iaload, 1) := by decide +kernel
theorem dX10_moreWarm_63 : decode cX10_moreWarm 63 = .ok (.iconst 2, 1) := by decide +kernel
theorem dX10_moreWarm_64 : decode cX10_moreWarm 64 = .ok (.irem, 1) := by decide +kernel
theorem dX10_moreWarm_65 : decode cX10_moreWarm 65 = .ok (.ifCond .ne 7, 3) := by decide +kernel
theorem dX10_moreWarm_68 : decode cX10_moreWarm 68 = .ok (.iconst 2, 1) := by decide +kernel
theorem dX10_moreWarm_69 : decode cX10_moreWarm 69 = .ok (.goto 4, 3) := by decide +kernel
theorem dX10_moreWarm_72 : decode cX10_moreWarm 72 = .ok (.iconst 0, 1) := by decide +kernel
theorem dX10_moreWarm_73 : decode cX10_moreWarm 73 = .ok (.ireturn, 1) := by decide +kernel
theorem dX10_moreWarm_74 : decode cX10_moreWarm 74 = .ok (.iconst 0, 1) := by decide +kernel
theorem dX10_moreWarm_75 : decode cX10_moreWarm 75 = .ok (.ireturn, 1) := by decide +kernel
theorem dX10_pass_0 : decode cX10_pass 0 = .ok (.iconst 0, 1) := by decide +kernel
theorem dX10_pass_1 : decode cX10_pass 1 = .ok (.istore_n 1, 1) := by decide +kernel
theorem dX10_pass_2 : decode cX10_pass 2 = .ok (.iload_n 1, 1) := by decide +kernel
theorem dX10_pass_3 : decode cX10_pass 3 = .ok (.aload_n 0, 1) := by decide +kernel
theorem dX10_pass_4 : decode cX10_pass 4 = .ok (.getfield 79, 3) := by decide +kernel
theorem dX10_pass_7 : decode cX10_pass 7 = .ok (.if_icmp .ge 133, 3) := by decide +kernel
theorem dX10_pass_10 : decode cX10_pass 10 = .ok (.aload_n 0, 1) := by decide +kernel
theorem dX10_pass_11 : decode cX10_pass 11 = .ok (.getfield 22, 3) := by decide +kernel
theorem dX10_pass_14 : decode cX10_pass 14 = .ok (.bipush 9, 2) := by decide +kernel
theorem dX10_pass_16 : decode cX10_pass 16 = .ok (.iload_n 1, 1) := by decide +kernel
theorem dX10_pass_17 : decode cX10_pass 17 = .ok (.iadd, 1) := by decide +kernel
theorem dX10_pass_18 : decode cX10_pass 18 = .ok (.iaload, 1) := by decide +kernel
theorem dX10_pass_19 : decode cX10_pass 19 = .ok (.aload_n 0, 1) := by decide +kernel
theorem dX10_pass_20 : decode cX10_pass 20 = .ok (.iload_n 1, 1) := by decide +kernel
theorem dX10_pass_21 : decode cX10_pass 21 = .ok (.invokevirtual 228, 3) := by decide +kernel
theorem dX10_pass_24 : decode cX10_pass 24 = .ok (.iadd, 1) := by decide +kernel
theorem dX10_pass_25 : decode cX10_pass 25 = .ok (.istore_n 2, 1) := by decide +kernel
theorem dX10_pass_26 : decode cX10_pass 26 = .ok (.aload_n 0, 1) := by decide +kernel
theorem dX10_pass_27 : decode cX10_pass 27 = .ok (.getfield 22, 3) := by decide +kernel
theorem dX10_pass_30 : decode cX10_pass 30 = .ok (.bipush 9, 2) := by decide +kernel
theorem dX10_pass_32 : decode cX10_pass 32 = .ok (.iload_n 1, 1) := by decide +kernel
theorem dX10_pass_33 : decode cX10_pass 33 = .ok (.iadd, 1) := by decide +kernel
theorem dX10_pass_34 : decode cX10_pass 34 = .ok (.iload_n 2, 1) := by decide +kernel
theorem dX10_pass_35 : decode cX10_pass 35 = .ok (.ifCond .ge 7, 3) := by decide +kernel
theorem dX10_pass_38 : decode cX10_pass 38 = .ok (.iconst 0, 1) := by decide +kernel
theorem dX10_pass_39 : decode cX10_pass 39 = .ok (.goto 15, 3) := by decide +kernel
theorem dX10_pass_42 : decode cX10_pass 42 = .ok (.iload_n 2, 1) := by decide +kernel
theorem dX10_pass_43 : decode cX10_pass 43 = .ok (.bipush 99, 2) := by decide +kernel
theorem dX10_pass_45 : decode cX10_pass 45 = .ok (.if_icmp .le 8, 3) := by decide +kernel
theorem dX10_pass_48 : decode cX10_pass 48 = .ok (.bipush 99, 2) := by decide +kernel
theorem dX10_pass_50 : decode cX10_pass 50 = .ok (.goto 4, 3) := by decide +kernel
theorem dX10_pass_53 : decode cX10_pass 53 = .ok (.iload_n 2, 1) := by decide +kernel
theorem dX10_pass_54 : decode cX10_pass 54 = .ok (.iastore, 1) := by decide +kernel
theorem dX10_pass_55 : decode cX10_pass 55 = .ok (.aload_n 0, 1) := by decide +kernel
theorem dX10_pass_56 : decode cX10_pass 56 = .ok (.getfield 13, 3) := by decide +kernel
theorem dX10_pass_59 : decode cX10_pass 59 = .ok (.iload_n 1, 1) := by decide +kernel
theorem dX10_pass_60 : decode cX10_pass 60 = .ok (.iaload, 1) := by decide +kernel
theorem dX10_pass_61 : decode cX10_pass 61 = .ok (.iconst 2, 1) := by decide +kernel
theorem dX10_pass_62 : decode cX10_pass 62 = .ok (.if_icmp .ne 35, 3) := by decide +kernel
theorem dX10_pass_65 : decode cX10_pass 65 = .ok (.aload_n 0, 1) := by decide +kernel
theorem dX10_pass_66 : decode cX10_pass 66 = .ok (.getfield 22, 3) := by decide +kernel
theorem dX10_pass_69 : decode cX10_pass 69 = .ok (.bipush 8, 2) := by decide +kernel
theorem dX10_pass_71 : decode cX10_pass 71 = .ok (.iaload, 1) := by decide +kernel
theorem dX10_pass_72 : decode cX10_pass 72 = .ok (.iload_n 1, 1) := by decide +kernel
theorem dX10_pass_73 : decode cX10_pass 73 = .ok (.invokestatic 175, 3) := by decide +kernel
theorem dX10_pass_76 : decode cX10_pass 76 = .ok (.ifCond .eq 21, 3) := by decide +kernel
theorem dX10_pass_79 : decode cX10_pass 79 = .ok (.aload_n 0, 1) := by decide +kernel
theorem dX10_pass_80 : decode cX10_pass 80 = .ok (.getfield 22, 3) := by decide +kernel
theorem dX10_pass_83 : decode cX10_pass 83 = .ok (.bipush 9, 2) := by decide +kernel
theorem dX10_pass_85 : decode cX10_pass 85 = .ok (.iload_n 1, 1) := by decide +kernel
theorem dX10_pass_86 : decode cX10_pass 86 = .ok (.iadd, 1) := by decide +kernel
theorem dX10_pass_87 : decode cX10_pass 87 = .ok (.iaload, 1) := by decide +kernel
theorem dX10_pass_88 : decode cX10_pass 88 = .ok (.bipush 20, 2) := by decide +kernel
theorem dX10_pass_90 : decode cX10_pass 90 = .ok (.if_icmp .lt 7, 3) := by decide +kernel
theorem dX10_pass_93 : decode cX10_pass 93 = .ok (.iconst 1, 1) := by decide +kernel
theorem dX10_pass_94 : decode cX10_pass 94 = .ok (.goto 4, 3) := by decide +kernel
theorem dX10_pass_97 : decode cX10_pass 97 = .ok (.iconst 0, 1) := by decide +kernel
theorem dX10_pass_98 : decode cX10_pass 98 = .ok (.istore_n 3, 1) := by decide +kernel
theorem dX10_pass_99 : decode cX10_pass 99 = .ok (.aload_n 0, 1) := by decide +kernel
theorem dX10_pass_100 : decode cX10_pass 100 = .ok (.getfield 22, 3) := by decide +kernel
theorem dX10_pass_103 : decode cX10_pass 103 = .ok (.bipush 25, 2) := by decide +kernel
theorem dX10_pass_105 : decode cX10_pass 105 = .ok (.iload_n 1, 1) := by decide +kernel
theorem dX10_pass_106 : decode cX10_pass 106 = .ok (.iadd, 1) := by decide +kernel
theorem dX10_pass_107 : decode cX10_pass 107 = .ok (.dup2, 1) := by decide +kernel
theorem dX10_pass_108 : decode cX10_pass 108 = .ok (.iaload, 1) := by decide +kernel
theorem dX10_pass_109 : decode cX10_pass 109 = .ok (.iload_n 3, 1) := by decide +kernel
theorem dX10_pass_110 : decode cX10_pass 110 = .ok (.ifCond .eq 21, 3) := by decide +kernel
theorem dX10_pass_113 : decode cX10_pass 113 = .ok (.aload_n 0, 1) := by decide +kernel
theorem dX10_pass_114 : decode cX10_pass 114 = .ok (.getfield 22, 3) := by decide +kernel
theorem dX10_pass_117 : decode cX10_pass 117 = .ok (.bipush 25, 2) := by decide +kernel
theorem dX10_pass_119 : decode cX10_pass 119 = .ok (.iload_n 1, 1) := by decide +kernel
theorem dX10_pass_120 : decode cX10_pass 120 = .ok (.iadd, 1) := by decide +kernel
theorem dX10_pass_121 : decode cX10_pass 121 = .ok (.iaload, 1) := by decide +kernel
theorem dX10_pass_122 : decode cX10_pass 122 = .ok (.ldc 231, 2) := by decide +kernel
theorem dX10_pass_124 : decode cX10_pass 124 = .ok (.if_icmp .ge 7, 3) := by decide +kernel
theorem dX10_pass_127 : decode cX10_pass 127 = .ok (.iconst 1, 1) := by decide +kernel
theorem dX10_pass_128 : decode cX10_pass 128 = .ok (.goto 4, 3) := by decide +kernel
theorem dX10_pass_131 : decode cX10_pass 131 = .ok (.iconst 0, 1) := by decide +kernel
theorem dX10_pass_132 : decode cX10_pass 132 = .ok (.iadd, 1) := by decide +kernel
theorem dX10_pass_133 : decode cX10_pass 133 = .ok (.iastore, 1) := by decide +kernel
theorem dX10_pass_134 : decode cX10_pass 134 = .ok (.iinc 1 1, 3) := by decide +kernel
theorem dX10_pass_137 : decode cX10_pass 137 = .ok (.goto (-135), 3) := by decide +kernel
theorem dX10_pass_140 : decode cX10_pass 140 = .ok (.aload_n 0, 1) := by decide +kernel
theorem dX10_pass_141 : decode cX10_pass 141 = .ok (.getfield 22, 3) := by decide +kernel
theorem dX10_pass_144 : decode cX10_pass 144 = .ok (.bipush 33, 2) := by decide +kernel
theorem dX10_pass_146 : decode cX10_pass 146 = .ok (.dup2, 1) := by decide +kernel
theorem dX10_pass_147 : decode cX10_pass 147 = .ok (.iaload, 1) := by decide +kernel
theorem dX10_pass_148 : decode cX10_pass 148 = .ok (.iconst 1, 1) := by decide +kernel
theorem dX10_pass_149 : decode cX10_pass 149 = .ok (.iadd, 1) := by decide +kernel
theorem dX10_pass_150 : decode cX10_pass 150 = .ok (.iastore, 1) := by decide +kernel
theorem dX10_pass_151 : decode cX10_pass 151 = .ok (.return_, 1) := by decide +kernel
theorem dX10_remember_0 : decode cX10_remember 0 = .ok (.aload_n 0, 1) := by decide +kernel
theorem dX10_remember_1 : decode cX10_remember 1 = .ok (.getfield 172, 3) := by decide +kernel
theorem dX10_remember_4 : decode cX10_remember 4 = .ok (.bipush 16, 2) := by decide +kernel
theorem dX10_remember_6 : decode cX10_remember 6 = .ok (.if_icmp .ne 44, 3) := by decide +kernel
theorem dX10_remember_9 : decode cX10_remember 9 = .ok (.bipush 36, 2) := by decide +kernel
theorem dX10_remember_11 : decode cX10_remember 11 = .ok (.istore_n 1, 1) := by decide +kernel
theorem dX10_remember_12 : decode cX10_remember 12 = .ok (.iload_n 1, 1) := by decide +kernel
theorem dX10_remember_13 : decode cX10_remember 13 = .ok (.sipush 576, 3) := by decide +kernel
theorem dX10_remember_16 : decode cX10_remember 16 = .ok (.if_icmp .ge 24, 3) := by decide +kernel
theorem dX10_remember_19 : decode cX10_remember 19 = .ok (.aload_n 0, 1) := by decide +kernel
theorem dX10_remember_20 : decode cX10_remember 20 = .ok (.getfield 44, 3) := by decide +kernel
theorem dX10_remember_23 : decode cX10_remember 23 = .ok (.iload_n 1, 1) := by decide +kernel
theorem dX10_remember_24 : decode cX10_remember 24 = .ok (.bipush 36, 2) := by decide +kernel
theorem dX10_remember_26 : decode cX10_remember 26 = .ok (.isub, 1) := by decide +kernel
theorem dX10_remember_27 : decode cX10_remember 27 = .ok (.aload_n 0, 1) := by decide +kernel
theorem dX10_remember_28 : decode cX10_remember 28 = .ok (.getfield 44, 3) := by decide +kernel
theorem dX10_remember_31 : decode cX10_remember 31 = .ok (.iload_n 1, 1) := by decide +kernel
theorem dX10_remember_32 : decode cX10_remember 32 = .ok (.iaload, 1) := by decide +kernel
theorem dX10_remember_33 : decode cX10_remember 33 = .ok (.iastore, 1) := by decide +kernel
theorem dX10_remember_34 : decode cX10_remember 34 = .ok (.iinc 1 1, 3) := by decide +kernel
theorem dX10_remember_37 : decode cX10_remember 37 = .ok (.goto (-25), 3) := by decide +kernel
theorem dX10_remember_40 : decode cX10_remember 40 = .ok (.aload_n 0, 1) := by decide +kernel
theorem dX10_remember_41 : decode cX10_remember 41 = .ok (.dup, 1) := by decide +kernel
theorem dX10_remember_42 : decode cX10_remember 42 = .ok (.getfield 172, 3) := by decide +kernel
theorem dX10_remember_45 : decode cX10_remember 45 = .ok (.iconst 1, 1) := by decide +kernel
theorem dX10_remember_46 : decode cX10_remember 46 = .ok (.isub, 1) := by decide +kernel
theorem dX10_remember_47 : decode cX10_remember 47 = .ok (.putfield 172, 3) := by decide +kernel
theorem dX10_remember_50 : decode cX10_remember 50 = .ok (.iconst 0, 1) := by decide +kernel
theorem dX10_remember_51 : decode cX10_remember 51 = .ok (.istore_n 1, 1) := by decide +kernel
theorem dX10_remember_52 : decode cX10_remember 52 = .ok (.iload_n 1, 1) := by decide +kernel
theorem dX10_remember_53 : decode cX10_remember 53 = .ok (.bipush 36, 2) := by decide +kernel
theorem dX10_remember_55 : decode cX10_remember 55 = .ok (.if_icmp .ge 29, 3) := by decide +kernel
theorem dX10_remember_58 : decode cX10_remember 58 = .ok (.aload_n 0, 1) := by decide +kernel
theorem dX10_remember_59 : decode cX10_remember 59 = .ok (.getfield 44, 3) := by decide +kernel
theorem dX10_remember_62 : decode cX10_remember 62 = .ok (.bipush 36, 2) := by decide +kernel
theorem dX10_remember_64 : decode cX10_remember 64 = .ok (.aload_n 0, 1) := by decide +kernel
theorem dX10_remember_65 : decode cX10_remember 65 = .ok (.getfield 172, 3) := by decide +kernel
theorem dX10_remember_68 : decode cX10_remember 68 = .ok (.imul, 1) := by decide +kernel
theorem dX10_remember_69 : decode cX10_remember 69 = .ok (.iload_n 1, 1) := by decide +kernel
theorem dX10_remember_70 : decode cX10_remember 70 = .ok (.iadd, 1) := by decide +kernel
theorem dX10_remember_71 : decode cX10_remember 71 = .ok (.aload_n 0, 1) := by decide +kernel
theorem dX10_remember_72 : decode cX10_remember 72 = .ok (.getfield 22, 3) := by decide +kernel
theorem dX10_remember_75 : decode cX10_remember 75 = .ok (.iload_n 1, 1) := by decide +kernel
theorem dX10_remember_76 : decode cX10_remember 76 = .ok (.iaload, 1) := by decide +kernel
theorem dX10_remember_77 : decode cX10_remember 77 = .ok (.iastore, 1) := by decide +kernel
theorem dX10_remember_78 : decode cX10_remember 78 = .ok (.iinc 1 1, 3) := by decide +kernel
theorem dX10_remember_81 : decode cX10_remember 81 = .ok (.goto (-29), 3) := by decide +kernel
theorem dX10_remember_84 : decode cX10_remember 84 = .ok (.aload_n 0, 1) := by decide +kernel
theorem dX10_remember_85 : decode cX10_remember 85 = .ok (.dup, 1) := by decide +kernel
theorem dX10_remember_86 : decode cX10_remember 86 = .ok (.getfield 172, 3) := by decide +kernel
theorem dX10_remember_89 : decode cX10_remember 89 = .ok (.iconst 1, 1) := by decide +kernel
theorem dX10_remember_90 : decode cX10_remember 90 = .ok (.iadd, 1) := by decide +kernel
theorem dX10_remember_91 : decode cX10_remember 91 = .ok (.putfield 172, 3) := by decide +kernel
theorem dX10_remember_94 : decode cX10_remember 94 = .ok (.return_, 1) := by decide +kernel
theorem dX10_layNow_0 : decode cX10_layNow 0 = .ok (.aload_n 0, 1) := by decide +kernel
theorem dX10_layNow_1 : decode cX10_layNow 1 = .ok (.getfield 22, 3) := by decide +kernel
theorem dX10_layNow_4 : decode cX10_layNow 4 = .ok (.bipush 8, 2) := by decide +kernel
theorem dX10_layNow_6 : decode cX10_layNow 6 = .ok (.iload_n 2, 1) := by decide +kernel
theorem dX10_layNow_7 : decode cX10_layNow 7 = .ok (.ifCond .eq 19, 3) := by decide +kernel
theorem dX10_layNow_10 : decode cX10_layNow 10 = .ok (.aload_n 0, 1) := by decide +kernel
theorem dX10_layNow_11 : decode cX10_layNow 11 = .ok (.getfield 22, 3) := by decide +kernel
theorem dX10_layNow_14 : decode cX10_layNow 14 = .ok (.bipush 8, 2) := by decide +kernel
theorem dX10_layNow_16 : decode cX10_layNow 16 = .ok (.iaload, 1) := by decide +kernel
theorem dX10_layNow_17 : decode cX10_layNow 17 = .ok (.iconst 1, 1) := by decide +kernel
theorem dX10_layNow_18 : decode cX10_layNow 18 = .ok (.iload_n 1, 1) := by decide +kernel
theorem dX10_layNow_19 : decode cX10_layNow 19 = .ok (.ishl, 1) := by decide +kernel
theorem dX10_layNow_20 : decode cX10_layNow 20 = .ok (.iconst (-1), 1) := by decide +kernel
theorem dX10_layNow_21 : decode cX10_layNow 21 = .ok (.ixor, 1) := by decide +kernel
theorem dX10_layNow_22 : decode cX10_layNow 22 = .ok (.iand, 1) := by decide +kernel
theorem dX10_layNow_23 : decode cX10_layNow 23 = .ok (.goto 14, 3) := by decide +kernel
theorem dX10_layNow_26 : decode cX10_layNow 26 = .ok (.aload_n 0, 1) := by decide +kernel
theorem dX10_layNow_27 : decode cX10_layNow 27 = .ok (.getfield 22, 3) := by decide +kernel
theorem dX10_layNow_30 : decode cX10_layNow 30 = .ok (.bipush 8, 2) := by decide +kernel
theorem dX10_layNow_32 : decode cX10_layNow 32 = .ok (.iaload, 1) := by decide +kernel
theorem dX10_layNow_33 : decode cX10_layNow 33 = .ok (.iconst 1, 1) := by decide +kernel
theorem dX10_layNow_34 : decode cX10_layNow 34 = .ok (.iload_n 1, 1) := by decide +kernel
theorem dX10_layNow_35 : decode cX10_layNow 35 = .ok (.ishl, 1) := by decide +kernel
theorem dX10_layNow_36 : decode cX10_layNow 36 = .ok (.ior, 1) := by decide +kernel
theorem dX10_layNow_37 : decode cX10_layNow 37 = .ok (.iastore, 1) := by decide +kernel
theorem dX10_layNow_38 : decode cX10_layNow 38 = .ok (.return_, 1) := by decide +kernel
theorem dX10_sendNow_0 : decode cX10_sendNow 0 = .ok (.aload_n 0, 1) := by decide +kernel
theorem dX10_sendNow_1 : decode cX10_sendNow 1 = .ok (.getfield 22, 3) := by decide +kernel
theorem dX10_sendNow_4 : decode cX10_sendNow 4 = .ok (.iload_n 1, 1) := by decide +kernel
theorem dX10_sendNow_5 : decode cX10_sendNow 5 = .ok (.iload_n 2, 1) := by decide +kernel
theorem dX10_sendNow_6 : decode cX10_sendNow 6 = .ok (.iastore, 1) := by decide +kernel
theorem dX10_sendNow_7 : decode cX10_sendNow 7 = .ok (.aload_n 0, 1) := by decide +kernel
theorem dX10_sendNow_8 : decode cX10_sendNow 8 = .ok (.iload_n 1, 1) := by decide +kernel
theorem dX10_sendNow_9 : decode cX10_sendNow 9 = .ok (.iconst 1, 1) := by decide +kernel
theorem dX10_sendNow_10 : decode cX10_sendNow 10 = .ok (.invokevirtual 232, 3) := by decide +kernel
theorem dX10_sendNow_13 : decode cX10_sendNow 13 = .ok (.return_, 1) := by decide +kernel
theorem dX10_post_0 : decode cX10_post 0 = .ok (.aload_n 0, 1) := by decide +kernel
theorem dX10_post_1 : decode cX10_post 1 = .ok (.iload_n 1, 1) := by decide +kernel
theorem dX10_post_2 : decode cX10_post 2 = .ok (.invokevirtual 215, 3) := by decide +kernel
theorem dX10_post_5 : decode cX10_post 5 = .ok (.ifCond .eq 11, 3) := by decide +kernel
theorem dX10_post_8 : decode cX10_post 8 = .ok (.aload_n 0, 1) := by decide +kernel
theorem dX10_post_9 : decode cX10_post 9 = .ok (.iload_n 2, 1) := by decide +kernel
theorem dX10_post_10 : decode cX10_post 10 = .ok (.invokevirtual 219, 3) := by decide +kernel
theorem dX10_post_13 : decode cX10_post 13 = .ok (.ifCond .ne 6, 3) := by decide +kernel
theorem dX10_post_16 : decode cX10_post 16 = .ok (.ldc 218, 2) := by decide +kernel
theorem dX10_post_18 : decode cX10_post 18 = .ok (.ireturn, 1) := by decide +kernel
theorem dX10_post_19 : decode cX10_post 19 = .ok (.aload_n 0, 1) := by decide +kernel
theorem dX10_post_20 : decode cX10_post 20 = .ok (.getfield 22, 3) := by decide +kernel
theorem dX10_post_23 : decode cX10_post 23 = .ok (.iload_n 1, 1) := by decide +kernel
theorem dX10_post_24 : decode cX10_post 24 = .ok (.iaload, 1) := by decide +kernel
theorem dX10_post_25 : decode cX10_post 25 = .ok (.iload_n 2, 1) := by decide +kernel
theorem dX10_post_26 : decode cX10_post 26 = .ok (.if_icmp .ne 6, 3) := by decide +kernel
theorem dX10_post_29 : decode cX10_post 29 = .ok (.ldc 236, 2) := by decide +kernel
theorem dX10_post_31 : decode cX10_post 31 = .ok (.ireturn, 1) := by decide +kernel
theorem dX10_post_32 : decode cX10_post 32 = .ok (.aload_n 0, 1) := by decide +kernel
theorem dX10_post_33 : decode cX10_post 33 = .ok (.invokevirtual 237, 3) := by decide +kernel
theorem dX10_post_36 : decode cX10_post 36 = .ok (.aload_n 0, 1) := by decide +kernel
theorem dX10_post_37 : decode cX10_post 37 = .ok (.getfield 22, 3) := by decide +kernel
theorem dX10_post_40 : decode cX10_post 40 = .ok (.iload_n 1, 1) := by decide +kernel
theorem dX10_post_41 : decode cX10_post 41 = .ok (.iaload, 1) := by decide +kernel
theorem dX10_post_42 : decode cX10_post 42 = .ok (.istore_n 3, 1) := by decide +kernel
theorem dX10_post_43 : decode cX10_post 43 = .ok (.aload_n 0, 1) := by decide +kernel
theorem dX10_post_44 : decode cX10_post 44 = .ok (.iload_n 1, 1) := by decide +kernel
theorem dX10_post_45 : decode cX10_post 45 = .ok (.iload_n 2, 1) := by decide +kernel
theorem dX10_post_46 : decode cX10_post 46 = .ok (.invokevirtual 240, 3) := by decide +kernel
theorem dX10_post_49 : decode cX10_post 49 = .ok (.iload_n 3, 1) := by decide +kernel
theorem dX10_post_50 : decode cX10_post 50 = .ok (.ireturn, 1) := by decide +kernel
theorem dX10_mixNow_0 : decode cX10_mixNow 0 = .ok (.aload_n 0, 1) := by decide +kernel
theorem dX10_mixNow_1 : decode cX10_mixNow 1 = .ok (.getfield 22, 3) := by decide +kernel
theorem dX10_mixNow_4 : decode cX10_mixNow 4 = .ok (.iload_n 1, 1) := by decide +kernel
theorem dX10_mixNow_5 : decode cX10_mixNow 5 = .ok (.iaload, 1) := by decide +kernel
theorem dX10_mixNow_6 : decode cX10_mixNow 6 = .ok (.istore_n 3, 1) := by decide +kernel
theorem dX10_mixNow_7 : decode cX10_mixNow 7 = .ok (.aload_n 0, 1) := by decide +kernel
theorem dX10_mixNow_8 : decode cX10_mixNow 8 = .ok (.iload_n 1, 1) := by decide +kernel
theorem dX10_mixNow_9 : decode cX10_mixNow 9 = .ok (.aload_n 0, 1) := by decide +kernel
theorem dX10_mixNow_10 : decode cX10_mixNow 10 = .ok (.getfield 22, 3) := by decide +kernel
theorem dX10_mixNow_13 : decode cX10_mixNow 13 = .ok (.iload_n 2, 1) := by decide +kernel
theorem dX10_mixNow_14 : decode cX10_mixNow 14 = .ok (.iaload, 1) := by decide +kernel
theorem dX10_mixNow_15 : decode cX10_mixNow 15 = .ok (.invokevirtual 240, 3) := by decide +kernel
theorem dX10_mixNow_18 : decode cX10_mixNow 18 = .ok (.aload_n 0, 1) := by decide +kernel
theorem dX10_mixNow_19 : decode cX10_mixNow 19 = .ok (.iload_n 2, 1) := by decide +kernel
theorem dX10_mixNow_20 : decode cX10_mixNow 20 = .ok (.iload_n 3, 1) := by decide +kernel
theorem dX10_mixNow_21 : decode cX10_mixNow 21 = .ok (.invokevirtual 240, 3) := by decide +kernel
theorem dX10_mixNow_24 : decode cX10_mixNow 24 = .ok (.return_, 1) := by decide +kernel
theorem dX10_mix_0 : decode cX10_mix 0 = .ok (.aload_n 0, 1) := by decide +kernel
theorem dX10_mix_1 : decode cX10_mix 1 = .ok (.iload_n 1, 1) := by decide +kernel
theorem dX10_mix_2 : decode cX10_mix 2 = .ok (.invokevirtual 215, 3) := by decide +kernel
theorem dX10_mix_5 : decode cX10_mix 5 = .ok (.ifCond .eq 16, 3) := by decide +kernel
theorem dX10_mix_8 : decode cX10_mix 8 = .ok (.aload_n 0, 1) := by decide +kernel
theorem dX10_mix_9 : decode cX10_mix 9 = .ok (.iload_n 2, 1) := by decide +kernel
theorem dX10_mix_10 : decode cX10_mix 10 = .ok (.invokevirtual 215, 3) := by decide +kernel
theorem dX10_mix_13 : decode cX10_mix 13 = .ok (.ifCond .eq 8, 3) := by decide +kernel
theorem dX10_mix_16 : decode cX10_mix 16 = .ok (.iload_n 1, 1) := by decide +kernel
theorem dX10_mix_17 : decode cX10_mix 17 = .ok (.iload_n 2, 1) := by decide +kernel
theorem dX10_mix_18 : decode cX10_mix 18 = .ok (.if_icmp .ne 6, 3) := by decide +kernel
theorem dX10_mix_21 : decode cX10_mix 21 = .ok (.ldc 218, 2) := by decide +kernel
theorem dX10_mix_23 : decode cX10_mix 23 = .ok (.ireturn, 1) := by decide +kernel
theorem dX10_mix_24 : decode cX10_mix 24 = .ok (.aload_n 0, 1) := by decide +kernel
theorem dX10_mix_25 : decode cX10_mix 25 = .ok (.invokevirtual 237, 3) := by decide +kernel
theorem dX10_mix_28 : decode cX10_mix 28 = .ok (.aload_n 0, 1) := by decide +kernel
theorem dX10_mix_29 : decode cX10_mix 29 = .ok (.iload_n 1, 1) := by decide +kernel
theorem dX10_mix_30 : decode cX10_mix 30 = .ok (.iload_n 2, 1) := by decide +kernel
theorem dX10_mix_31 : decode cX10_mix 31 = .ok (.invokevirtual 244, 3) := by decide +kernel
theorem dX10_mix_34 : decode cX10_mix 34 = .ok (.aload_n 0, 1) := by decide +kernel
theorem dX10_mix_35 : decode cX10_mix 35 = .ok (.getfield 22, 3) := by decide +kernel
theorem dX10_mix_38 : decode cX10_mix 38 = .ok (.iload_n 1, 1) := by decide +kernel
theorem dX10_mix_39 : decode cX10_mix 39 = .ok (.iaload, 1) := by decide +kernel
theorem dX10_mix_40 : decode cX10_mix 40 = .ok (.ireturn, 1) := by decide +kernel
theorem dX10_lay_0 : decode cX10_lay 0 = .ok (.aload_n 0, 1) := by decide +kernel
theorem dX10_lay_1 : decode cX10_lay 1 = .ok (.iload_n 1, 1) := by decide +kernel
theorem dX10_lay_2 : decode cX10_lay 2 = .ok (.invokevirtual 215, 3) := by decide +kernel
theorem dX10_lay_5 : decode cX10_lay 5 = .ok (.ifCond .ne 6, 3) := by decide +kernel
theorem dX10_lay_8 : decode cX10_lay 8 = .ok (.ldc 218, 2) := by decide +kernel
theorem dX10_lay_10 : decode cX10_lay 10 = .ok (.ireturn, 1) := by decide +kernel
theorem dX10_lay_11 : decode cX10_lay 11 = .ok (.aload_n 0, 1) := by decide +kernel
theorem dX10_lay_12 : decode cX10_lay 12 = .ok (.invokevirtual 237, 3) := by decide +kernel
theorem dX10_lay_15 : decode cX10_lay 15 = .ok (.aload_n 0, 1) := by decide +kernel
theorem dX10_lay_16 : decode cX10_lay 16 = .ok (.getfield 22, 3) := by decide +kernel
theorem dX10_lay_19 : decode cX10_lay 19 = .ok (.bipush 8, 2) := by decide +kernel
theorem dX10_lay_21 : decode cX10_lay 21 = .ok (.iaload, 1) := by decide +kernel
theorem dX10_lay_22 : decode cX10_lay 22 = .ok (.iload_n 1, 1) := by decide +kernel
theorem dX10_lay_23 : decode cX10_lay 23 = .ok (.invokestatic 175, 3) := by decide +kernel
theorem dX10_lay_26 : decode cX10_lay 26 = .ok (.ifCond .eq 7, 3) := by decide +kernel
theorem dX10_lay_29 : decode cX10_lay 29 = .ok (.iconst 0, 1) := by decide +kernel
theorem dX10_lay_30 : decode cX10_lay 30 = .ok (.goto 4, 3) := by decide +kernel
theorem dX10_lay_33 : decode cX10_lay 33 = .ok (.iconst 1, 1) := by decide +kernel
theorem dX10_lay_34 : decode cX10_lay 34 = .ok (.istore_n 3, 1) := by decide +kernel
theorem dX10_lay_35 : decode cX10_lay 35 = .ok (.aload_n 0, 1) := by decide +kernel
theorem dX10_lay_36 : decode cX10_lay 36 = .ok (.iload_n 1, 1) := by decide +kernel
theorem dX10_lay_37 : decode cX10_lay 37 = .ok (.iload_n 2, 1) := by decide +kernel
theorem dX10_lay_38 : decode cX10_lay 38 = .ok (.invokevirtual 232, 3) := by decide +kernel
theorem dX10_lay_41 : decode cX10_lay 41 = .ok (.iload_n 3, 1) := by decide +kernel
theorem dX10_lay_42 : decode cX10_lay 42 = .ok (.ireturn, 1) := by decide +kernel
theorem dX10_mask_0 : decode cX10_mask 0 = .ok (.aload_n 0, 1) := by decide +kernel
theorem dX10_mask_1 : decode cX10_mask 1 = .ok (.iload_n 1, 1) := by decide +kernel
theorem dX10_mask_2 : decode cX10_mask 2 = .ok (.invokevirtual 215, 3) := by decide +kernel
theorem dX10_mask_5 : decode cX10_mask 5 = .ok (.ifCond .ne 6, 3) := by decide +kernel
theorem dX10_mask_8 : decode cX10_mask 8 = .ok (.ldc 218, 2) := by decide +kernel
theorem dX10_mask_10 : decode cX10_mask 10 = .ok (.ireturn, 1) := by decide +kernel
theorem dX10_mask_11 : decode cX10_mask 11 = .ok (.iload_n 2, 1) := by decide +kernel
theorem dX10_mask_12 : decode cX10_mask 12 = .ok (.i2l, 1) := by decide +kernel
theorem dX10_mask_13 : decode cX10_mask 13 = .ok (.lconst 0, 1) := by decide +kernel
theorem dX10_mask_14 : decode cX10_mask 14 = .ok (.ldc2_w 247, 3) := by decide +kernel
theorem dX10_mask_17 : decode cX10_mask 17 = .ok (.invokestatic 75, 3) := by decide +kernel
theorem dX10_mask_20 : decode cX10_mask 20 = .ok (.ifCond .ne 6, 3) := by decide +kernel
theorem dX10_mask_23 : decode cX10_mask 23 = .ok (.ldc 84, 2) := by decide +kernel
theorem dX10_mask_25 : decode cX10_mask 25 = .ok (.ireturn, 1) := by decide +kernel
theorem dX10_mask_26 : decode cX10_mask 26 = .ok (.aload_n 0, 1) := by decide +kernel
theorem dX10_mask_27 : decode cX10_mask 27 = .ok (.invokevirtual 237, 3) := by decide +kernel
theorem dX10_mask_30 : decode cX10_mask 30 = .ok (.aload_n 0, 1) := by decide +kernel
theorem dX10_mask_31 : decode cX10_mask 31 = .ok (.getfield 22, 3) := by decide +kernel
theorem dX10_mask_34 : decode cX10_mask 34 = .ok (.bipush 17, 2) := by decide +kernel
theorem dX10_mask_36 : decode cX10_mask 36 = .ok (.iload_n 1, 1) := by decide +kernel
theorem dX10_mask_37 : decode cX10_mask 37 = .ok (.iadd, 1) := by decide +kernel
theorem dX10_mask_38 : decode cX10_mask 38 = .ok (.iaload, 1) := by decide +kernel
theorem dX10_mask_39 : decode cX10_mask 39 = .ok (.istore_n 3, 1) := by decide +kernel
theorem dX10_mask_40 : decode cX10_mask 40 = .ok (.aload_n 0, 1) := by decide +kernel
theorem dX10_mask_41 : decode cX10_mask 41 = .ok (.getfield 22, 3) := by decide +kernel
theorem dX10_mask_44 : decode cX10_mask 44 = .ok (.bipush 17, 2) := by decide +kernel
theorem dX10_mask_46 : decode cX10_mask 46 = .ok (.iload_n 1, 1) := by decide +kernel
theorem dX10_mask_47 : decode cX10_mask 47 = .ok (.iadd, 1) := by decide +kernel
theorem dX10_mask_48 : decode cX10_mask 48 = .ok (.iload_n 2, 1) := by decide +kernel
theorem dX10_mask_49 : decode cX10_mask 49 = .ok (.iastore, 1) := by decide +kernel
theorem dX10_mask_50 : decode cX10_mask 50 = .ok (.iload_n 3, 1) := by decide +kernel
theorem dX10_mask_51 : decode cX10_mask 51 = .ok (.ireturn, 1) := by decide +kernel
theorem dX10_audienceNow_0 : decode cX10_audienceNow 0 = .ok (.aload_n 0, 1) := by decide +kernel
theorem dX10_audienceNow_1 : decode cX10_audienceNow 1 = .ok (.aload_n 0, 1) := by decide +kernel
theorem dX10_audienceNow_2 : decode cX10_audienceNow 2 = .ok (.invokevirtual 203, 3) := by decide +kernel
theorem dX10_audienceNow_5 : decode cX10_audienceNow 5 = .ok (.invokevirtual 185, 3) := by decide +kernel
theorem dX10_audienceNow_8 : decode cX10_audienceNow 8 = .ok (.ifCond .eq 7, 3) := by decide +kernel
theorem dX10_audienceNow_11 : decode cX10_audienceNow 11 = .ok (.iconst 1, 1) := by decide +kernel
theorem dX10_audienceNow_12 : decode cX10_audienceNow 12 = .ok (.goto 4, 3) := by decide +kernel
theorem dX10_audienceNow_15 : decode cX10_audienceNow 15 = .ok (.iconst 0, 1) := by decide +kernel
theorem dX10_audienceNow_16 : decode cX10_audienceNow 16 = .ok (.istore_n 1, 1) := by decide +kernel
theorem dX10_audienceNow_17 : decode cX10_audienceNow 17 = .ok (.aload_n 0, 1) := by decide +kernel
theorem dX10_audienceNow_18 : decode cX10_audienceNow 18 = .ok (.getfield 22, 3) := by decide +kernel
theorem dX10_audienceNow_21 : decode cX10_audienceNow 21 = .ok (.bipush 34, 2) := by decide +kernel
theorem dX10_audienceNow_23 : decode cX10_audienceNow 23 = .ok (.dup2, 1) := by decide +kernel
theorem dX10_audienceNow_24 : decode cX10_audienceNow 24 = .ok (.iaload, 1) := by decide +kernel
theorem dX10_audienceNow_25 : decode cX10_audienceNow 25 = .ok (.iconst 1, 1) := by decide +kernel
theorem dX10_audienceNow_26 : decode cX10_audienceNow 26 = .ok (.iadd, 1) := by decide +kernel
theorem dX10_audienceNow_27 : decode cX10_audienceNow 27 = .ok (.iastore, 1) := by decide +kernel
theorem dX10_audienceNow_28 : decode cX10_audienceNow 28 = .ok (.aload_n 0, 1) := by decide +kernel
theorem dX10_audienceNow_29 : decode cX10_audienceNow 29 = .ok (.getfield 22, 3) := by decide +kernel
theorem dX10_audienceNow_32 : decode cX10_audienceNow 32 = .ok (.bipush 35, 2) := by decide +kernel
theorem dX10_audienceNow_34 : decode cX10_audienceNow 34 = .ok (.dup2, 1) := by decide +kernel
theorem dX10_audienceNow_35 : decode cX10_audienceNow 35 = .ok (.iaload, 1) := by decide +kernel
theorem dX10_audienceNow_36 : decode cX10_audienceNow 36 = .ok (.iload_n 1, 1) := by decide +kernel
theorem dX10_audienceNow_37 : decode cX10_audienceNow 37 = .ok (.iadd, 1) := by decide +kernel
theorem dX10_audienceNow_38 : decode cX10_audienceNow 38 = .ok (.iastore, 1) := by decide +kernel
theorem dX10_audienceNow_39 : decode cX10_audienceNow 39 = .ok (.iload_n 1, 1) := by decide +kernel
theorem dX10_audienceNow_40 : decode cX10_audienceNow 40 = .ok (.ireturn, 1) := by decide +kernel
theorem dX10_audience_0 : decode cX10_audience 0 = .ok (.aload_n 0, 1) := by decide +kernel
theorem dX10_audience_1 : decode cX10_audience 1 = .ok (.getfield 72, 3) := by decide +kernel
theorem dX10_audience_4 : decode cX10_audience 4 = .ok (.ifCond .ne 6, 3) := by decide +kernel
theorem dX10_audience_7 : decode cX10_audience 7 = .ok (.ldc 236, 2) := by decide +kernel
theorem dX10_audience_9 : decode cX10_audience 9 = .ok (.ireturn, 1) := by decide +kernel
theorem dX10_audience_10 : decode cX10_audience 10 = .ok (.aload_n 0, 1) := by decide +kernel
theorem dX10_audience_11 : decode cX10_audience 11 = .ok (.invokevirtual 237, 3) := by decide +kernel
theorem dX10_audience_14 : decode cX10_audience 14 = .ok (.aload_n 0, 1) := by decide +kernel
theorem dX10_audience_15 : decode cX10_audience 15 = .ok (.invokevirtual 249, 3) := by decide +kernel
theorem dX10_audience_18 : decode cX10_audience 18 = .ok (.ireturn, 1) := by decide +kernel
theorem dX10_yearsRefused_0 : decode cX10_yearsRefused 0 = .ok (.iload_n 1, 1) := by decide +kernel
theorem dX10_yearsRefused_1 : decode cX10_yearsRefused 1 = .ok (.i2l, 1) := by decide +kernel
theorem dX10_yearsRefused_2 : decode cX10_yearsRefused 2 = .ok (.lconst 1, 1) := by decide +kernel
theorem dX10_yearsRefused_3 : decode cX10_yearsRefused 3 = .ok (.ldc2_w 252, 3) := by decide +kernel
theorem dX10_yearsRefused_6 : decode cX10_yearsRefused 6 = .ok (.invokestatic 75, 3) := by decide +kernel
theorem dX10_yearsRefused_9 : decode cX10_yearsRefused 9 = .ok (.ifCond .ne 6, 3) := by decide +kernel
theorem dX10_yearsRefused_12 : decode cX10_yearsRefused 12 = .ok (.ldc 84, 2) := by decide +kernel
theorem dX10_yearsRefused_14 : decode cX10_yearsRefused 14 = .ok (.ireturn, 1) := by decide +kernel
theorem dX10_yearsRefused_15 : decode cX10_yearsRefused 15 = .ok (.aload_n 0, 1) := by decide +kernel
theorem dX10_yearsRefused_16 : decode cX10_yearsRefused 16 = .ok (.getfield 72, 3) := by decide +kernel
theorem dX10_yearsRefused_19 : decode cX10_yearsRefused 19 = .ok (.ifCond .ne 8, 3) := by decide +kernel
theorem dX10_yearsRefused_22 : decode cX10_yearsRefused 22 = .ok (.ldc 236, 2) := by decide +kernel
theorem dX10_yearsRefused_24 : decode cX10_yearsRefused 24 = .ok (.goto 22, 3) := by decide +kernel
theorem dX10_yearsRefused_27 : decode cX10_yearsRefused 27 = .ok (.aload_n 0, 1) := by decide +kernel
theorem dX10_yearsRefused_28 : decode cX10_yearsRefused 28 = .ok (.getfield 22, 3) := by decide +kernel
theorem dX10_yearsRefused_31 : decode cX10_yearsRefused 31 = .ok (.bipush 33, 2) := by decide +kernel
theorem dX10_yearsRefused_33 : decode cX10_yearsRefused 33 = .ok (.iaload, 1) := by decide +kernel
theorem dX10_yearsRefused_34 : decode cX10_yearsRefused 34 = .ok (.sipush 9000, 3) := by decide +kernel
theorem dX10_yearsRefused_37 : decode cX10_yearsRefused 37 = .ok (.if_icmp .le 8, 3) := by decide +kernel
theorem dX10_yearsRefused_40 : decode cX10_yearsRefused 40 = .ok (.ldc 88, 2) := by decide +kernel
theorem dX10_yearsRefused_42 : decode cX10_yearsRefused 42 = .ok (.goto 4, 3) := by decide +kernel
theorem dX10_yearsRefused_45 : decode cX10_yearsRefused 45 = .ok (.iconst 0, 1) := by decide +kernel
theorem dX10_yearsRefused_46 : decode cX10_yearsRefused 46 = .ok (.ireturn, 1) := by decide +kernel
theorem dX10_year_0 : decode cX10_year 0 = .ok (.aload_n 0, 1) := by decide +kernel
theorem dX10_year_1 : decode cX10_year 1 = .ok (.iload_n 1, 1) := by decide +kernel
theorem dX10_year_2 : decode cX10_year 2 = .ok (.invokevirtual 254, 3) := by decide +kernel
theorem dX10_year_5 : decode cX10_year 5 = .ok (.istore_n 2, 1) := by decide +kernel
theorem dX10_year_6 : decode cX10_year 6 = .ok (.iload_n 2, 1) := by decide +kernel
theorem dX10_year_7 : decode cX10_year 7 = .ok (.ifCond .eq 5, 3) := by decide +kernel
theorem dX10_year_10 : decode cX10_year 10 = .ok (.iload_n 2, 1) := by decide +kernel
theorem dX10_year_11 : decode cX10_year 11 = .ok (.ireturn, 1) := by decide +kernel
theorem dX10_year_12 : decode cX10_year 12 = .ok (.aload_n 0, 1) := by decide +kernel
theorem dX10_year_13 : decode cX10_year 13 = .ok (.invokevirtual 237, 3) := by decide +kernel
theorem dX10_year_16 : decode cX10_year 16 = .ok (.iconst 0, 1) := by decide +kernel
theorem dX10_year_17 : decode cX10_year 17 = .ok (.istore_n 3, 1) := by decide +kernel
theorem dX10_year_18 : decode cX10_year 18 = .ok (.iload_n 3, 1) := by decide +kernel
theorem dX10_year_19 : decode cX10_year 19 = .ok (.iload_n 1, 1) := by decide +kernel
theorem dX10_year_20 : decode cX10_year 20 = .ok (.if_icmp .ge 13, 3) := by decide +kernel
theorem dX10_year_23 : decode cX10_year 23 = .ok (.aload_n 0, 1) := by decide +kernel
theorem dX10_year_24 : decode cX10_year 24 = .ok (.invokevirtual 257, 3) := by decide +kernel
theorem dX10_year_27 : decode cX10_year 27 = .ok (.iinc 3 1, 3) := by decide +kernel
theorem dX10_year_30 : decode cX10_year 30 = .ok (.goto (-12), 3) := by decide +kernel
theorem dX10_year_33 : decode cX10_year 33 = .ok (.aload_n 0, 1) := by decide +kernel
theorem dX10_year_34 : decode cX10_year 34 = .ok (.getfield 22, 3) := by decide +kernel
theorem dX10_year_37 : decode cX10_year 37 = .ok (.bipush 33, 2) := by decide +kernel
theorem dX10_year_39 : decode cX10_year 39 = .ok (.iaload, 1) := by decide +kernel
theorem dX10_year_40 : decode cX10_year 40 = .ok (.ireturn, 1) := by decide +kernel
theorem dX10_draw_0 : decode cX10_draw 0 = .ok (.aload_n 0, 1) := by decide +kernel
theorem dX10_draw_1 : decode cX10_draw 1 = .ok (.aload_n 0, 1) := by decide +kernel
theorem dX10_draw_2 : decode cX10_draw 2 = .ok (.getfield 260, 3) := by decide +kernel
theorem dX10_draw_5 : decode cX10_draw 5 = .ok (.i2l, 1) := by decide +kernel
theorem dX10_draw_6 : decode cX10_draw 6 = .ok (.ldc2_w 263, 3) := by decide +kernel
theorem dX10_draw_9 : decode cX10_draw 9 = .ok (.lmul, 1) := by decide +kernel
theorem dX10_draw_10 : decode cX10_draw 10 = .ok (.ldc2_w 265, 3) := by decide +kernel
theorem dX10_draw_13 : decode cX10_draw 13 = .ok (.ladd, 1) := by decide +kernel
theorem dX10_draw_14 : decode cX10_draw 14 = .ok (.ldc2_w 267, 3) := by decide +kernel
theorem dX10_draw_17 : decode cX10_draw 17 = .ok (.lrem, 1) := by decide +kernel
theorem dX10_draw_18 : decode cX10_draw 18 = .ok (.l2i, 1) := by decide +kernel
theorem dX10_draw_19 : decode cX10_draw 19 = .ok (.putfield 260, 3) := by decide +kernel
theorem dX10_draw_22 : decode cX10_draw 22 = .ok (.aload_n 0, 1) := by decide +kernel
theorem dX10_draw_23 : decode cX10_draw 23 = .ok (.getfield 260, 3) := by decide +kernel
theorem dX10_draw_26 : decode cX10_draw 26 = .ok (.ldc_w 269, 3) := by decide +kernel
theorem dX10_draw_29 : decode cX10_draw 29 = .ok (.idiv, 1) := by decide +kernel
theorem dX10_draw_30 : decode cX10_draw 30 = .ok (.iload_n 1, 1) := by decide +kernel
theorem dX10_draw_31 : decode cX10_draw 31 = .ok (.irem, 1) := by decide +kernel
theorem dX10_draw_32 : decode cX10_draw 32 = .ok (.ireturn, 1) := by decide +kernel
theorem dX10_chance_0 : decode cX10_chance 0 = .ok (.aload_n 0, 1) := by decide +kernel
theorem dX10_chance_1 : decode cX10_chance 1 = .ok (.iconst 5, 1) := by decide +kernel
theorem dX10_chance_2 : decode cX10_chance 2 = .ok (.invokevirtual 270, 3) := by decide +kernel
theorem dX10_chance_5 : decode cX10_chance 5 = .ok (.istore_n 1, 1) := by decide +kernel
theorem dX10_chance_6 : decode cX10_chance 6 = .ok (.aload_n 0, 1) := by decide +kernel
theorem dX10_chance_7 : decode cX10_chance 7 = .ok (.aload_n 0, 1) := by decide +kernel
theorem dX10_chance_8 : decode cX10_chance 8 = .ok (.getfield 79, 3) := by decide +kernel
theorem dX10_chance_11 : decode cX10_chance 11 = .ok (.invokevirtual 270, 3) := by decide +kernel
theorem dX10_chance_14 : decode cX10_chance 14 = .ok (.istore_n 2, 1) := by decide +kernel
theorem dX10_chance_15 : decode cX10_chance 15 = .ok (.iload_n 1, 1) := by decide +kernel
theorem dX10_chance_16 : decode cX10_chance 16 = .ok (.ifCond .ne 31, 3) := by decide +kernel
theorem dX10_chance_19 : decode cX10_chance 19 = .ok (.aload_n 0, 1) := by decide +kernel
theorem dX10_chance_20 : decode cX10_chance 20 = .ok (.aload_n 0, 1) := by decide +kernel
theorem dX10_chance_21 : decode cX10_chance 21 = .ok (.getfield 72, 3) := by decide +kernel
theorem dX10_chance_24 : decode cX10_chance 24 = .ok (.invokevirtual 270, 3) := by decide +kernel
theorem dX10_chance_27 : decode cX10_chance 27 = .ok (.istore_n 3, 1) := by decide +kernel
theorem dX10_chance_28 : decode cX10_chance 28 = .ok (.aload_n 0, 1) := by decide +kernel
theorem dX10_chance_29 : decode cX10_chance 29 = .ok (.getfield 22, 3) := by decide +kernel
theorem dX10_chance_32 : decode cX10_chance 32 = .ok (.iload_n 2, 1) := by decide +kernel
theorem dX10_chance_33 : decode cX10_chance 33 = .ok (.iaload, 1) := by decide +kernel
theorem dX10_chance_34 : decode cX10_chance 34 = .ok (.iload_n 3, 1) := by decide +kernel
theorem dX10_chance_35 : decode cX10_chance 35 = .ok (.if_icmp .eq 9, 3) := by decide +kernel
theorem dX10_chance_38 : decode cX10_chance 38 = .ok (.aload_n 0, 1) := by decide +kernel
theorem dX10_chance_39 : decode cX10_chance 39 = .ok (.iload_n 2, 1) := by decide +kernel
theorem dX10_chance_40 : decode cX10_chance 40 = .ok (.iload_n 3, 1) := by decide +kernel
theorem dX10_chance_41 : decode cX10_chance 41 = .ok (.invokevirtual 240, 3) := by decide +kernel
theorem dX10_chance_44 : decode cX10_chance 44 = .ok (.goto 59, 3) := by decide +kernel
theorem dX10_chance_47 : decode cX10_chance 47 = .ok (.iload_n 1, 1) := by decide +kernel
theorem dX10_chance_48 : decode cX10_chance 48 = .ok (.iconst 1, 1) := by decide +kernel
theorem dX10_chance_49 : decode cX10_chance 49 = .ok (.if_icmp .ne 26, 3) := by decide +kernel
theorem dX10_chance_52 : decode cX10_chance 52 = .ok (.aload_n 0, 1) := by decide +kernel
theorem dX10_chance_53 : decode cX10_chance 53 = .ok (.aload_n 0, 1) := by decide +kernel
theorem dX10_chance_54 : decode cX10_chance 54 = .ok (.getfield 79, 3) := by decide +kernel
theorem dX10_chance_57 : decode cX10_chance 57 = .ok (.invokevirtual 270, 3) := by decide +kernel
theorem dX10_chance_60 : decode cX10_chance 60 = .ok (.istore_n 3, 1) := by decide +kernel
theorem dX10_chance_61 : decode cX10_chance 61 = .ok (.iload_n 2, 1) := by decide +kernel
theorem dX10_chance_62 : decode cX10_chance 62 = .ok (.iload_n 3, 1) := by decide +kernel
theorem dX10_chance_63 : decode cX10_chance 63 = .ok (.if_icmp .eq 9, 3) := by decide +kernel
theorem dX10_chance_66 : decode cX10_chance 66 = .ok (.aload_n 0, 1) := by decide +kernel
theorem dX10_chance_67 : decode cX10_chance 67 = .ok (.iload_n 2, 1) := by decide +kernel
theorem dX10_chance_68 : decode cX10_chance 68 = .ok (.iload_n 3, 1) := by decide +kernel
theorem dX10_chance_69 : decode cX10_chance 69 = .ok (.invokevirtual 244, 3) := by decide +kernel
theorem dX10_chance_72 : decode cX10_chance 72 = .ok (.goto 31, 3) := by decide +kernel
theorem dX10_chance_75 : decode cX10_chance 75 = .ok (.iload_n 1, 1) := by decide +kernel
theorem dX10_chance_76 : decode cX10_chance 76 = .ok (.iconst 4, 1) := by decide +kernel
theorem dX10_chance_77 : decode cX10_chance 77 = .ok (.if_icmp .ne 11, 3) := by decide +kernel
theorem dX10_chance_80 : decode cX10_chance 80 = .ok (.aload_n 0, 1) := by decide +kernel
theorem dX10_chance_81 : decode cX10_chance 81 = .ok (.invokevirtual 249, 3) := by decide +kernel
theorem dX10_chance_84 : decode cX10_chance 84 = .ok (.istore_n 3, 1) := by decide +kernel
theorem dX10_chance_85 : decode cX10_chance 85 = .ok (.goto 18, 3) := by decide +kernel
theorem dX10_chance_88 : decode cX10_chance 88 = .ok (.aload_n 0, 1) := by decide +kernel
theorem dX10_chance_89 : decode cX10_chance 89 = .ok (.iload_n 2, 1) := by decide +kernel
theorem dX10_chance_90 : decode cX10_chance 90 = .ok (.iload_n 1, 1) := by decide +kernel
theorem dX10_chance_91 : decode cX10_chance 91 = .ok (.iconst 3, 1) := by decide +kernel
theorem dX10_chance_92 : decode cX10_chance 92 = .ok (.if_icmp .ne 7, 3) := by decide +kernel
theorem dX10_chance_95 : decode cX10_chance 95 = .ok (.iconst 1, 1) := by decide +kernel
theorem dX10_chance_96 : decode cX10_chance 96 = .ok (.goto 4, 3) := by decide +kernel
theorem dX10_chance_99 : decode cX10_chance 99 = .ok (.iconst 0, 1) := by decide +kernel
theorem dX10_chance_100 : decode cX10_chance 100 = .ok (.invokevirtual 232, 3) := by decide +kernel
theorem dX10_chance_103 : decode cX10_chance 103 = .ok (.return_, 1) := by decide +kernel
theorem dX10_drift_0 : decode cX10_drift 0 = .ok (.aload_n 0, 1) := by decide +kernel
theorem dX10_drift_1 : decode cX10_drift 1 = .ok (.iload_n 1, 1) := by decide +kernel
theorem dX10_drift_2 : decode cX10_drift 2 = .ok (.invokevirtual 254, 3) := by decide +kernel
theorem dX10_drift_5 : decode cX10_drift 5 = .ok (.istore_n 2, 1) := by decide +kernel
theorem dX10_drift_6 : decode cX10_drift 6 = .ok (.iload_n 2, 1) := by decide +kernel
theorem dX10_drift_7 : decode cX10_drift 7 = .ok (.ifCond .eq 5, 3) := by decide +kernel
theorem dX10_drift_10 : decode cX10_drift 10 = .ok (.iload_n 2, 1) := by decide +kernel
theorem dX10_drift_11 : decode cX10_drift 11 = .ok (.ireturn, 1) := by decide +kernel
theorem dX10_drift_12 : decode cX10_drift 12 = .ok (.aload_n 0, 1) := by decide +kernel
theorem dX10_drift_13 : decode cX10_drift 13 = .ok (.invokevirtual 237, 3) := by decide +kernel
theorem dX10_drift_16 : decode cX10_drift 16 = .ok (.iconst 0, 1) := by decide +kernel
theorem dX10_drift_17 : decode cX10_drift 17 = .ok (.istore_n 3, 1) := by decide +kernel
theorem dX10_drift_18 : decode cX10_drift 18 = .ok (.iload_n 3, 1) := by decide +kernel
theorem dX10_drift_19 : decode cX10_drift 19 = .ok (.iload_n 1, 1) := by decide +kernel
theorem dX10_drift_20 : decode cX10_drift 20 = .ok (.if_icmp .ge 24, 3) := by decide +kernel
theorem dX10_drift_23 : decode cX10_drift 23 = .ok (.aload_n 0, 1) := by decide +kernel
theorem dX10_drift_24 : decode cX10_drift 24 = .ok (.getfield 79, 3) := by decide +kernel
theorem dX10_drift_27 : decode cX10_drift 27 = .ok (.ifCond .le 7, 3) := by decide +kernel
theorem dX10_drift_30 : decode cX10_drift 30 = .ok (.aload_n 0, 1) := by decide +kernel
theorem dX10_drift_31 : decode cX10_drift 31 = .ok (.invokevirtual 273, 3) := by decide +kernel
theorem dX10_drift_34 : decode cX10_drift 34 = .ok (.aload_n 0, 1) := by decide +kernel
theorem dX10_drift_35 : decode cX10_drift 35 = .ok (.invokevirtual 257, 3) := by decide +kernel
theorem dX10_drift_38 : decode cX10_drift 38 = .ok (.iinc 3 1, 3) := by decide +kernel
theorem dX10_drift_41 : decode cX10_drift 41 = .ok (.goto (-23), 3) := by decide +kernel
theorem dX10_drift_44 : decode cX10_drift 44 = .ok (.aload_n 0, 1) := by decide +kernel
theorem dX10_drift_45 : decode cX10_drift 45 = .ok (.getfield 22, 3) := by decide +kernel
theorem dX10_drift_48 : decode cX10_drift 48 = .ok (.bipush 33, 2) := by decide +kernel
theorem dX10_drift_50 : decode cX10_drift 50 = .ok (.iaload, 1) := by decide +kernel
theorem dX10_drift_51 : decode cX10_drift 51 = .ok (.ireturn, 1) := by decide +kernel
theorem dX10_undo_0 : decode cX10_undo 0 = .ok (.aload_n 0, 1) := by decide +kernel
theorem dX10_undo_1 : decode cX10_undo 1 = .ok (.getfield 172, 3) := by decide +kernel
theorem dX10_undo_4 : decode cX10_undo 4 = .ok (.ifCond .ne 6, 3) := by decide +kernel
theorem dX10_undo_7 : decode cX10_undo 7 = .ok (.ldc 236, 2) := by decide +kernel
theorem dX10_undo_9 : decode cX10_undo 9 = .ok (.ireturn, 1) := by decide +kernel
theorem dX10_undo_10 : decode cX10_undo 10 = .ok (.aload_n 0, 1) := by decide +kernel
theorem dX10_undo_11 : decode cX10_undo 11 = .ok (.dup, 1) := by decide +kernel
theorem dX10_undo_12 : decode cX10_undo 12 = .ok (.getfield 172, 3) := by decide +kernel
theorem dX10_undo_15 : decode cX10_undo 15 = .ok (.iconst 1, 1) := by decide +kernel
theorem dX10_undo_16 : decode cX10_undo 16 = .ok (.isub, 1) := by decide +kernel
theorem dX10_undo_17 : decode cX10_undo 17 = .ok (.putfield 172, 3) := by decide +kernel
theorem dX10_undo_20 : decode cX10_undo 20 = .ok (.iconst 0, 1) := by decide +kernel
theorem dX10_undo_21 : decode cX10_undo 21 = .ok (.istore_n 1, 1) := by decide +kernel
theorem dX10_undo_22 : decode cX10_undo 22 = .ok (.iload_n 1, 1) := by decide +kernel
theorem dX10_undo_23 : decode cX10_undo 23 = .ok (.bipush 36, 2) := by decide +kernel
theorem dX10_undo_25 : decode cX10_undo 25 = .ok (.if_icmp .ge 29, 3) := by decide +kernel
theorem dX10_undo_28 : decode cX10_undo 28 = .ok (.aload_n 0, 1) := by decide +kernel
theorem dX10_undo_29 : decode cX10_undo 29 = .ok (.getfield 22, 3) := by decide +kernel
theorem dX10_undo_32 : decode cX10_undo 32 = .ok (.iload_n 1, 1) := by decide +kernel
theorem dX10_undo_33 : decode cX10_undo 33 = .ok (.aload_n 0, 1) := by decide +kernel
theorem dX10_undo_34 : decode cX10_undo 34 = .ok (.getfield 44, 3) := by decide +kernel
theorem dX10_undo_37 : decode cX10_undo 37 = .ok (.bipush 36, 2) := by decide +kernel
theorem dX10_undo_39 : decode cX10_undo 39 = .ok (.aload_n 0, 1) := by decide +kernel
theorem dX10_undo_40 : decode cX10_undo 40 = .ok (.getfield 172, 3) := by decide +kernel
theorem dX10_undo_43 : decode cX10_undo 43 = .ok (.imul, 1) := by decide +kernel
theorem dX10_undo_44 : decode cX10_undo 44 = .ok (.iload_n 1, 1) := by decide +kernel
theorem dX10_undo_45 : decode cX10_undo 45 = .ok (.iadd, 1) := by decide +kernel
theorem dX10_undo_46 : decode cX10_undo 46 = .ok (.iaload, 1) := by decide +kernel
theorem dX10_undo_47 : decode cX10_undo 47 = .ok (.iastore, 1) := by decide +kernel
theorem dX10_undo_48 : decode cX10_undo 48 = .ok (.iinc 1 1, 3) := by decide +kernel
theorem dX10_undo_51 : decode cX10_undo 51 = .ok (.goto (-29), 3) := by decide +kernel
theorem dX10_undo_54 : decode cX10_undo 54 = .ok (.aload_n 0, 1) := by decide +kernel
theorem dX10_undo_55 : decode cX10_undo 55 = .ok (.getfield 172, 3) := by decide +kernel
theorem dX10_undo_58 : decode cX10_undo 58 = .ok (.ireturn, 1) := by decide +kernel
theorem dX10_warm_0 : decode cX10_warm 0 = .ok (.aload_n 0, 1) := by decide +kernel
theorem dX10_warm_1 : decode cX10_warm 1 = .ok (.iload_n 1, 1) := by decide +kernel
theorem dX10_warm_2 : decode cX10_warm 2 = .ok (.invokevirtual 215, 3) := by decide +kernel
theorem dX10_warm_5 : decode cX10_warm 5 = .ok (.ifCond .ne 6, 3) := by decide +kernel
theorem dX10_warm_8 : decode cX10_warm 8 = .ok (.ldc 218, 2) := by decide +kernel
theorem dX10_warm_10 : decode cX10_warm 10 = .ok (.ireturn, 1) := by decide +kernel
theorem dX10_warm_11 : decode cX10_warm 11 = .ok (.iload_n 2, 1) := by decide +kernel
theorem dX10_warm_12 : decode cX10_warm 12 = .ok (.i2l, 1) := by decide +kernel
theorem dX10_warm_13 : decode cX10_warm 13 = .ok (.lconst 0, 1) := by decide +kernel
theorem dX10_warm_14 : decode cX10_warm 14 = .ok (.ldc2_w 276, 3) := by decide +kernel
theorem dX10_warm_17 : decode cX10_warm 17 = .ok (.invokestatic 75, 3) := by decide +kernel
theorem dX10_warm_20 : decode cX10_warm 20 = .ok (.ifCond .ne 6, 3) := by decide +kernel
theorem dX10_warm_23 : decode cX10_warm 23 = .ok (.ldc 84, 2) := by decide +kernel
theorem dX10_warm_25 : decode cX10_warm 25 = .ok (.ireturn, 1) := by decide +kernel
theorem dX10_warm_26 : decode cX10_warm 26 = .ok (.aload_n 0, 1) := by decide +kernel
theorem dX10_warm_27 : decode cX10_warm 27 = .ok (.getfield 22, 3) := by decide +kernel
theorem dX10_warm_30 : decode cX10_warm 30 = .ok (.aload_n 0, 1) := by decide +kernel
theorem dX10_warm_31 : decode cX10_warm 31 = .ok (.getfield 47, 3) := by decide +kernel
theorem dX10_warm_34 : decode cX10_warm 34 = .ok (.bipush 36, 2) := by decide +kernel
theorem dX10_warm_36 : decode cX10_warm 36 = .ok (.invokestatic 152, 3) := by decide +kernel
theorem dX10_warm_39 : decode cX10_warm 39 = .ok (.iconst 0, 1) := by decide +kernel
theorem dX10_warm_40 : decode cX10_warm 40 = .ok (.istore_n 3, 1) := by decide +kernel
theorem dX10_warm_41 : decode cX10_warm 41 = .ok (.iload_n 3, 1) := by decide +kernel
theorem dX10_warm_42 : decode cX10_warm 42 = .ok (.iload_n 2, 1) := by decide +kernel
theorem dX10_warm_43 : decode cX10_warm 43 = .ok (.if_icmp .ge 13, 3) := by decide +kernel
theorem dX10_warm_46 : decode cX10_warm 46 = .ok (.aload_n 0, 1) := by decide +kernel
theorem dX10_warm_47 : decode cX10_warm 47 = .ok (.invokevirtual 257, 3) := by decide +kernel
theorem dX10_warm_50 : decode cX10_warm 50 = .ok (.iinc 3 1, 3) := by decide +kernel
theorem dX10_warm_53 : decode cX10_warm 53 = .ok (.goto (-12), 3) := by decide +kernel
theorem dX10_warm_56 : decode cX10_warm 56 = .ok (.aload_n 0, 1) := by decide +kernel
theorem dX10_warm_57 : decode cX10_warm 57 = .ok (.getfield 22, 3) := by decide +kernel
theorem dX10_warm_60 : decode cX10_warm 60 = .ok (.bipush 9, 2) := by decide +kernel
theorem dX10_warm_62 : decode cX10_warm 62 = .ok (.iload_n 1, 1) := by decide +kernel
theorem dX10_warm_63 : decode cX10_warm 63 = .ok (.iadd, 1) := by decide +kernel
theorem dX10_warm_64 : decode cX10_warm 64 = .ok (.iaload, 1) := by decide +kernel
theorem dX10_warm_65 : decode cX10_warm 65 = .ok (.istore_n 3, 1) := by decide +kernel
theorem dX10_warm_66 : decode cX10_warm 66 = .ok (.aload_n 0, 1) := by decide +kernel
theorem dX10_warm_67 : decode cX10_warm 67 = .ok (.getfield 47, 3) := by decide +kernel
theorem dX10_warm_70 : decode cX10_warm 70 = .ok (.aload_n 0, 1) := by decide +kernel
theorem dX10_warm_71 : decode cX10_warm 71 = .ok (.getfield 22, 3) := by decide +kernel
theorem dX10_warm_74 : decode cX10_warm 74 = .ok (.bipush 36, 2) := by decide +kernel
theorem dX10_warm_76 : decode cX10_warm 76 = .ok (.invokestatic 152, 3) := by decide +kernel
theorem dX10_warm_79 : decode cX10_warm 79 = .ok (.iload_n 3, 1) := by decide +kernel
theorem dX10_warm_80 : decode cX10_warm 80 = .ok (.ireturn, 1) := by decide +kernel
theorem dX10_warmest_0 : decode cX10_warmest 0 = .ok (.iload_n 1, 1) := by decide +kernel
theorem dX10_warmest_1 : decode cX10_warmest 1 = .ok (.i2l, 1) := by decide +kernel
theorem dX10_warmest_2 : decode cX10_warmest 2 = .ok (.lconst 0, 1) := by decide +kernel
theorem dX10_warmest_3 : decode cX10_warmest 3 = .ok (.ldc2_w 276, 3) := by decide +kernel
theorem dX10_warmest_6 : decode cX10_warmest 6 = .ok (.invokestatic 75, 3) := by decide +kernel
theorem dX10_warmest_9 : decode cX10_warmest 9 = .ok (.ifCond .ne 6, 3) := by decide +kernel
theorem dX10_warmest_12 : decode cX10_warmest 12 = .ok (.ldc 84, 2) := by decide +kernel
theorem dX10_warmest_14 : decode cX10_warmest 14 = .ok (.ireturn, 1) := by decide +kernel
theorem dX10_warmest_15 : decode cX10_warmest 15 = .ok (.aload_n 0, 1) := by decide +kernel
theorem dX10_warmest_16 : decode cX10_warmest 16 = .ok (.getfield 22, 3) := by decide +kernel
theorem dX10_warmest_19 : decode cX10_warmest 19 = .ok (.aload_n 0, 1) := by decide +kernel
theorem dX10_warmest_20 : decode cX10_warmest 20 = .ok (.getfield 47, 3) := by decide +kernel
theorem dX10_warmest_23 : decode cX10_warmest 23 = .ok (.bipush 36, 2) := by decide +kernel
theorem dX10_warmest_25 : decode cX10_warmest 25 = .ok (.invokestatic 152, 3) := by decide +kernel
theorem dX10_warmest_28 : decode cX10_warmest 28 = .ok (.iconst 0, 1) := by decide +kernel
theorem dX10_warmest_29 : decode cX10_warmest 29 = .ok (.istore_n 2, 1) := by decide +kernel
theorem dX10_warmest_30 : decode cX10_warmest 30 = .ok (.iload_n 2, 1) := by decide +kernel
theorem dX10_warmest_31 : decode cX10_warmest 31 = .ok (.iload_n 1, 1) := by decide +kernel
theorem dX10_warmest_32 : decode cX10_warmest 32 = .ok (.if_icmp .ge 13, 3) := by decide +kernel
theorem dX10_warmest_35 : decode cX10_warmest 35 = .ok (.aload_n 0, 1) := by decide +kernel
theorem dX10_warmest_36 : decode cX10_warmest 36 = .ok (.invokevirtual 257, 3) := by decide +kernel
theorem dX10_warmest_39 : decode cX10_warmest 39 = .ok (.iinc 2 1, 3) := by decide +kernel
theorem dX10_warmest_42 : decode cX10_warmest 42 = .ok (.goto (-12), 3) := by decide +kernel
theorem dX10_warmest_45 : decode cX10_warmest 45 = .ok (.iconst (-1), 1) := by decide +kernel
theorem dX10_warmest_46 : decode cX10_warmest 46 = .ok (.istore_n 2, 1) := by decide +kernel
theorem dX10_warmest_47 : decode cX10_warmest 47 = .ok (.iconst 0, 1) := by decide +kernel
theorem dX10_warmest_48 : decode cX10_warmest 48 = .ok (.istore_n 3, 1) := by decide +kernel
theorem dX10_warmest_49 : decode cX10_warmest 49 = .ok (.iload_n 3, 1) := by decide +kernel
theorem dX10_warmest_50 : decode cX10_warmest 50 = .ok (.aload_n 0, 1) := by decide +kernel
theorem dX10_warmest_51 : decode cX10_warmest 51 = .ok (.getfield 79, 3) := by decide +kernel
theorem dX10_warmest_54 : decode cX10_warmest 54 = .ok (.if_icmp .ge 40, 3) := by decide +kernel
theorem dX10_warmest_57 : decode cX10_warmest 57 = .ok (.iload_n 2, 1) := by decide +kernel
theorem dX10_warmest_58 : decode cX10_warmest 58 = .ok (.ifCond .lt 24, 3) := by decide +kernel
theorem dX10_warmest_61 : decode cX10_warmest 61 = .ok (.aload_n 0, 1) := by decide +kernel
theorem dX10_warmest_62 : decode cX10_warmest 62 = .ok (.getfield 22, 3) := by decide +kernel
theorem dX10_warmest_65 : decode cX10_warmest 65 = .ok (.bipush 9, 2) := by decide +kernel
theorem dX10_warmest_67 : decode cX10_warmest 67 = .ok (.iload_n 3, 1) := by decide +kernel
theorem dX10_warmest_68 : decode cX10_warmest 68 = .ok (.iadd, 1) := by decide +kernel
theorem dX10_warmest_69 : decode cX10_warmest 69 = .ok (.iaload, 1) := by decide +kernel
theorem dX10_warmest_70 : decode cX10_warmest 70 = .ok (.aload_n 0, 1) := by decide +kernel
theorem dX10_warmest_71 : decode cX10_warmest 71 = .ok (.getfield 22, 3) := by decide +kernel
theorem dX10_warmest_74 : decode cX10_warmest 74 = .ok (.bipush 9, 2) := by decide +kernel
theorem dX10_warmest_76 : decode cX10_warmest 76 = .ok (.iload_n 2, 1) := by decide +kernel
theorem dX10_warmest_77 : decode cX10_warmest 77 = .ok (.iadd, 1) := by decide +kernel
theorem dX10_warmest_78 : decode cX10_warmest 78 = .ok (.iaload, 1) := by decide +kernel
theorem dX10_warmest_79 : decode cX10_warmest 79 = .ok (.if_icmp .le 7, 3) := by decide +kernel
theorem dX10_warmest_82 : decode cX10_warmest 82 = .ok (.iload_n 3, 1) := by decide +kernel
theorem dX10_warmest_83 : decode cX10_warmest 83 = .ok (.goto 4, 3) := by decide +kernel
theorem dX10_warmest_86 : decode cX10_warmest 86 = .ok (.iload_n 2, 1) := by decide +kernel
theorem dX10_warmest_87 : decode cX10_warmest 87 = .ok (.istore_n 2, 1) := by decide +kernel
theorem dX10_warmest_88 : decode cX10_warmest 88 = .ok (.iinc 3 1, 3) := by decide +kernel
theorem dX10_warmest_91 : decode cX10_warmest 91 = .ok (.goto (-42), 3) := by decide +kernel
theorem dX10_warmest_94 : decode cX10_warmest 94 = .ok (.aload_n 0, 1) := by decide +kernel
theorem dX10_warmest_95 : decode cX10_warmest 95 = .ok (.getfield 47, 3) := by decide +kernel
theorem dX10_warmest_98 : decode cX10_warmest 98 = .ok (.aload_n 0, 1) := by decide +kernel
theorem dX10_warmest_99 : decode cX10_warmest 99 = .ok (.getfield 22, 3) := by decide +kernel
theorem dX10_warmest_102 : decode cX10_warmest 102 = .ok (.bipush 36, 2) := by decide +kernel
theorem dX10_warmest_104 : decode cX10_warmest 104 = .ok (.invokestatic 152, 3) := by decide +kernel
theorem dX10_warmest_107 : decode cX10_warmest 107 = .ok (.iload_n 2, 1) := by decide +kernel
theorem dX10_warmest_108 : decode cX10_warmest 108 = .ok (.ireturn, 1) := by decide +kernel
theorem dX10_first_0 : decode cX10_first 0 = .ok (.aload_n 0, 1) := by decide +kernel
theorem dX10_first_1 : decode cX10_first 1 = .ok (.iload_n 1, 1) := by decide +kernel
theorem dX10_first_2 : decode cX10_first 2 = .ok (.invokevirtual 215, 3) := by decide +kernel
theorem dX10_first_5 : decode cX10_first 5 = .ok (.ifCond .ne 6, 3) := by decide +kernel
theorem dX10_first_8 : decode cX10_first 8 = .ok (.ldc 218, 2) := by decide +kernel
theorem dX10_first_10 : decode cX10_first 10 = .ok (.ireturn, 1) := by decide +kernel
theorem dX10_first_11 : decode cX10_first 11 = .ok (.iload_n 2, 1) := by decide +kernel
theorem dX10_first_12 : decode cX10_first 12 = .ok (.i2l, 1) := by decide +kernel
theorem dX10_first_13 : decode cX10_first 13 = .ok (.lconst 0, 1) := by decide +kernel
theorem dX10_first_14 : decode cX10_first 14 = .ok (.ldc2_w 278, 3) := by decide +kernel
theorem dX10_first_17 : decode cX10_first 17 = .ok (.invokestatic 75, 3) := by decide +kernel
theorem dX10_first_20 : decode cX10_first 20 = .ok (.ifCond .ne 6, 3) := by decide +kernel
theorem dX10_first_23 : decode cX10_first 23 = .ok (.ldc 84, 2) := by decide +kernel
theorem dX10_first_25 : decode cX10_first 25 = .ok (.ireturn, 1) := by decide +kernel
theorem dX10_first_26 : decode cX10_first 26 = .ok (.aload_n 0, 1) := by decide +kernel
theorem dX10_first_27 : decode cX10_first 27 = .ok (.getfield 22, 3) := by decide +kernel
theorem dX10_first_30 : decode cX10_first 30 = .ok (.aload_n 0, 1) := by decide +kernel
theorem dX10_first_31 : decode cX10_first 31 = .ok (.getfield 47, 3) := by decide +kernel
theorem dX10_first_34 : decode cX10_first 34 = .ok (.bipush 36, 2) := by decide +kernel
theorem dX10_first_36 : decode cX10_first 36 = .ok (.invokestatic 152, 3) := by decide +kernel
theorem dX10_first_39 : decode cX10_first 39 = .ok (.iconst 0, 1) := by decide +kernel
theorem dX10_first_40 : decode cX10_first 40 = .ok (.istore_n 3, 1) := by decide +kernel
theorem dX10_first_41 : decode cX10_first 41 = .ok (.iload_n 3, 1) := by decide +kernel
theorem dX10_first_42 : decode cX10_first 42 = .ok (.sipush 200, 3) := by decide +kernel
theorem dX10_first_45 : decode cX10_first 45 = .ok (.if_icmp .ge 26, 3) := by decide +kernel
theorem dX10_first_48 : decode cX10_first 48 = .ok (.aload_n 0, 1) := by decide +kernel
theorem dX10_first_49 : decode cX10_first 49 = .ok (.getfield 22, 3) := by decide +kernel
theorem dX10_first_52 : decode cX10_first 52 = .ok (.bipush 9, 2) := by decide +kernel
theorem dX10_first_54 : decode cX10_first 54 = .ok (.iload_n 1, 1) := by decide +kernel
theorem dX10_first_55 : decode cX10_first 55 = .ok (.iadd, 1) := by decide +kernel
theorem dX10_first_56 : decode cX10_first 56 = .ok (.iaload, 1) := by decide +kernel
theorem dX10_first_57 : decode cX10_first 57 = .ok (.iload_n 2, 1) := by decide +kernel
theorem dX10_first_58 : decode cX10_first 58 = .ok (.if_icmp .ge 13, 3) := by decide +kernel
theorem dX10_first_61 : decode cX10_first 61 = .ok (.aload_n 0, 1) := by decide +kernel
theorem dX10_first_62 : decode cX10_first 62 = .ok (.invokevirtual 257, 3) := by decide +kernel
theorem dX10_first_65 : decode cX10_first 65 = .ok (.iinc 3 1, 3) := by decide +kernel
theorem dX10_first_68 : decode cX10_first 68 = .ok (.goto (-27), 3) := by decide +kernel
theorem dX10_first_71 : decode cX10_first 71 = .ok (.aload_n 0, 1) := by decide +kernel
theorem dX10_first_72 : decode cX10_first 72 = .ok (.getfield 22, 3) := by decide +kernel
theorem dX10_first_75 : decode cX10_first 75 = .ok (.bipush 9, 2) := by decide +kernel
theorem dX10_first_77 : decode cX10_first 77 = .ok (.iload_n 1, 1) := by decide +kernel
theorem dX10_first_78 : decode cX10_first 78 = .ok (.iadd, 1) := by decide +kernel
theorem dX10_first_79 : decode cX10_first 79 = .ok (.iaload, 1) := by decide +kernel
theorem dX10_first_80 : decode cX10_first 80 = .ok (.iload_n 2, 1) := by decide +kernel
theorem dX10_first_81 : decode cX10_first 81 = .ok (.if_icmp .ge 7, 3) := by decide +kernel
theorem dX10_first_84 : decode cX10_first 84 = .ok (.iconst (-1), 1) := by decide +kernel
theorem dX10_first_85 : decode cX10_first 85 = .ok (.goto 4, 3) := by decide +kernel
theorem dX10_first_88 : decode cX10_first 88 = .ok (.iload_n 3, 1) := by decide +kernel
theorem dX10_first_89 : decode cX10_first 89 = .ok (.istore 4, 2) := by decide +kernel
theorem dX10_first_91 : decode cX10_first 91 = .ok (.aload_n 0, 1) := by decide +kernel
theorem dX10_first_92 : decode cX10_first 92 = .ok (.getfield 47, 3) := by decide +kernel
theorem dX10_first_95 : decode cX10_first 95 = .ok (.aload_n 0, 1) := by decide +kernel
theorem dX10_first_96 : decode cX10_first 96 = .ok (.getfield 22, 3) := by decide +kernel
theorem dX10_first_99 : decode cX10_first 99 = .ok (.bipush 36, 2) := by decide +kernel
theorem dX10_first_101 : decode cX10_first 101 = .ok (.invokestatic 152, 3) := by decide +kernel
theorem dX10_first_104 : decode cX10_first 104 = .ok (.iload 4, 2) := by decide +kernel
theorem dX10_first_106 : decode cX10_first 106 = .ok (.ireturn, 1) := by decide +kernel
theorem dX10_isBalanced_0 : decode cX10_isBalanced 0 = .ok (.iconst 1, 1) := by decide +kernel
theorem dX10_isBalanced_1 : decode cX10_isBalanced 1 = .ok (.istore_n 2, 1) := by decide +kernel
theorem dX10_isBalanced_2 : decode cX10_isBalanced 2 = .ok (.iconst 0, 1) := by decide +kernel
theorem dX10_isBalanced_3 : decode cX10_isBalanced 3 = .ok (.istore_n 3, 1) := by decide +kernel
theorem dX10_isBalanced_4 : decode cX10_isBalanced 4 = .ok (.iload_n 3, 1) := by decide +kernel
theorem dX10_isBalanced_5 : decode cX10_isBalanced 5 = .ok (.aload_n 0, 1) := by decide +kernel
theorem dX10_isBalanced_6 : decode cX10_isBalanced 6 = .ok (.getfield 72, 3) := by decide +kernel
theorem dX10_isBalanced_9 : decode cX10_isBalanced 9 = .ok (.if_icmp .ge 42, 3) := by decide +kernel
theorem dX10_isBalanced_12 : decode cX10_isBalanced 12 = .ok (.iload_n 2, 1) := by decide +kernel
theorem dX10_isBalanced_13 : decode cX10_isBalanced 13 = .ok (.ifCond .eq 30, 3) := by decide +kernel
theorem dX10_isBalanced_16 : decode cX10_isBalanced 16 = .ok (.iload_n 1, 1) := by decide +kernel
theorem dX10_isBalanced_17 : decode cX10_isBalanced 17 = .ok (.aload_n 0, 1) := by decide +kernel
theorem dX10_isBalanced_18 : decode cX10_isBalanced 18 = .ok (.iload_n 3, 1) := by decide +kernel
theorem dX10_isBalanced_19 : decode cX10_isBalanced 19 = .ok (.invokevirtual 179, 3) := by decide +kernel
theorem dX10_isBalanced_22 : decode cX10_isBalanced 22 = .ok (.iand, 1) := by decide +kernel
theorem dX10_isBalanced_23 : decode cX10_isBalanced 23 = .ok (.invokestatic 188, 3) := by decide +kernel
theorem dX10_isBalanced_26 : decode cX10_isBalanced 26 = .ok (.iload_n 1, 1) := by decide +kernel
theorem dX10_isBalanced_27 : decode cX10_isBalanced 27 = .ok (.aload_n 0, 1) := by decide +kernel
theorem dX10_isBalanced_28 : decode cX10_isBalanced 28 = .ok (.iload_n 3, 1) := by decide +kernel
theorem dX10_isBalanced_29 : decode cX10_isBalanced 29 = .ok (.invokevirtual 222, 3) := by decide +kernel
theorem dX10_isBalanced_32 : decode cX10_isBalanced 32 = .ok (.iand, 1) := by decide +kernel
theorem dX10_isBalanced_33 : decode cX10_isBalanced 33 = .ok (.invokestatic 188, 3) := by decide +kernel
theorem dX10_isBalanced_36 : decode cX10_isBalanced 36 = .ok (.if_icmp .ne 7, 3) := by decide +kernel
theorem dX10_isBalanced_39 : decode cX10_isBalanced 39 = .ok (.iconst 1, 1) := by decide +kernel
theorem dX10_isBalanced_40 : decode cX10_isBalanced 40 = .ok (.goto 4, 3) := by decide +kernel
theorem dX10_isBalanced_43 : decode cX10_isBalanced 43 = .ok (.iconst 0, 1) := by decide +kernel
theorem dX10_isBalanced_44 : decode cX10_isBalanced 44 = .ok (.istore_n 2, 1) := by decide +kernel
theorem dX10_isBalanced_45 : decode cX10_isBalanced 45 = .ok (.iinc 3 1, 3) := by decide +kernel
theorem dX10_isBalanced_48 : decode cX10_isBalanced 48 = .ok (.goto (-44), 3) := by decide +kernel
theorem dX10_isBalanced_51 : decode cX10_isBalanced 51 = .ok (.iload_n 2, 1) := by decide +kernel
theorem dX10_isBalanced_52 : decode cX10_isBalanced 52 = .ok (.ireturn, 1) := by decide +kernel
theorem dX10_findRings_0 : decode cX10_findRings 0 = .ok (.iconst 0, 1) := by decide +kernel
theorem dX10_findRings_1 : decode cX10_findRings 1 = .ok (.istore_n 1, 1) := by decide +kernel
theorem dX10_findRings_2 : decode cX10_findRings 2 = .ok (.iload_n 1, 1) := by decide +kernel
theorem dX10_findRings_3 : decode cX10_findRings 3 = .ok (.iconst 1, 1) := by decide +kernel
theorem dX10_findRings_4 : decode cX10_findRings 4 = .ok (.aload_n 0, 1) := by decide +kernel
theorem dX10_findRings_5 : decode cX10_findRings 5 = .ok (.getfield 79, 3) := by decide +kernel
theorem dX10_findRings_8 : decode cX10_findRings 8 = .ok (.ishl, 1) := by decide +kernel
theorem dX10_findRings_9 : decode cX10_findRings 9 = .ok (.if_icmp .ge 20, 3) := by decide +kernel
theorem dX10_findRings_12 : decode cX10_findRings 12 = .ok (.aload_n 0, 1) := by decide +kernel
theorem dX10_findRings_13 : decode cX10_findRings 13 = .ok (.getfield 53, 3) := by decide +kernel
theorem dX10_findRings_16 : decode cX10_findRings 16 = .ok (.iload_n 1, 1) := by decide +kernel
theorem dX10_findRings_17 : decode cX10_findRings 17 = .ok (.aload_n 0, 1) := by decide +kernel
theorem dX10_findRings_18 : decode cX10_findRings 18 = .ok (.iload_n 1, 1) := by decide +kernel
theorem dX10_findRings_19 : decode cX10_findRings 19 = .ok (.invokevirtual 280, 3) := by decide +kernel
theorem dX10_findRings_22 : decode cX10_findRings 22 = .ok (.bastore, 1) := by decide +kernel
theorem dX10_findRings_23 : decode cX10_findRings 23 = .ok (.iinc 1 1, 3) := by decide +kernel
theorem dX10_findRings_26 : decode cX10_findRings 26 = .ok (.goto (-24), 3) := by decide +kernel
theorem dX10_findRings_29 : decode cX10_findRings 29 = .ok (.aload_n 0, 1) := by decide +kernel
theorem dX10_findRings_30 : decode cX10_findRings 30 = .ok (.getfield 50, 3) := by decide +kernel
theorem dX10_findRings_33 : decode cX10_findRings 33 = .ok (.iconst 0, 1) := by decide +kernel
theorem dX10_findRings_34 : decode cX10_findRings 34 = .ok (.iconst 0, 1) := by decide +kernel
theorem dX10_findRings_35 : decode cX10_findRings 35 = .ok (.iastore, 1) := by decide +kernel
end
section
theorem dX10_findRings_36 : decode cX10_findRings 36 = .ok (.iconst 1, 1) := by decide +kernel
theorem dX10_findRings_37 : decode cX10_findRings 37 = .ok (.istore_n 1, 1) := by decide +kernel
theorem dX10_findRings_38 : decode cX10_findRings 38 = .ok (.iload_n 1, 1) := by decide +kernel
theorem dX10_findRings_39 : decode cX10_findRings 39 = .ok (.iconst 1, 1) := by decide +kernel
theorem dX10_findRings_40 : decode cX10_findRings 40 = .ok (.aload_n 0, 1) := by decide +kernel
theorem dX10_findRings_41 : decode cX10_findRings 41 = .ok (.getfield 79, 3) := by decide +kernel
theorem dX10_findRings_44 : decode cX10_findRings 44 = .ok (.ishl, 1) := by decide +kernel
theorem dX10_findRings_45 : decode cX10_findRings 45 = .ok (.if_icmp .ge 106, 3) := by decide +kernel
theorem dX10_findRings_48 : decode cX10_findRings 48 = .ok (.iconst (-1), 1) := by decide +kernel
theorem dX10_findRings_49 : decode cX10_findRings 49 = .ok (.istore_n 2, 1) := by decide +kernel
theorem dX10_findRings_50 : decode cX10_findRings 50 = .ok (.iconst 1, 1) := by decide +kernel
theorem dX10_findRings_51 : decode cX10_findRings 51 = .ok (.istore_n 3, 1) := by decide +kernel
theorem dX10_findRings_52 : decode cX10_findRings 52 = .ok (.iload_n 3, 1) := by decide +kernel
theorem dX10_findRings_53 : decode cX10_findRings 53 = .ok (.iload_n 1, 1) := by decide +kernel
theorem dX10_findRings_54 : decode cX10_findRings 54 = .ok (.if_icmp .gt 84, 3) := by decide +kernel
theorem dX10_findRings_57 : decode cX10_findRings 57 = .ok (.iload_n 3, 1) := by decide +kernel
theorem dX10_findRings_58 : decode cX10_findRings 58 = .ok (.iload_n 1, 1) := by decide +kernel
theorem dX10_findRings_59 : decode cX10_findRings 59 = .ok (.iconst (-1), 1) := by decide +kernel
theorem dX10_findRings_60 : decode cX10_findRings 60 = .ok (.ixor, 1) := by decide +kernel
theorem dX10_findRings_61 : decode cX10_findRings 61 = .ok (.iand, 1) := by decide +kernel
theorem dX10_findRings_62 : decode cX10_findRings 62 = .ok (.ifCond .ne 29, 3) := by decide +kernel
theorem dX10_findRings_65 : decode cX10_findRings 65 = .ok (.aload_n 0, 1) := by decide +kernel
theorem dX10_findRings_66 : decode cX10_findRings 66 = .ok (.getfield 53, 3) := by decide +kernel
theorem dX10_findRings_69 : decode cX10_findRings 69 = .ok (.iload_n 3, 1) := by decide +kernel
theorem dX10_findRings_70 : decode cX10_findRings 70 = .ok (.baload, 1) := by decide +kernel
theorem dX10_findRings_71 : decode cX10_findRings 71 = .ok (.ifCond .eq 20, 3) := by decide +kernel
theorem dX10_findRings_74 : decode cX10_findRings 74 = .ok (.aload_n 0, 1) := by decide +kernel
theorem dX10_findRings_75 : decode cX10_findRings 75 = .ok (.getfield 50, 3) := by decide +kernel
theorem dX10_findRings_78 : decode cX10_findRings 78 = .ok (.iload_n 1, 1) := by decide +kernel
theorem dX10_findRings_79 : decode cX10_findRings 79 = .ok (.iload_n 3, 1) := by decide +kernel
theorem dX10_findRings_80 : decode cX10_findRings 80 = .ok (.iconst (-1), 1) := by decide +kernel
theorem dX10_findRings_81 : decode cX10_findRings 81 = .ok (.ixor, 1) := by decide +kernel
theorem dX10_findRings_82 : decode cX10_findRings 82 = .ok (.iand, 1) := by decide +kernel
theorem dX10_findRings_83 : decode cX10_findRings 83 = .ok (.iaload, 1) := by decide +kernel
theorem dX10_findRings_84 : decode cX10_findRings 84 = .ok (.ifCond .lt 7, 3) := by decide +kernel
theorem dX10_findRings_87 : decode cX10_findRings 87 = .ok (.iconst 1, 1) := by decide +kernel
theorem dX10_findRings_88 : decode cX10_findRings 88 = .ok (.goto 4, 3) := by decide +kernel
theorem dX10_findRings_91 : decode cX10_findRings 91 = .ok (.iconst 0, 1) := by decide +kernel
theorem dX10_findRings_92 : decode cX10_findRings 92 = .ok (.istore 4, 2) := by decide +kernel
theorem dX10_findRings_94 : decode cX10_findRings 94 = .ok (.iload 4, 2) := by decide +kernel
theorem dX10_findRings_96 : decode cX10_findRings 96 = .ok (.ifCond .eq 34, 3) := by decide +kernel
theorem dX10_findRings_99 : decode cX10_findRings 99 = .ok (.aload_n 0, 1) := by decide +kernel
theorem dX10_findRings_100 : decode cX10_findRings 100 = .ok (.getfield 50, 3) := by decide +kernel
theorem dX10_findRings_103 : decode cX10_findRings 103 = .ok (.iload_n 1, 1) := by decide +kernel
theorem dX10_findRings_104 : decode cX10_findRings 104 = .ok (.iload_n 3, 1) := by decide +kernel
theorem dX10_findRings_105 : decode cX10_findRings 105 = .ok (.iconst (-1), 1) := by decide +kernel
theorem dX10_findRings_106 : decode cX10_findRings 106 = .ok (.ixor, 1) := by decide +kernel
theorem dX10_findRings_107 : decode cX10_findRings 107 = .ok (.iand, 1) := by decide +kernel
theorem dX10_findRings_108 : decode cX10_findRings 108 = .ok (.iaload, 1) := by decide +kernel
theorem dX10_findRings_109 : decode cX10_findRings 109 = .ok (.iconst 1, 1) := by decide +kernel
theorem dX10_findRings_110 : decode cX10_findRings 110 = .ok (.iadd, 1) := by decide +kernel
theorem dX10_findRings_111 : decode cX10_findRings 111 = .ok (.iload_n 2, 1) := by decide +kernel
theorem dX10_findRings_112 : decode cX10_findRings 112 = .ok (.if_icmp .le 18, 3) := by decide +kernel
theorem dX10_findRings_115 : decode cX10_findRings 115 = .ok (.aload_n 0, 1) := by decide +kernel
theorem dX10_findRings_116 : decode cX10_findRings 116 = .ok (.getfield 50, 3) := by decide +kernel
theorem dX10_findRings_119 : decode cX10_findRings 119 = .ok (.iload_n 1, 1) := by decide +kernel
theorem dX10_findRings_120 : decode cX10_findRings 120 = .ok (.iload_n 3, 1) := by decide +kernel
theorem dX10_findRings_121 : decode cX10_findRings 121 = .ok (.iconst (-1), 1) := by decide +kernel
theorem dX10_findRings_122 : decode cX10_findRings 122 = .ok (.ixor, 1) := by decide +kernel
theorem dX10_findRings_123 : decode cX10_findRings 123 = .ok (.iand, 1) := by decide +kernel
theorem dX10_findRings_124 : decode cX10_findRings 124 = .ok (.iaload, 1) := by decide +kernel
theorem dX10_findRings_125 : decode cX10_findRings 125 = .ok (.iconst 1, 1) := by decide +kernel
theorem dX10_findRings_126 : decode cX10_findRings 126 = .ok (.iadd, 1) := by decide +kernel
theorem dX10_findRings_127 : decode cX10_findRings 127 = .ok (.goto 4, 3) := by decide +kernel
theorem dX10_findRings_130 : decode cX10_findRings 130 = .ok (.iload_n 2, 1) := by decide +kernel
theorem dX10_findRings_131 : decode cX10_findRings 131 = .ok (.istore_n 2, 1) := by decide +kernel
theorem dX10_findRings_132 : decode cX10_findRings 132 = .ok (.iinc 3 1, 3) := by decide +kernel
theorem dX10_findRings_135 : decode cX10_findRings 135 = .ok (.goto (-83), 3) := by decide +kernel
theorem dX10_findRings_138 : decode cX10_findRings 138 = .ok (.aload_n 0, 1) := by decide +kernel
theorem dX10_findRings_139 : decode cX10_findRings 139 = .ok (.getfield 50, 3) := by decide +kernel
theorem dX10_findRings_142 : decode cX10_findRings 142 = .ok (.iload_n 1, 1) := by decide +kernel
theorem dX10_findRings_143 : decode cX10_findRings 143 = .ok (.iload_n 2, 1) := by decide +kernel
theorem dX10_findRings_144 : decode cX10_findRings 144 = .ok (.iastore, 1) := by decide +kernel
theorem dX10_findRings_145 : decode cX10_findRings 145 = .ok (.iinc 1 1, 3) := by decide +kernel
theorem dX10_findRings_148 : decode cX10_findRings 148 = .ok (.goto (-110), 3) := by decide +kernel
theorem dX10_findRings_151 : decode cX10_findRings 151 = .ok (.return_, 1) := by decide +kernel
theorem dX10_fewestSwaps_0 : decode cX10_fewestSwaps 0 = .ok (.aload_n 0, 1) := by decide +kernel
theorem dX10_fewestSwaps_1 : decode cX10_fewestSwaps 1 = .ok (.invokevirtual 283, 3) := by decide +kernel
theorem dX10_fewestSwaps_4 : decode cX10_fewestSwaps 4 = .ok (.aload_n 0, 1) := by decide +kernel
theorem dX10_fewestSwaps_5 : decode cX10_fewestSwaps 5 = .ok (.invokevirtual 197, 3) := by decide +kernel
theorem dX10_fewestSwaps_8 : decode cX10_fewestSwaps 8 = .ok (.istore_n 1, 1) := by decide +kernel
theorem dX10_fewestSwaps_9 : decode cX10_fewestSwaps 9 = .ok (.aload_n 0, 1) := by decide +kernel
theorem dX10_fewestSwaps_10 : decode cX10_fewestSwaps 10 = .ok (.getfield 50, 3) := by decide +kernel
theorem dX10_fewestSwaps_13 : decode cX10_fewestSwaps 13 = .ok (.iload_n 1, 1) := by decide +kernel
theorem dX10_fewestSwaps_14 : decode cX10_fewestSwaps 14 = .ok (.iaload, 1) := by decide +kernel
theorem dX10_fewestSwaps_15 : decode cX10_fewestSwaps 15 = .ok (.ifCond .ge 7, 3) := by decide +kernel
theorem dX10_fewestSwaps_18 : decode cX10_fewestSwaps 18 = .ok (.iconst (-1), 1) := by decide +kernel
theorem dX10_fewestSwaps_19 : decode cX10_fewestSwaps 19 = .ok (.goto 14, 3) := by decide +kernel
theorem dX10_fewestSwaps_22 : decode cX10_fewestSwaps 22 = .ok (.iload_n 1, 1) := by decide +kernel
theorem dX10_fewestSwaps_23 : decode cX10_fewestSwaps 23 = .ok (.invokestatic 188, 3) := by decide +kernel
theorem dX10_fewestSwaps_26 : decode cX10_fewestSwaps 26 = .ok (.aload_n 0, 1) := by decide +kernel
theorem dX10_fewestSwaps_27 : decode cX10_fewestSwaps 27 = .ok (.getfield 50, 3) := by decide +kernel
theorem dX10_fewestSwaps_30 : decode cX10_fewestSwaps 30 = .ok (.iload_n 1, 1) := by decide +kernel
theorem dX10_fewestSwaps_31 : decode cX10_fewestSwaps 31 = .ok (.iaload, 1) := by decide +kernel
theorem dX10_fewestSwaps_32 : decode cX10_fewestSwaps 32 = .ok (.isub, 1) := by decide +kernel
theorem dX10_fewestSwaps_33 : decode cX10_fewestSwaps 33 = .ok (.ireturn, 1) := by decide +kernel
theorem dX10_firstSwap_0 : decode cX10_firstSwap 0 = .ok (.iconst 0, 1) := by decide +kernel
theorem dX10_firstSwap_1 : decode cX10_firstSwap 1 = .ok (.istore_n 2, 1) := by decide +kernel
theorem dX10_firstSwap_2 : decode cX10_firstSwap 2 = .ok (.iload_n 2, 1) := by decide +kernel
theorem dX10_firstSwap_3 : decode cX10_firstSwap 3 = .ok (.aload_n 0, 1) := by decide +kernel
theorem dX10_firstSwap_4 : decode cX10_firstSwap 4 = .ok (.getfield 79, 3) := by decide +kernel
theorem dX10_firstSwap_7 : decode cX10_firstSwap 7 = .ok (.if_icmp .ge 104, 3) := by decide +kernel
theorem dX10_firstSwap_10 : decode cX10_firstSwap 10 = .ok (.iload_n 2, 1) := by decide +kernel
theorem dX10_firstSwap_11 : decode cX10_firstSwap 11 = .ok (.iconst 1, 1) := by decide +kernel
theorem dX10_firstSwap_12 : decode cX10_firstSwap 12 = .ok (.iadd, 1) := by decide +kernel
theorem dX10_firstSwap_13 : decode cX10_firstSwap 13 = .ok (.istore_n 3, 1) := by decide +kernel
theorem dX10_firstSwap_14 : decode cX10_firstSwap 14 = .ok (.iload_n 3, 1) := by decide +kernel
theorem dX10_firstSwap_15 : decode cX10_firstSwap 15 = .ok (.aload_n 0, 1) := by decide +kernel
theorem dX10_firstSwap_16 : decode cX10_firstSwap 16 = .ok (.getfield 79, 3) := by decide +kernel
theorem dX10_firstSwap_19 : decode cX10_firstSwap 19 = .ok (.if_icmp .ge 86, 3) := by decide +kernel
theorem dX10_firstSwap_22 : decode cX10_firstSwap 22 = .ok (.aload_n 0, 1) := by decide +kernel
theorem dX10_firstSwap_23 : decode cX10_firstSwap 23 = .ok (.getfield 22, 3) := by decide +kernel
theorem dX10_firstSwap_26 : decode cX10_firstSwap 26 = .ok (.iload_n 2, 1) := by decide +kernel
theorem dX10_firstSwap_27 : decode cX10_firstSwap 27 = .ok (.iaload, 1) := by decide +kernel
theorem dX10_firstSwap_28 : decode cX10_firstSwap 28 = .ok (.istore 4, 2) := by decide +kernel
theorem dX10_firstSwap_30 : decode cX10_firstSwap 30 = .ok (.aload_n 0, 1) := by decide +kernel
theorem dX10_firstSwap_31 : decode cX10_firstSwap 31 = .ok (.getfield 22, 3) := by decide +kernel
theorem dX10_firstSwap_34 : decode cX10_firstSwap 34 = .ok (.iload_n 3, 1) := by decide +kernel
theorem dX10_firstSwap_35 : decode cX10_firstSwap 35 = .ok (.iaload, 1) := by decide +kernel
theorem dX10_firstSwap_36 : decode cX10_firstSwap 36 = .ok (.istore 5, 2) := by decide +kernel
theorem dX10_firstSwap_38 : decode cX10_firstSwap 38 = .ok (.aload_n 0, 1) := by decide +kernel
theorem dX10_firstSwap_39 : decode cX10_firstSwap 39 = .ok (.getfield 22, 3) := by decide +kernel
theorem dX10_firstSwap_42 : decode cX10_firstSwap 42 = .ok (.iload_n 2, 1) := by decide +kernel
theorem dX10_firstSwap_43 : decode cX10_firstSwap 43 = .ok (.iload 5, 2) := by decide +kernel
theorem dX10_firstSwap_45 : decode cX10_firstSwap 45 = .ok (.iastore, 1) := by decide +kernel
theorem dX10_firstSwap_46 : decode cX10_firstSwap 46 = .ok (.aload_n 0, 1) := by decide +kernel
theorem dX10_firstSwap_47 : decode cX10_firstSwap 47 = .ok (.getfield 22, 3) := by decide +kernel
theorem dX10_firstSwap_50 : decode cX10_firstSwap 50 = .ok (.iload_n 3, 1) := by decide +kernel
theorem dX10_firstSwap_51 : decode cX10_firstSwap 51 = .ok (.iload 4, 2) := by decide +kernel
theorem dX10_firstSwap_53 : decode cX10_firstSwap 53 = .ok (.iastore, 1) := by decide +kernel
theorem dX10_firstSwap_54 : decode cX10_firstSwap 54 = .ok (.aload_n 0, 1) := by decide +kernel
theorem dX10_firstSwap_55 : decode cX10_firstSwap 55 = .ok (.invokevirtual 286, 3) := by decide +kernel
theorem dX10_firstSwap_58 : decode cX10_firstSwap 58 = .ok (.iload_n 1, 1) := by decide +kernel
theorem dX10_firstSwap_59 : decode cX10_firstSwap 59 = .ok (.iconst 1, 1) := by decide +kernel
theorem dX10_firstSwap_60 : decode cX10_firstSwap 60 = .ok (.isub, 1) := by decide +kernel
theorem dX10_firstSwap_61 : decode cX10_firstSwap 61 = .ok (.if_icmp .ne 7, 3) := by decide +kernel
theorem dX10_firstSwap_64 : decode cX10_firstSwap 64 = .ok (.iconst 1, 1) := by decide +kernel
theorem dX10_firstSwap_65 : decode cX10_firstSwap 65 = .ok (.goto 4, 3) := by decide +kernel
theorem dX10_firstSwap_68 : decode cX10_firstSwap 68 = .ok (.iconst 0, 1) := by decide +kernel
theorem dX10_firstSwap_69 : decode cX10_firstSwap 69 = .ok (.istore 6, 2) := by decide +kernel
theorem dX10_firstSwap_71 : decode cX10_firstSwap 71 = .ok (.aload_n 0, 1) := by decide +kernel
theorem dX10_firstSwap_72 : decode cX10_firstSwap 72 = .ok (.getfield 22, 3) := by decide +kernel
theorem dX10_firstSwap_75 : decode cX10_firstSwap 75 = .ok (.iload_n 2, 1) := by decide +kernel
theorem dX10_firstSwap_76 : decode cX10_firstSwap 76 = .ok (.iload 4, 2) := by decide +kernel
theorem dX10_firstSwap_78 : decode cX10_firstSwap 78 = .ok (.iastore, 1) := by decide +kernel
theorem dX10_firstSwap_79 : decode cX10_firstSwap 79 = .ok (.aload_n 0, 1) := by decide +kernel
theorem dX10_firstSwap_80 : decode cX10_firstSwap 80 = .ok (.getfield 22, 3) := by decide +kernel
theorem dX10_firstSwap_83 : decode cX10_firstSwap 83 = .ok (.iload_n 3, 1) := by decide +kernel
theorem dX10_firstSwap_84 : decode cX10_firstSwap 84 = .ok (.iload 5, 2) := by decide +kernel
theorem dX10_firstSwap_86 : decode cX10_firstSwap 86 = .ok (.iastore, 1) := by decide +kernel
theorem dX10_firstSwap_87 : decode cX10_firstSwap 87 = .ok (.iload 6, 2) := by decide +kernel
theorem dX10_firstSwap_89 : decode cX10_firstSwap 89 = .ok (.ifCond .eq 10, 3) := by decide +kernel
theorem dX10_firstSwap_92 : decode cX10_firstSwap 92 = .ok (.bipush 10, 2) := by decide +kernel
theorem dX10_firstSwap_94 : decode cX10_firstSwap 94 = .ok (.iload_n 2, 1) := by decide +kernel
theorem dX10_firstSwap_95 : decode cX10_firstSwap 95 = .ok (.imul, 1) := by decide +kernel
theorem dX10_firstSwap_96 : decode cX10_firstSwap 96 = .ok (.iload_n 3, 1) := by decide +kernel
theorem dX10_firstSwap_97 : decode cX10_firstSwap 97 = .ok (.iadd, 1) := by decide +kernel
theorem dX10_firstSwap_98 : decode cX10_firstSwap 98 = .ok (.ireturn, 1) := by decide +kernel
theorem dX10_firstSwap_99 : decode cX10_firstSwap 99 = .ok (.iinc 3 1, 3) := by decide +kernel
theorem dX10_firstSwap_102 : decode cX10_firstSwap 102 = .ok (.goto (-88), 3) := by decide +kernel
theorem dX10_firstSwap_105 : decode cX10_firstSwap 105 = .ok (.iinc 2 1, 3) := by decide +kernel
theorem dX10_firstSwap_108 : decode cX10_firstSwap 108 = .ok (.goto (-106), 3) := by decide +kernel
theorem dX10_firstSwap_111 : decode cX10_firstSwap 111 = .ok (.iconst (-1), 1) := by decide +kernel
theorem dX10_firstSwap_112 : decode cX10_firstSwap 112 = .ok (.ireturn, 1) := by decide +kernel
theorem dX10_swaps_0 : decode cX10_swaps 0 = .ok (.iload_n 1, 1) := by decide +kernel
theorem dX10_swaps_1 : decode cX10_swaps 1 = .ok (.i2l, 1) := by decide +kernel
theorem dX10_swaps_2 : decode cX10_swaps 2 = .ok (.lconst 0, 1) := by decide +kernel
theorem dX10_swaps_3 : decode cX10_swaps 3 = .ok (.lconst 1, 1) := by decide +kernel
theorem dX10_swaps_4 : decode cX10_swaps 4 = .ok (.invokestatic 75, 3) := by decide +kernel
theorem dX10_swaps_7 : decode cX10_swaps 7 = .ok (.ifCond .ne 6, 3) := by decide +kernel
theorem dX10_swaps_10 : decode cX10_swaps 10 = .ok (.ldc 84, 2) := by decide +kernel
theorem dX10_swaps_12 : decode cX10_swaps 12 = .ok (.ireturn, 1) := by decide +kernel
theorem dX10_swaps_13 : decode cX10_swaps 13 = .ok (.aload_n 0, 1) := by decide +kernel
theorem dX10_swaps_14 : decode cX10_swaps 14 = .ok (.invokevirtual 286, 3) := by decide +kernel
theorem dX10_swaps_17 : decode cX10_swaps 17 = .ok (.istore_n 2, 1) := by decide +kernel
theorem dX10_swaps_18 : decode cX10_swaps 18 = .ok (.iload_n 1, 1) := by decide +kernel
theorem dX10_swaps_19 : decode cX10_swaps 19 = .ok (.ifCond .eq 8, 3) := by decide +kernel
theorem dX10_swaps_22 : decode cX10_swaps 22 = .ok (.iload_n 2, 1) := by decide +kernel
theorem dX10_swaps_23 : decode cX10_swaps 23 = .ok (.iconst 1, 1) := by decide +kernel
theorem dX10_swaps_24 : decode cX10_swaps 24 = .ok (.if_icmp .ge 15, 3) := by decide +kernel
theorem dX10_swaps_27 : decode cX10_swaps 27 = .ok (.iload_n 1, 1) := by decide +kernel
theorem dX10_swaps_28 : decode cX10_swaps 28 = .ok (.ifCond .ne 7, 3) := by decide +kernel
theorem dX10_swaps_31 : decode cX10_swaps 31 = .ok (.iload_n 2, 1) := by decide +kernel
theorem dX10_swaps_32 : decode cX10_swaps 32 = .ok (.goto 12, 3) := by decide +kernel
theorem dX10_swaps_35 : decode cX10_swaps 35 = .ok (.iconst (-1), 1) := by decide +kernel
theorem dX10_swaps_36 : decode cX10_swaps 36 = .ok (.goto 8, 3) := by decide +kernel
theorem dX10_swaps_39 : decode cX10_swaps 39 = .ok (.aload_n 0, 1) := by decide +kernel
theorem dX10_swaps_40 : decode cX10_swaps 40 = .ok (.iload_n 2, 1) := by decide +kernel
theorem dX10_swaps_41 : decode cX10_swaps 41 = .ok (.invokevirtual 289, 3) := by decide +kernel
theorem dX10_swaps_44 : decode cX10_swaps 44 = .ok (.ireturn, 1) := by decide +kernel
theorem dX10_close_0 : decode cX10_close 0 = .ok (.iload_n 1, 1) := by decide +kernel
theorem dX10_close_1 : decode cX10_close 1 = .ok (.i2l, 1) := by decide +kernel
theorem dX10_close_2 : decode cX10_close 2 = .ok (.lconst 0, 1) := by decide +kernel
theorem dX10_close_3 : decode cX10_close 3 = .ok (.ldc2_w 292, 3) := by decide +kernel
theorem dX10_close_6 : decode cX10_close 6 = .ok (.invokestatic 75, 3) := by decide +kernel
theorem dX10_close_9 : decode cX10_close 9 = .ok (.ifCond .eq 11, 3) := by decide +kernel
theorem dX10_close_12 : decode cX10_close 12 = .ok (.aload_n 0, 1) := by decide +kernel
theorem dX10_close_13 : decode cX10_close 13 = .ok (.iload_n 1, 1) := by decide +kernel
theorem dX10_close_14 : decode cX10_close 14 = .ok (.invokevirtual 200, 3) := by decide +kernel
theorem dX10_close_17 : decode cX10_close 17 = .ok (.goto 5, 3) := by decide +kernel
theorem dX10_close_20 : decode cX10_close 20 = .ok (.ldc 84, 2) := by decide +kernel
theorem dX10_close_22 : decode cX10_close 22 = .ok (.ireturn, 1) := by decide +kernel
theorem dX10_likeIn_0 : decode cX10_likeIn 0 = .ok (.iconst 0, 1) := by decide +kernel
theorem dX10_likeIn_1 : decode cX10_likeIn 1 = .ok (.istore_n 2, 1) := by decide +kernel
theorem dX10_likeIn_2 : decode cX10_likeIn 2 = .ok (.iconst 0, 1) := by decide +kernel
theorem dX10_likeIn_3 : decode cX10_likeIn 3 = .ok (.istore_n 3, 1) := by decide +kernel
theorem dX10_likeIn_4 : decode cX10_likeIn 4 = .ok (.iload_n 3, 1) := by decide +kernel
theorem dX10_likeIn_5 : decode cX10_likeIn 5 = .ok (.aload_n 0, 1) := by decide +kernel
theorem dX10_likeIn_6 : decode cX10_likeIn 6 = .ok (.getfield 79, 3) := by decide +kernel
theorem dX10_likeIn_9 : decode cX10_likeIn 9 = .ok (.if_icmp .ge 38, 3) := by decide +kernel
theorem dX10_likeIn_12 : decode cX10_likeIn 12 = .ok (.iload_n 2, 1) := by decide +kernel
theorem dX10_likeIn_13 : decode cX10_likeIn 13 = .ok (.aload_n 0, 1) := by decide +kernel
theorem dX10_likeIn_14 : decode cX10_likeIn 14 = .ok (.getfield 22, 3) := by decide +kernel
theorem dX10_likeIn_17 : decode cX10_likeIn 17 = .ok (.bipush 17, 2) := by decide +kernel
theorem dX10_likeIn_19 : decode cX10_likeIn 19 = .ok (.iload_n 3, 1) := by decide +kernel
theorem dX10_likeIn_20 : decode cX10_likeIn 20 = .ok (.iadd, 1) := by decide +kernel
theorem dX10_likeIn_21 : decode cX10_likeIn 21 = .ok (.iaload, 1) := by decide +kernel
theorem dX10_likeIn_22 : decode cX10_likeIn 22 = .ok (.aload_n 0, 1) := by decide +kernel
theorem dX10_likeIn_23 : decode cX10_likeIn 23 = .ok (.getfield 149, 3) := by decide +kernel
theorem dX10_likeIn_26 : decode cX10_likeIn 26 = .ok (.ixor, 1) := by decide +kernel
theorem dX10_likeIn_27 : decode cX10_likeIn 27 = .ok (.iload_n 1, 1) := by decide +kernel
theorem dX10_likeIn_28 : decode cX10_likeIn 28 = .ok (.iand, 1) := by decide +kernel
theorem dX10_likeIn_29 : decode cX10_likeIn 29 = .ok (.ifCond .ne 9, 3) := by decide +kernel
theorem dX10_likeIn_32 : decode cX10_likeIn 32 = .ok (.iconst 1, 1) := by decide +kernel
theorem dX10_likeIn_33 : decode cX10_likeIn 33 = .ok (.iload_n 3, 1) := by decide +kernel
theorem dX10_likeIn_34 : decode cX10_likeIn 34 = .ok (.ishl, 1) := by decide +kernel
theorem dX10_likeIn_35 : decode cX10_likeIn 35 = .ok (.goto 4, 3) := by decide +kernel
theorem dX10_likeIn_38 : decode cX10_likeIn 38 = .ok (.iconst 0, 1) := by decide +kernel
theorem dX10_likeIn_39 : decode cX10_likeIn 39 = .ok (.ior, 1) := by decide +kernel
theorem dX10_likeIn_40 : decode cX10_likeIn 40 = .ok (.istore_n 2, 1) := by decide +kernel
theorem dX10_likeIn_41 : decode cX10_likeIn 41 = .ok (.iinc 3 1, 3) := by decide +kernel
theorem dX10_likeIn_44 : decode cX10_likeIn 44 = .ok (.goto (-40), 3) := by decide +kernel
theorem dX10_likeIn_47 : decode cX10_likeIn 47 = .ok (.iload_n 2, 1) := by decide +kernel
theorem dX10_likeIn_48 : decode cX10_likeIn 48 = .ok (.ireturn, 1) := by decide +kernel
theorem dX10_nextSign_0 : decode cX10_nextSign 0 = .ok (.iconst (-1), 1) := by decide +kernel
theorem dX10_nextSign_1 : decode cX10_nextSign 1 = .ok (.istore_n 2, 1) := by decide +kernel
theorem dX10_nextSign_2 : decode cX10_nextSign 2 = .ok (.iload_n 1, 1) := by decide +kernel
theorem dX10_nextSign_3 : decode cX10_nextSign 3 = .ok (.invokestatic 188, 3) := by decide +kernel
theorem dX10_nextSign_6 : decode cX10_nextSign 6 = .ok (.istore_n 3, 1) := by decide +kernel
theorem dX10_nextSign_7 : decode cX10_nextSign 7 = .ok (.iconst 0, 1) := by decide +kernel
theorem dX10_nextSign_8 : decode cX10_nextSign 8 = .ok (.istore 4, 2) := by decide +kernel
theorem dX10_nextSign_10 : decode cX10_nextSign 10 = .ok (.iload 4, 2) := by decide +kernel
theorem dX10_nextSign_12 : decode cX10_nextSign 12 = .ok (.bipush 6, 2) := by decide +kernel
theorem dX10_nextSign_14 : decode cX10_nextSign 14 = .ok (.if_icmp .ge 119, 3) := by decide +kernel
theorem dX10_nextSign_17 : decode cX10_nextSign 17 = .ok (.iconst 0, 1) := by decide +kernel
theorem dX10_nextSign_18 : decode cX10_nextSign 18 = .ok (.istore 5, 2) := by decide +kernel
theorem dX10_nextSign_20 : decode cX10_nextSign 20 = .ok (.iconst 0, 1) := by decide +kernel
theorem dX10_nextSign_21 : decode cX10_nextSign 21 = .ok (.istore 6, 2) := by decide +kernel
theorem dX10_nextSign_23 : decode cX10_nextSign 23 = .ok (.iload 6, 2) := by decide +kernel
theorem dX10_nextSign_25 : decode cX10_nextSign 25 = .ok (.aload_n 0, 1) := by decide +kernel
theorem dX10_nextSign_26 : decode cX10_nextSign 26 = .ok (.getfield 79, 3) := by decide +kernel
theorem dX10_nextSign_29 : decode cX10_nextSign 29 = .ok (.if_icmp .ge 46, 3) := by decide +kernel
theorem dX10_nextSign_32 : decode cX10_nextSign 32 = .ok (.iload 5, 2) := by decide +kernel
theorem dX10_nextSign_34 : decode cX10_nextSign 34 = .ok (.iload_n 1, 1) := by decide +kernel
theorem dX10_nextSign_35 : decode cX10_nextSign 35 = .ok (.iload 6, 2) := by decide +kernel
theorem dX10_nextSign_37 : decode cX10_nextSign 37 = .ok (.invokestatic 175, 3) := by decide +kernel
theorem dX10_nextSign_40 : decode cX10_nextSign 40 = .ok (.ifCond .eq 25, 3) := by decide +kernel
theorem dX10_nextSign_43 : decode cX10_nextSign 43 = .ok (.aload_n 0, 1) := by decide +kernel
theorem dX10_nextSign_44 : decode cX10_nextSign 44 = .ok (.getfield 22, 3) := by decide +kernel
theorem dX10_nextSign_47 : decode cX10_nextSign 47 = .ok (.bipush 17, 2) := by decide +kernel
theorem dX10_nextSign_49 : decode cX10_nextSign 49 = .ok (.iload 6, 2) := by decide +kernel
theorem dX10_nextSign_51 : decode cX10_nextSign 51 = .ok (.iadd, 1) := by decide +kernel
theorem dX10_nextSign_52 : decode cX10_nextSign 52 = .ok (.iaload, 1) := by decide +kernel
theorem dX10_nextSign_53 : decode cX10_nextSign 53 = .ok (.iload 4, 2) := by decide +kernel
theorem dX10_nextSign_55 : decode cX10_nextSign 55 = .ok (.invokestatic 175, 3) := by decide +kernel
theorem dX10_nextSign_58 : decode cX10_nextSign 58 = .ok (.ifCond .eq 7, 3) := by decide +kernel
theorem dX10_nextSign_61 : decode cX10_nextSign 61 = .ok (.iconst 1, 1) := by decide +kernel
theorem dX10_nextSign_62 : decode cX10_nextSign 62 = .ok (.goto 4, 3) := by decide +kernel
theorem dX10_nextSign_65 : decode cX10_nextSign 65 = .ok (.iconst 0, 1) := by decide +kernel
theorem dX10_nextSign_66 : decode cX10_nextSign 66 = .ok (.iadd, 1) := by decide +kernel
theorem dX10_nextSign_67 : decode cX10_nextSign 67 = .ok (.istore 5, 2) := by decide +kernel
theorem dX10_nextSign_69 : decode cX10_nextSign 69 = .ok (.iinc 6 1, 3) := by decide +kernel
theorem dX10_nextSign_72 : decode cX10_nextSign 72 = .ok (.goto (-49), 3) := by decide +kernel
theorem dX10_nextSign_75 : decode cX10_nextSign 75 = .ok (.iload 5, 2) := by decide +kernel
theorem dX10_nextSign_77 : decode cX10_nextSign 77 = .ok (.iload_n 1, 1) := by decide +kernel
theorem dX10_nextSign_78 : decode cX10_nextSign 78 = .ok (.invokestatic 188, 3) := by decide +kernel
theorem dX10_nextSign_81 : decode cX10_nextSign 81 = .ok (.iload 5, 2) := by decide +kernel
theorem dX10_nextSign_83 : decode cX10_nextSign 83 = .ok (.isub, 1) := by decide +kernel
theorem dX10_nextSign_84 : decode cX10_nextSign 84 = .ok (.if_icmp .le 8, 3) := by decide +kernel
theorem dX10_nextSign_87 : decode cX10_nextSign 87 = .ok (.iload 5, 2) := by decide +kernel
theorem dX10_nextSign_89 : decode cX10_nextSign 89 = .ok (.goto 10, 3) := by decide +kernel
theorem dX10_nextSign_92 : decode cX10_nextSign 92 = .ok (.iload_n 1, 1) := by decide +kernel
theorem dX10_nextSign_93 : decode cX10_nextSign 93 = .ok (.invokestatic 188, 3) := by decide +kernel
theorem dX10_nextSign_96 : decode cX10_nextSign 96 = .ok (.iload 5, 2) := by decide +kernel
theorem dX10_nextSign_98 : decode cX10_nextSign 98 = .ok (.isub, 1) := by decide +kernel
theorem dX10_nextSign_99 : decode cX10_nextSign 99 = .ok (.istore 6, 2) := by decide +kernel
theorem dX10_nextSign_101 : decode cX10_nextSign 101 = .ok (.iload 6, 2) := by decide +kernel
theorem dX10_nextSign_103 : decode cX10_nextSign 103 = .ok (.iload_n 3, 1) := by decide +kernel
theorem dX10_nextSign_104 : decode cX10_nextSign 104 = .ok (.if_icmp .ge 8, 3) := by decide +kernel
theorem dX10_nextSign_107 : decode cX10_nextSign 107 = .ok (.iload 4, 2) := by decide +kernel
theorem dX10_nextSign_109 : decode cX10_nextSign 109 = .ok (.goto 4, 3) := by decide +kernel
theorem dX10_nextSign_112 : decode cX10_nextSign 112 = .ok (.iload_n 2, 1) := by decide +kernel
theorem dX10_nextSign_113 : decode cX10_nextSign 113 = .ok (.istore_n 2, 1) := by decide +kernel
theorem dX10_nextSign_114 : decode cX10_nextSign 114 = .ok (.iload 6, 2) := by decide +kernel
theorem dX10_nextSign_116 : decode cX10_nextSign 116 = .ok (.iload_n 3, 1) := by decide +kernel
theorem dX10_nextSign_117 : decode cX10_nextSign 117 = .ok (.if_icmp .ge 8, 3) := by decide +kernel
theorem dX10_nextSign_120 : decode cX10_nextSign 120 = .ok (.iload 6, 2) := by decide +kernel
theorem dX10_nextSign_122 : decode cX10_nextSign 122 = .ok (.goto 4, 3) := by decide +kernel
theorem dX10_nextSign_125 : decode cX10_nextSign 125 = .ok (.iload_n 3, 1) := by decide +kernel
theorem dX10_nextSign_126 : decode cX10_nextSign 126 = .ok (.istore_n 3, 1) := by decide +kernel
theorem dX10_nextSign_127 : decode cX10_nextSign 127 = .ok (.iinc 4 1, 3) := by decide +kernel
theorem dX10_nextSign_130 : decode cX10_nextSign 130 = .ok (.goto (-120), 3) := by decide +kernel
theorem dX10_nextSign_133 : decode cX10_nextSign 133 = .ok (.iload_n 2, 1) := by decide +kernel
theorem dX10_nextSign_134 : decode cX10_nextSign 134 = .ok (.ireturn, 1) := by decide +kernel
theorem dX10_look_0 : decode cX10_look 0 = .ok (.iload_n 1, 1) := by decide +kernel
theorem dX10_look_1 : decode cX10_look 1 = .ok (.i2l, 1) := by decide +kernel
theorem dX10_look_2 : decode cX10_look 2 = .ok (.lconst 0, 1) := by decide +kernel
theorem dX10_look_3 : decode cX10_look 3 = .ok (.ldc2_w 247, 3) := by decide +kernel
theorem dX10_look_6 : decode cX10_look 6 = .ok (.invokestatic 75, 3) := by decide +kernel
theorem dX10_look_9 : decode cX10_look 9 = .ok (.ifCond .eq 13, 3) := by decide +kernel
theorem dX10_look_12 : decode cX10_look 12 = .ok (.iload_n 2, 1) := by decide +kernel
theorem dX10_look_13 : decode cX10_look 13 = .ok (.i2l, 1) := by decide +kernel
theorem dX10_look_14 : decode cX10_look 14 = .ok (.lconst 0, 1) := by decide +kernel
theorem dX10_look_15 : decode cX10_look 15 = .ok (.lconst 1, 1) := by decide +kernel
theorem dX10_look_16 : decode cX10_look 16 = .ok (.invokestatic 75, 3) := by decide +kernel
theorem dX10_look_19 : decode cX10_look 19 = .ok (.ifCond .ne 6, 3) := by decide +kernel
theorem dX10_look_22 : decode cX10_look 22 = .ok (.ldc 84, 2) := by decide +kernel
theorem dX10_look_24 : decode cX10_look 24 = .ok (.ireturn, 1) := by decide +kernel
theorem dX10_look_25 : decode cX10_look 25 = .ok (.aload_n 0, 1) := by decide +kernel
theorem dX10_look_26 : decode cX10_look 26 = .ok (.iload_n 1, 1) := by decide +kernel
theorem dX10_look_27 : decode cX10_look 27 = .ok (.invokevirtual 294, 3) := by decide +kernel
theorem dX10_look_30 : decode cX10_look 30 = .ok (.istore_n 3, 1) := by decide +kernel
theorem dX10_look_31 : decode cX10_look 31 = .ok (.iload_n 2, 1) := by decide +kernel
theorem dX10_look_32 : decode cX10_look 32 = .ok (.ifCond .ne 7, 3) := by decide +kernel
theorem dX10_look_35 : decode cX10_look 35 = .ok (.iload_n 3, 1) := by decide +kernel
theorem dX10_look_36 : decode cX10_look 36 = .ok (.goto 8, 3) := by decide +kernel
theorem dX10_look_39 : decode cX10_look 39 = .ok (.aload_n 0, 1) := by decide +kernel
theorem dX10_look_40 : decode cX10_look 40 = .ok (.iload_n 3, 1) := by decide +kernel
theorem dX10_look_41 : decode cX10_look 41 = .ok (.invokevirtual 297, 3) := by decide +kernel
theorem dX10_look_44 : decode cX10_look 44 = .ok (.ireturn, 1) := by decide +kernel
theorem dX10_agreed_0 : decode cX10_agreed 0 = .ok (.iload_n 1, 1) := by decide +kernel
theorem dX10_agreed_1 : decode cX10_agreed 1 = .ok (.i2l, 1) := by decide +kernel
theorem dX10_agreed_2 : decode cX10_agreed 2 = .ok (.lconst 0, 1) := by decide +kernel
theorem dX10_agreed_3 : decode cX10_agreed 3 = .ok (.iconst 1, 1) := by decide +kernel
theorem dX10_agreed_4 : decode cX10_agreed 4 = .ok (.aload_n 0, 1) := by decide +kernel
theorem dX10_agreed_5 : decode cX10_agreed 5 = .ok (.getfield 72, 3) := by decide +kernel
theorem dX10_agreed_8 : decode cX10_agreed 8 = .ok (.ishl, 1) := by decide +kernel
theorem dX10_agreed_9 : decode cX10_agreed 9 = .ok (.iconst 1, 1) := by decide +kernel
theorem dX10_agreed_10 : decode cX10_agreed 10 = .ok (.isub, 1) := by decide +kernel
theorem dX10_agreed_11 : decode cX10_agreed 11 = .ok (.i2l, 1) := by decide +kernel
theorem dX10_agreed_12 : decode cX10_agreed 12 = .ok (.invokestatic 75, 3) := by decide +kernel
theorem dX10_agreed_15 : decode cX10_agreed 15 = .ok (.ifCond .ne 6, 3) := by decide +kernel
theorem dX10_agreed_18 : decode cX10_agreed 18 = .ok (.ldc 218, 2) := by decide +kernel
theorem dX10_agreed_20 : decode cX10_agreed 20 = .ok (.ireturn, 1) := by decide +kernel
theorem dX10_agreed_21 : decode cX10_agreed 21 = .ok (.aload_n 0, 1) := by decide +kernel
theorem dX10_agreed_22 : decode cX10_agreed 22 = .ok (.getfield 72, 3) := by decide +kernel
theorem dX10_agreed_25 : decode cX10_agreed 25 = .ok (.ifCond .le 15, 3) := by decide +kernel
theorem dX10_agreed_28 : decode cX10_agreed 28 = .ok (.aload_n 0, 1) := by decide +kernel
theorem dX10_agreed_29 : decode cX10_agreed 29 = .ok (.iload_n 1, 1) := by decide +kernel
theorem dX10_agreed_30 : decode cX10_agreed 30 = .ok (.invokevirtual 185, 3) := by decide +kernel
theorem dX10_agreed_33 : decode cX10_agreed 33 = .ok (.ifCond .eq 7, 3) := by decide +kernel
theorem dX10_agreed_36 : decode cX10_agreed 36 = .ok (.iconst 1, 1) := by decide +kernel
theorem dX10_agreed_37 : decode cX10_agreed 37 = .ok (.goto 4, 3) := by decide +kernel
theorem dX10_agreed_40 : decode cX10_agreed 40 = .ok (.iconst 0, 1) := by decide +kernel
theorem dX10_agreed_41 : decode cX10_agreed 41 = .ok (.ireturn, 1) := by decide +kernel
theorem dX10_placeOf_0 : decode cX10_placeOf 0 = .ok (.iload_n 0, 1) := by decide +kernel
theorem dX10_placeOf_1 : decode cX10_placeOf 1 = .ok (.bipush 6, 2) := by decide +kernel
theorem dX10_placeOf_3 : decode cX10_placeOf 3 = .ok (.irem, 1) := by decide +kernel
theorem dX10_placeOf_4 : decode cX10_placeOf 4 = .ok (.iconst 2, 1) := by decide +kernel
theorem dX10_placeOf_5 : decode cX10_placeOf 5 = .ok (.idiv, 1) := by decide +kernel
theorem dX10_placeOf_6 : decode cX10_placeOf 6 = .ok (.istore_n 2, 1) := by decide +kernel
theorem dX10_placeOf_7 : decode cX10_placeOf 7 = .ok (.iload_n 2, 1) := by decide +kernel
theorem dX10_placeOf_8 : decode cX10_placeOf 8 = .ok (.ifCond .ne 7, 3) := by decide +kernel
theorem dX10_placeOf_11 : decode cX10_placeOf 11 = .ok (.iconst 1, 1) := by decide +kernel
theorem dX10_placeOf_12 : decode cX10_placeOf 12 = .ok (.goto 4, 3) := by decide +kernel
theorem dX10_placeOf_15 : decode cX10_placeOf 15 = .ok (.iconst 0, 1) := by decide +kernel
theorem dX10_placeOf_16 : decode cX10_placeOf 16 = .ok (.istore_n 3, 1) := by decide +kernel
theorem dX10_placeOf_17 : decode cX10_placeOf 17 = .ok (.iconst 3, 1) := by decide +kernel
theorem dX10_placeOf_18 : decode cX10_placeOf 18 = .ok (.iload_n 2, 1) := by decide +kernel
theorem dX10_placeOf_19 : decode cX10_placeOf 19 = .ok (.isub, 1) := by decide +kernel
theorem dX10_placeOf_20 : decode cX10_placeOf 20 = .ok (.iload_n 3, 1) := by decide +kernel
theorem dX10_placeOf_21 : decode cX10_placeOf 21 = .ok (.isub, 1) := by decide +kernel
theorem dX10_placeOf_22 : decode cX10_placeOf 22 = .ok (.istore 4, 2) := by decide +kernel
theorem dX10_placeOf_24 : decode cX10_placeOf 24 = .ok (.iload_n 0, 1) := by decide +kernel
theorem dX10_placeOf_25 : decode cX10_placeOf 25 = .ok (.bipush 6, 2) := by decide +kernel
theorem dX10_placeOf_27 : decode cX10_placeOf 27 = .ok (.irem, 1) := by decide +kernel
theorem dX10_placeOf_28 : decode cX10_placeOf 28 = .ok (.iconst 2, 1) := by decide +kernel
theorem dX10_placeOf_29 : decode cX10_placeOf 29 = .ok (.irem, 1) := by decide +kernel
theorem dX10_placeOf_30 : decode cX10_placeOf 30 = .ok (.ifCond .ne 7, 3) := by decide +kernel
theorem dX10_placeOf_33 : decode cX10_placeOf 33 = .ok (.iload_n 3, 1) := by decide +kernel
theorem dX10_placeOf_34 : decode cX10_placeOf 34 = .ok (.goto 5, 3) := by decide +kernel
theorem dX10_placeOf_37 : decode cX10_placeOf 37 = .ok (.iload 4, 2) := by decide +kernel
theorem dX10_placeOf_39 : decode cX10_placeOf 39 = .ok (.istore 5, 2) := by decide +kernel
theorem dX10_placeOf_41 : decode cX10_placeOf 41 = .ok (.iload_n 1, 1) := by decide +kernel
theorem dX10_placeOf_42 : decode cX10_placeOf 42 = .ok (.iload_n 2, 1) := by decide +kernel
theorem dX10_placeOf_43 : decode cX10_placeOf 43 = .ok (.if_icmp .ne 7, 3) := by decide +kernel
theorem dX10_placeOf_46 : decode cX10_placeOf 46 = .ok (.iconst 0, 1) := by decide +kernel
theorem dX10_placeOf_47 : decode cX10_placeOf 47 = .ok (.goto 14, 3) := by decide +kernel
theorem dX10_placeOf_50 : decode cX10_placeOf 50 = .ok (.iload_n 1, 1) := by decide +kernel
theorem dX10_placeOf_51 : decode cX10_placeOf 51 = .ok (.iload 5, 2) := by decide +kernel
theorem dX10_placeOf_53 : decode cX10_placeOf 53 = .ok (.if_icmp .ne 7, 3) := by decide +kernel
theorem dX10_placeOf_56 : decode cX10_placeOf 56 = .ok (.iconst 1, 1) := by decide +kernel
theorem dX10_placeOf_57 : decode cX10_placeOf 57 = .ok (.goto 4, 3) := by decide +kernel
theorem dX10_placeOf_60 : decode cX10_placeOf 60 = .ok (.iconst 2, 1) := by decide +kernel
theorem dX10_placeOf_61 : decode cX10_placeOf 61 = .ok (.ireturn, 1) := by decide +kernel
theorem dX10_winnerOf_0 : decode cX10_winnerOf 0 = .ok (.iconst 0, 1) := by decide +kernel
theorem dX10_winnerOf_1 : decode cX10_winnerOf 1 = .ok (.istore_n 3, 1) := by decide +kernel
theorem dX10_winnerOf_2 : decode cX10_winnerOf 2 = .ok (.iconst 0, 1) := by decide +kernel
theorem dX10_winnerOf_3 : decode cX10_winnerOf 3 = .ok (.istore 4, 2) := by decide +kernel
theorem dX10_winnerOf_5 : decode cX10_winnerOf 5 = .ok (.iload 4, 2) := by decide +kernel
theorem dX10_winnerOf_7 : decode cX10_winnerOf 7 = .ok (.aload_n 0, 1) := by decide +kernel
theorem dX10_winnerOf_8 : decode cX10_winnerOf 8 = .ok (.getfield 72, 3) := by decide +kernel
theorem dX10_winnerOf_11 : decode cX10_winnerOf 11 = .ok (.if_icmp .ge 45, 3) := by decide +kernel
theorem dX10_winnerOf_14 : decode cX10_winnerOf 14 = .ok (.iload_n 3, 1) := by decide +kernel
theorem dX10_winnerOf_15 : decode cX10_winnerOf 15 = .ok (.iload 4, 2) := by decide +kernel
theorem dX10_winnerOf_17 : decode cX10_winnerOf 17 = .ok (.iload_n 1, 1) := by decide +kernel
theorem dX10_winnerOf_18 : decode cX10_winnerOf 18 = .ok (.invokestatic 300, 3) := by decide +kernel
theorem dX10_winnerOf_21 : decode cX10_winnerOf 21 = .ok (.iload 4, 2) := by decide +kernel
theorem dX10_winnerOf_23 : decode cX10_winnerOf 23 = .ok (.iload_n 2, 1) := by decide +kernel
theorem dX10_winnerOf_24 : decode cX10_winnerOf 24 = .ok (.invokestatic 300, 3) := by decide +kernel
theorem dX10_winnerOf_27 : decode cX10_winnerOf 27 = .ok (.if_icmp .ge 13, 3) := by decide +kernel
theorem dX10_winnerOf_30 : decode cX10_winnerOf 30 = .ok (.aload_n 0, 1) := by decide +kernel
theorem dX10_winnerOf_31 : decode cX10_winnerOf 31 = .ok (.getfield 7, 3) := by decide +kernel
theorem dX10_winnerOf_34 : decode cX10_winnerOf 34 = .ok (.iload 4, 2) := by decide +kernel
theorem dX10_winnerOf_36 : decode cX10_winnerOf 36 = .ok (.iaload, 1) := by decide +kernel
theorem dX10_winnerOf_37 : decode cX10_winnerOf 37 = .ok (.goto 11, 3) := by decide +kernel
theorem dX10_winnerOf_40 : decode cX10_winnerOf 40 = .ok (.aload_n 0, 1) := by decide +kernel
theorem dX10_winnerOf_41 : decode cX10_winnerOf 41 = .ok (.getfield 7, 3) := by decide +kernel
theorem dX10_winnerOf_44 : decode cX10_winnerOf 44 = .ok (.iload 4, 2) := by decide +kernel
theorem dX10_winnerOf_46 : decode cX10_winnerOf 46 = .ok (.iaload, 1) := by decide +kernel
theorem dX10_winnerOf_47 : decode cX10_winnerOf 47 = .ok (.ineg, 1) := by decide +kernel
theorem dX10_winnerOf_48 : decode cX10_winnerOf 48 = .ok (.iadd, 1) := by decide +kernel
theorem dX10_winnerOf_49 : decode cX10_winnerOf 49 = .ok (.istore_n 3, 1) := by decide +kernel
theorem dX10_winnerOf_50 : decode cX10_winnerOf 50 = .ok (.iinc 4 1, 3) := by decide +kernel
theorem dX10_winnerOf_53 : decode cX10_winnerOf 53 = .ok (.goto (-48), 3) := by decide +kernel
theorem dX10_winnerOf_56 : decode cX10_winnerOf 56 = .ok (.iload_n 3, 1) := by decide +kernel
theorem dX10_winnerOf_57 : decode cX10_winnerOf 57 = .ok (.ifCond .le 7, 3) := by decide +kernel
theorem dX10_winnerOf_60 : decode cX10_winnerOf 60 = .ok (.iload_n 1, 1) := by decide +kernel
theorem dX10_winnerOf_61 : decode cX10_winnerOf 61 = .ok (.goto 21, 3) := by decide +kernel
theorem dX10_winnerOf_64 : decode cX10_winnerOf 64 = .ok (.iload_n 3, 1) := by decide +kernel
theorem dX10_winnerOf_65 : decode cX10_winnerOf 65 = .ok (.ifCond .ge 7, 3) := by decide +kernel
theorem dX10_winnerOf_68 : decode cX10_winnerOf 68 = .ok (.iload_n 2, 1) := by decide +kernel
theorem dX10_winnerOf_69 : decode cX10_winnerOf 69 = .ok (.goto 13, 3) := by decide +kernel
theorem dX10_winnerOf_72 : decode cX10_winnerOf 72 = .ok (.iload_n 1, 1) := by decide +kernel
theorem dX10_winnerOf_73 : decode cX10_winnerOf 73 = .ok (.iload_n 2, 1) := by decide +kernel
theorem dX10_winnerOf_74 : decode cX10_winnerOf 74 = .ok (.if_icmp .ge 7, 3) := by decide +kernel
theorem dX10_winnerOf_77 : decode cX10_winnerOf 77 = .ok (.iload_n 1, 1) := by decide +kernel
theorem dX10_winnerOf_78 : decode cX10_winnerOf 78 = .ok (.goto 4, 3) := by decide +kernel
theorem dX10_winnerOf_81 : decode cX10_winnerOf 81 = .ok (.iload_n 2, 1) := by decide +kernel
theorem dX10_winnerOf_82 : decode cX10_winnerOf 82 = .ok (.ireturn, 1) := by decide +kernel
theorem dX10_agendaOf_0 : decode cX10_agendaOf 0 = .ok (.aload_n 0, 1) := by decide +kernel
theorem dX10_agendaOf_1 : decode cX10_agendaOf 1 = .ok (.aload_n 0, 1) := by decide +kernel
theorem dX10_agendaOf_2 : decode cX10_agendaOf 2 = .ok (.iload_n 1, 1) := by decide +kernel
theorem dX10_agendaOf_3 : decode cX10_agendaOf 3 = .ok (.iload_n 2, 1) := by decide +kernel
theorem dX10_agendaOf_4 : decode cX10_agendaOf 4 = .ok (.invokevirtual 303, 3) := by decide +kernel
theorem dX10_agendaOf_7 : decode cX10_agendaOf 7 = .ok (.iconst 3, 1) := by decide +kernel
theorem dX10_agendaOf_8 : decode cX10_agendaOf 8 = .ok (.iload_n 1, 1) := by decide +kernel
theorem dX10_agendaOf_9 : decode cX10_agendaOf 9 = .ok (.isub, 1) := by decide +kernel
theorem dX10_agendaOf_10 : decode cX10_agendaOf 10 = .ok (.iload_n 2, 1) := by decide +kernel
theorem dX10_agendaOf_11 : decode cX10_agendaOf 11 = .ok (.isub, 1) := by decide +kernel
theorem dX10_agendaOf_12 : decode cX10_agendaOf 12 = .ok (.invokevirtual 303, 3) := by decide +kernel
theorem dX10_agendaOf_15 : decode cX10_agendaOf 15 = .ok (.ireturn, 1) := by decide +kernel
theorem dX10_agenda_0 : decode cX10_agenda 0 = .ok (.iload_n 1, 1) := by decide +kernel
theorem dX10_agenda_1 : decode cX10_agenda 1 = .ok (.i2l, 1) := by decide +kernel
theorem dX10_agenda_2 : decode cX10_agenda 2 = .ok (.lconst 0, 1) := by decide +kernel
theorem dX10_agenda_3 : decode cX10_agenda 3 = .ok (.ldc2_w 306, 3) := by decide +kernel
theorem dX10_agenda_6 : decode cX10_agenda 6 = .ok (.invokestatic 75, 3) := by decide +kernel
theorem dX10_agenda_9 : decode cX10_agenda 9 = .ok (.ifCond .eq 20, 3) := by decide +kernel
theorem dX10_agenda_12 : decode cX10_agenda 12 = .ok (.iload_n 2, 1) := by decide +kernel
theorem dX10_agenda_13 : decode cX10_agenda 13 = .ok (.i2l, 1) := by decide +kernel
theorem dX10_agenda_14 : decode cX10_agenda 14 = .ok (.lconst 0, 1) := by decide +kernel
theorem dX10_agenda_15 : decode cX10_agenda 15 = .ok (.ldc2_w 306, 3) := by decide +kernel
theorem dX10_agenda_18 : decode cX10_agenda 18 = .ok (.invokestatic 75, 3) := by decide +kernel
theorem dX10_agenda_21 : decode cX10_agenda 21 = .ok (.ifCond .eq 8, 3) := by decide +kernel
theorem dX10_agenda_24 : decode cX10_agenda 24 = .ok (.iload_n 1, 1) := by decide +kernel
theorem dX10_agenda_25 : decode cX10_agenda 25 = .ok (.iload_n 2, 1) := by decide +kernel
theorem dX10_agenda_26 : decode cX10_agenda 26 = .ok (.if_icmp .ne 6, 3) := by decide +kernel
theorem dX10_agenda_29 : decode cX10_agenda 29 = .ok (.ldc 84, 2) := by decide +kernel
theorem dX10_agenda_31 : decode cX10_agenda 31 = .ok (.ireturn, 1) := by decide +kernel
theorem dX10_agenda_32 : decode cX10_agenda 32 = .ok (.aload_n 0, 1) := by decide +kernel
theorem dX10_agenda_33 : decode cX10_agenda 33 = .ok (.getfield 72, 3) := by decide +kernel
theorem dX10_agenda_36 : decode cX10_agenda 36 = .ok (.ifCond .ne 8, 3) := by decide +kernel
theorem dX10_agenda_39 : decode cX10_agenda 39 = .ok (.ldc 236, 2) := by decide +kernel
theorem dX10_agenda_41 : decode cX10_agenda 41 = .ok (.goto 9, 3) := by decide +kernel
theorem dX10_agenda_44 : decode cX10_agenda 44 = .ok (.aload_n 0, 1) := by decide +kernel
theorem dX10_agenda_45 : decode cX10_agenda 45 = .ok (.iload_n 1, 1) := by decide +kernel
theorem dX10_agenda_46 : decode cX10_agenda 46 = .ok (.iload_n 2, 1) := by decide +kernel
theorem dX10_agenda_47 : decode cX10_agenda 47 = .ok (.invokevirtual 308, 3) := by decide +kernel
theorem dX10_agenda_50 : decode cX10_agenda 50 = .ok (.ireturn, 1) := by decide +kernel
theorem dX10_agendaFor_0 : decode cX10_agendaFor 0 = .ok (.iload_n 1, 1) := by decide +kernel
theorem dX10_agendaFor_1 : decode cX10_agendaFor 1 = .ok (.i2l, 1) := by decide +kernel
theorem dX10_agendaFor_2 : decode cX10_agendaFor 2 = .ok (.lconst 0, 1) := by decide +kernel
theorem dX10_agendaFor_3 : decode cX10_agendaFor 3 = .ok (.ldc2_w 306, 3) := by decide +kernel
theorem dX10_agendaFor_6 : decode cX10_agendaFor 6 = .ok (.invokestatic 75, 3) := by decide +kernel
theorem dX10_agendaFor_9 : decode cX10_agendaFor 9 = .ok (.ifCond .ne 6, 3) := by decide +kernel
theorem dX10_agendaFor_12 : decode cX10_agendaFor 12 = .ok (.ldc 84, 2) := by decide +kernel
theorem dX10_agendaFor_14 : decode cX10_agendaFor 14 = .ok (.ireturn, 1) := by decide +kernel
theorem dX10_agendaFor_15 : decode cX10_agendaFor 15 = .ok (.aload_n 0, 1) := by decide +kernel
theorem dX10_agendaFor_16 : decode cX10_agendaFor 16 = .ok (.getfield 72, 3) := by decide +kernel
theorem dX10_agendaFor_19 : decode cX10_agendaFor 19 = .ok (.ifCond .ne 6, 3) := by decide +kernel
theorem dX10_agendaFor_22 : decode cX10_agendaFor 22 = .ok (.ldc 236, 2) := by decide +kernel
theorem dX10_agendaFor_24 : decode cX10_agendaFor 24 = .ok (.ireturn, 1) := by decide +kernel
theorem dX10_agendaFor_25 : decode cX10_agendaFor 25 = .ok (.aload_n 0, 1) := by decide +kernel
theorem dX10_agendaFor_26 : decode cX10_agendaFor 26 = .ok (.iconst 0, 1) := by decide +kernel
theorem dX10_agendaFor_27 : decode cX10_agendaFor 27 = .ok (.iconst 1, 1) := by decide +kernel
theorem dX10_agendaFor_28 : decode cX10_agendaFor 28 = .ok (.invokevirtual 308, 3) := by decide +kernel
theorem dX10_agendaFor_31 : decode cX10_agendaFor 31 = .ok (.iload_n 1, 1) := by decide +kernel
theorem dX10_agendaFor_32 : decode cX10_agendaFor 32 = .ok (.if_icmp .ne 7, 3) := by decide +kernel
theorem dX10_agendaFor_35 : decode cX10_agendaFor 35 = .ok (.iconst 1, 1) := by decide +kernel
theorem dX10_agendaFor_36 : decode cX10_agendaFor 36 = .ok (.goto 33, 3) := by decide +kernel
theorem dX10_agendaFor_39 : decode cX10_agendaFor 39 = .ok (.aload_n 0, 1) := by decide +kernel
theorem dX10_agendaFor_40 : decode cX10_agendaFor 40 = .ok (.iconst 0, 1) := by decide +kernel
theorem dX10_agendaFor_41 : decode cX10_agendaFor 41 = .ok (.iconst 2, 1) := by decide +kernel
theorem dX10_agendaFor_42 : decode cX10_agendaFor 42 = .ok (.invokevirtual 308, 3) := by decide +kernel
theorem dX10_agendaFor_45 : decode cX10_agendaFor 45 = .ok (.iload_n 1, 1) := by decide +kernel
theorem dX10_agendaFor_46 : decode cX10_agendaFor 46 = .ok (.if_icmp .ne 7, 3) := by decide +kernel
theorem dX10_agendaFor_49 : decode cX10_agendaFor 49 = .ok (.iconst 2, 1) := by decide +kernel
theorem dX10_agendaFor_50 : decode cX10_agendaFor 50 = .ok (.goto 19, 3) := by decide +kernel
theorem dX10_agendaFor_53 : decode cX10_agendaFor 53 = .ok (.aload_n 0, 1) := by decide +kernel
theorem dX10_agendaFor_54 : decode cX10_agendaFor 54 = .ok (.iconst 1, 1) := by decide +kernel
theorem dX10_agendaFor_55 : decode cX10_agendaFor 55 = .ok (.iconst 2, 1) := by decide +kernel
theorem dX10_agendaFor_56 : decode cX10_agendaFor 56 = .ok (.invokevirtual 308, 3) := by decide +kernel
theorem dX10_agendaFor_59 : decode cX10_agendaFor 59 = .ok (.iload_n 1, 1) := by decide +kernel
theorem dX10_agendaFor_60 : decode cX10_agendaFor 60 = .ok (.if_icmp .ne 8, 3) := by decide +kernel
theorem dX10_agendaFor_63 : decode cX10_agendaFor 63 = .ok (.bipush 12, 2) := by decide +kernel
theorem dX10_agendaFor_65 : decode cX10_agendaFor 65 = .ok (.goto 4, 3) := by decide +kernel
theorem dX10_agendaFor_68 : decode cX10_agendaFor 68 = .ok (.iconst (-1), 1) := by decide +kernel
theorem dX10_agendaFor_69 : decode cX10_agendaFor 69 = .ok (.ireturn, 1) := by decide +kernel
theorem dX10_pleases_0 : decode cX10_pleases 0 = .ok (.iconst 0, 1) := by decide +kernel
theorem dX10_pleases_1 : decode cX10_pleases 1 = .ok (.istore_n 3, 1) := by decide +kernel
theorem dX10_pleases_2 : decode cX10_pleases 2 = .ok (.iconst 0, 1) := by decide +kernel
theorem dX10_pleases_3 : decode cX10_pleases 3 = .ok (.istore 4, 2) := by decide +kernel
theorem dX10_pleases_5 : decode cX10_pleases 5 = .ok (.iload 4, 2) := by decide +kernel
theorem dX10_pleases_7 : decode cX10_pleases 7 = .ok (.aload_n 0, 1) := by decide +kernel
theorem dX10_pleases_8 : decode cX10_pleases 8 = .ok (.getfield 79, 3) := by decide +kernel
theorem dX10_pleases_11 : decode cX10_pleases 11 = .ok (.if_icmp .ge 37, 3) := by decide +kernel
theorem dX10_pleases_14 : decode cX10_pleases 14 = .ok (.iload_n 3, 1) := by decide +kernel
theorem dX10_pleases_15 : decode cX10_pleases 15 = .ok (.aload_n 0, 1) := by decide +kernel
theorem dX10_pleases_16 : decode cX10_pleases 16 = .ok (.getfield 16, 3) := by decide +kernel
theorem dX10_pleases_19 : decode cX10_pleases 19 = .ok (.iload 4, 2) := by decide +kernel
theorem dX10_pleases_21 : decode cX10_pleases 21 = .ok (.iaload, 1) := by decide +kernel
theorem dX10_pleases_22 : decode cX10_pleases 22 = .ok (.iload_n 2, 1) := by decide +kernel
theorem dX10_pleases_23 : decode cX10_pleases 23 = .ok (.if_icmp .ne 16, 3) := by decide +kernel
theorem dX10_pleases_26 : decode cX10_pleases 26 = .ok (.aload_n 0, 1) := by decide +kernel
theorem dX10_pleases_27 : decode cX10_pleases 27 = .ok (.getfield 22, 3) := by decide +kernel
theorem dX10_pleases_30 : decode cX10_pleases 30 = .ok (.bipush 17, 2) := by decide +kernel
theorem dX10_pleases_32 : decode cX10_pleases 32 = .ok (.iload 4, 2) := by decide +kernel
theorem dX10_pleases_34 : decode cX10_pleases 34 = .ok (.iadd, 1) := by decide +kernel
theorem dX10_pleases_35 : decode cX10_pleases 35 = .ok (.iaload, 1) := by decide +kernel
theorem dX10_pleases_36 : decode cX10_pleases 36 = .ok (.goto 4, 3) := by decide +kernel
theorem dX10_pleases_39 : decode cX10_pleases 39 = .ok (.iconst 0, 1) := by decide +kernel
theorem dX10_pleases_40 : decode cX10_pleases 40 = .ok (.ior, 1) := by decide +kernel
theorem dX10_pleases_41 : decode cX10_pleases 41 = .ok (.istore_n 3, 1) := by decide +kernel
theorem dX10_pleases_42 : decode cX10_pleases 42 = .ok (.iinc 4 1, 3) := by decide +kernel
theorem dX10_pleases_45 : decode cX10_pleases 45 = .ok (.goto (-40), 3) := by decide +kernel
theorem dX10_pleases_48 : decode cX10_pleases 48 = .ok (.aload_n 0, 1) := by decide +kernel
theorem dX10_pleases_49 : decode cX10_pleases 49 = .ok (.getfield 22, 3) := by decide +kernel
theorem dX10_pleases_52 : decode cX10_pleases 52 = .ok (.bipush 17, 2) := by decide +kernel
theorem dX10_pleases_54 : decode cX10_pleases 54 = .ok (.iload_n 1, 1) := by decide +kernel
theorem dX10_pleases_55 : decode cX10_pleases 55 = .ok (.iadd, 1) := by decide +kernel
theorem dX10_pleases_56 : decode cX10_pleases 56 = .ok (.iaload, 1) := by decide +kernel
theorem dX10_pleases_57 : decode cX10_pleases 57 = .ok (.iload_n 3, 1) := by decide +kernel
theorem dX10_pleases_58 : decode cX10_pleases 58 = .ok (.iand, 1) := by decide +kernel
theorem dX10_pleases_59 : decode cX10_pleases 59 = .ok (.invokestatic 188, 3) := by decide +kernel
theorem dX10_pleases_62 : decode cX10_pleases 62 = .ok (.ireturn, 1) := by decide +kernel
theorem dX10_findWanted_0 : decode cX10_findWanted 0 = .ok (.iconst 0, 1) := by decide +kernel
theorem dX10_findWanted_1 : decode cX10_findWanted 1 = .ok (.istore_n 1, 1) := by decide +kernel
theorem dX10_findWanted_2 : decode cX10_findWanted 2 = .ok (.iload_n 1, 1) := by decide +kernel
theorem dX10_findWanted_3 : decode cX10_findWanted 3 = .ok (.iconst 1, 1) := by decide +kernel
theorem dX10_findWanted_4 : decode cX10_findWanted 4 = .ok (.aload_n 0, 1) := by decide +kernel
theorem dX10_findWanted_5 : decode cX10_findWanted 5 = .ok (.getfield 79, 3) := by decide +kernel
theorem dX10_findWanted_8 : decode cX10_findWanted 8 = .ok (.ishl, 1) := by decide +kernel
theorem dX10_findWanted_9 : decode cX10_findWanted 9 = .ok (.if_icmp .ge 25, 3) := by decide +kernel
theorem dX10_findWanted_12 : decode cX10_findWanted 12 = .ok (.aload_n 0, 1) := by decide +kernel
theorem dX10_findWanted_13 : decode cX10_findWanted 13 = .ok (.getfield 57, 3) := by decide +kernel
theorem dX10_findWanted_16 : decode cX10_findWanted 16 = .ok (.sipush 256, 3) := by decide +kernel
theorem dX10_findWanted_19 : decode cX10_findWanted 19 = .ok (.aload_n 0, 1) := by decide +kernel
theorem dX10_findWanted_20 : decode cX10_findWanted 20 = .ok (.getfield 72, 3) := by decide +kernel
theorem dX10_findWanted_23 : decode cX10_findWanted 23 = .ok (.imul, 1) := by decide +kernel
theorem dX10_findWanted_24 : decode cX10_findWanted 24 = .ok (.iload_n 1, 1) := by decide +kernel
theorem dX10_findWanted_25 : decode cX10_findWanted 25 = .ok (.iadd, 1) := by decide +kernel
theorem dX10_findWanted_26 : decode cX10_findWanted 26 = .ok (.iconst 0, 1) := by decide +kernel
theorem dX10_findWanted_27 : decode cX10_findWanted 27 = .ok (.iastore, 1) := by decide +kernel
theorem dX10_findWanted_28 : decode cX10_findWanted 28 = .ok (.iinc 1 1, 3) := by decide +kernel
theorem dX10_findWanted_31 : decode cX10_findWanted 31 = .ok (.goto (-29), 3) := by decide +kernel
theorem dX10_findWanted_34 : decode cX10_findWanted 34 = .ok (.aload_n 0, 1) := by decide +kernel
theorem dX10_findWanted_35 : decode cX10_findWanted 35 = .ok (.getfield 72, 3) := by decide +kernel
theorem dX10_findWanted_38 : decode cX10_findWanted 38 = .ok (.iconst 1, 1) := by decide +kernel
theorem dX10_findWanted_39 : decode cX10_findWanted 39 = .ok (.isub, 1) := by decide +kernel
theorem dX10_findWanted_40 : decode cX10_findWanted 40 = .ok (.istore_n 1, 1) := by decide +kernel
theorem dX10_findWanted_41 : decode cX10_findWanted 41 = .ok (.iload_n 1, 1) := by decide +kernel
theorem dX10_findWanted_42 : decode cX10_findWanted 42 = .ok (.ifCond .lt 132, 3) := by decide +kernel
theorem dX10_findWanted_45 : decode cX10_findWanted 45 = .ok (.iconst 0, 1) := by decide +kernel
theorem dX10_findWanted_46 : decode cX10_findWanted 46 = .ok (.istore_n 2, 1) := by decide +kernel
theorem dX10_findWanted_47 : decode cX10_findWanted 47 = .ok (.iload_n 2, 1) := by decide +kernel
theorem dX10_findWanted_48 : decode cX10_findWanted 48 = .ok (.iconst 1, 1) := by decide +kernel
theorem dX10_findWanted_49 : decode cX10_findWanted 49 = .ok (.aload_n 0, 1) := by decide +kernel
theorem dX10_findWanted_50 : decode cX10_findWanted 50 = .ok (.getfield 79, 3) := by decide +kernel
theorem dX10_findWanted_53 : decode cX10_findWanted 53 = .ok (.ishl, 1) := by decide +kernel
theorem dX10_findWanted_54 : decode cX10_findWanted 54 = .ok (.if_icmp .ge 114, 3) := by decide +kernel
theorem dX10_findWanted_57 : decode cX10_findWanted 57 = .ok (.aload_n 0, 1) := by decide +kernel
theorem dX10_findWanted_58 : decode cX10_findWanted 58 = .ok (.getfield 57, 3) := by decide +kernel
theorem dX10_findWanted_61 : decode cX10_findWanted 61 = .ok (.sipush 256, 3) := by decide +kernel
theorem dX10_findWanted_64 : decode cX10_findWanted 64 = .ok (.iload_n 1, 1) := by decide +kernel
theorem dX10_findWanted_65 : decode cX10_findWanted 65 = .ok (.imul, 1) := by decide +kernel
theorem dX10_findWanted_66 : decode cX10_findWanted 66 = .ok (.sipush 256, 3) := by decide +kernel
theorem dX10_findWanted_69 : decode cX10_findWanted 69 = .ok (.iadd, 1) := by decide +kernel
theorem dX10_findWanted_70 : decode cX10_findWanted 70 = .ok (.iload_n 2, 1) := by decide +kernel
theorem dX10_findWanted_71 : decode cX10_findWanted 71 = .ok (.iadd, 1) := by decide +kernel
theorem dX10_findWanted_72 : decode cX10_findWanted 72 = .ok (.iaload, 1) := by decide +kernel
theorem dX10_findWanted_73 : decode cX10_findWanted 73 = .ok (.istore_n 3, 1) := by decide +kernel
theorem dX10_findWanted_74 : decode cX10_findWanted 74 = .ok (.iconst 0, 1) := by decide +kernel
theorem dX10_findWanted_75 : decode cX10_findWanted 75 = .ok (.istore 4, 2) := by decide +kernel
theorem dX10_findWanted_77 : decode cX10_findWanted 77 = .ok (.iload 4, 2) := by decide +kernel
theorem dX10_findWanted_79 : decode cX10_findWanted 79 = .ok (.aload_n 0, 1) := by decide +kernel
theorem dX10_findWanted_80 : decode cX10_findWanted 80 = .ok (.getfield 79, 3) := by decide +kernel
theorem dX10_findWanted_83 : decode cX10_findWanted 83 = .ok (.if_icmp .ge 66, 3) := by decide +kernel
theorem dX10_findWanted_86 : decode cX10_findWanted 86 = .ok (.iload_n 2, 1) := by decide +kernel
theorem dX10_findWanted_87 : decode cX10_findWanted 87 = .ok (.iload 4, 2) := by decide +kernel
theorem dX10_findWanted_89 : decode cX10_findWanted 89 = .ok (.invokestatic 175, 3) := by decide +kernel
theorem dX10_findWanted_92 : decode cX10_findWanted 92 = .ok (.ifCond .eq 7, 3) := by decide +kernel
theorem dX10_findWanted_95 : decode cX10_findWanted 95 = .ok (.iconst (-1), 1) := by decide +kernel
theorem dX10_findWanted_96 : decode cX10_findWanted 96 = .ok (.goto 32, 3) := by decide +kernel
theorem dX10_findWanted_99 : decode cX10_findWanted 99 = .ok (.aload_n 0, 1) := by decide +kernel
theorem dX10_findWanted_100 : decode cX10_findWanted 100 = .ok (.iload 4, 2) := by decide +kernel
theorem dX10_findWanted_102 : decode cX10_findWanted 102 = .ok (.iload_n 1, 1) := by decide +kernel
theorem dX10_findWanted_103 : decode cX10_findWanted 103 = .ok (.invokevirtual 311, 3) := by decide +kernel
theorem dX10_findWanted_106 : decode cX10_findWanted 106 = .ok (.aload_n 0, 1) := by decide +kernel
theorem dX10_findWanted_107 : decode cX10_findWanted 107 = .ok (.getfield 57, 3) := by decide +kernel
theorem dX10_findWanted_110 : decode cX10_findWanted 110 = .ok (.sipush 256, 3) := by decide +kernel
theorem dX10_findWanted_113 : decode cX10_findWanted 113 = .ok (.iload_n 1, 1) := by decide +kernel
theorem dX10_findWanted_114 : decode cX10_findWanted 114 = .ok (.imul, 1) := by decide +kernel
theorem dX10_findWanted_115 : decode cX10_findWanted 115 = .ok (.sipush 256, 3) := by decide +kernel
theorem dX10_findWanted_118 : decode cX10_findWanted 118 = .ok (.iadd, 1) := by decide +kernel
theorem dX10_findWanted_119 : decode cX10_findWanted 119 = .ok (.iload_n 2, 1) := by decide +kernel
theorem dX10_findWanted_120 : decode cX10_findWanted 120 = .ok (.iconst 1, 1) := by decide +kernel
theorem dX10_findWanted_121 : decode cX10_findWanted 121 = .ok (.iload 4, 2) := by decide +kernel
theorem dX10_findWanted_123 : decode cX10_findWanted 123 = .ok (.ishl, 1) := by decide +kernel
theorem dX10_findWanted_124 : decode cX10_findWanted 124 = .ok (.ior, 1) := by decide +kernel
theorem dX10_findWanted_125 : decode cX10_findWanted 125 = .ok (.iadd, 1) := by decide +kernel
theorem dX10_findWanted_126 : decode cX10_findWanted 126 = .ok (.iaload, 1) := by decide +kernel
theorem dX10_findWanted_127 : decode cX10_findWanted 127 = .ok (.iadd, 1) := by decide +kernel
theorem dX10_findWanted_128 : decode cX10_findWanted 128 = .ok (.istore 5, 2) := by decide +kernel
theorem dX10_findWanted_130 : decode cX10_findWanted 130 = .ok (.iload 5, 2) := by decide +kernel
theorem dX10_findWanted_132 : decode cX10_findWanted 132 = .ok (.iload_n 3, 1) := by decide +kernel
theorem dX10_findWanted_133 : decode cX10_findWanted 133 = .ok (.if_icmp .le 8, 3) := by decide +kernel
theorem dX10_findWanted_136 : decode cX10_findWanted 136 = .ok (.iload 5, 2) := by decide +kernel
theorem dX10_findWanted_138 : decode cX10_findWanted 138 = .ok (.goto 4, 3) := by decide +kernel
theorem dX10_findWanted_141 : decode cX10_findWanted 141 = .ok (.iload_n 3, 1) := by decide +kernel
theorem dX10_findWanted_142 : decode cX10_findWanted 142 = .ok (.istore_n 3, 1) := by decide +kernel
theorem dX10_findWanted_143 : decode cX10_findWanted 143 = .ok (.iinc 4 1, 3) := by decide +kernel
theorem dX10_findWanted_146 : decode cX10_findWanted 146 = .ok (.goto (-69), 3) := by decide +kernel
theorem dX10_findWanted_149 : decode cX10_findWanted 149 = .ok (.aload_n 0, 1) := by decide +kernel
theorem dX10_findWanted_150 : decode cX10_findWanted 150 = .ok (.getfield 57, 3) := by decide +kernel
theorem dX10_findWanted_153 : decode cX10_findWanted 153 = .ok (.sipush 256, 3) := by decide +kernel
theorem dX10_findWanted_156 : decode cX10_findWanted 156 = .ok (.iload_n 1, 1) := by decide +kernel
theorem dX10_findWanted_157 : decode cX10_findWanted 157 = .ok (.imul, 1) := by decide +kernel
theorem dX10_findWanted_158 : decode cX10_findWanted 158 = .ok (.iload_n 2, 1) := by decide +kernel
theorem dX10_findWanted_159 : decode cX10_findWanted 159 = .ok (.iadd, 1) := by decide +kernel
theorem dX10_findWanted_160 : decode cX10_findWanted 160 = .ok (.iload_n 3, 1) := by decide +kernel
theorem dX10_findWanted_161 : decode cX10_findWanted 161 = .ok (.iastore, 1) := by decide +kernel
theorem dX10_findWanted_162 : decode cX10_findWanted 162 = .ok (.iinc 2 1, 3) := by decide +kernel
theorem dX10_findWanted_165 : decode cX10_findWanted 165 = .ok (.goto (-118), 3) := by decide +kernel
theorem dX10_findWanted_168 : decode cX10_findWanted 168 = .ok (.iinc 1 (-1), 3) := by decide +kernel
theorem dX10_findWanted_171 : decode cX10_findWanted 171 = .ok (.goto (-130), 3) := by decide +kernel
theorem dX10_findWanted_174 : decode cX10_findWanted 174 = .ok (.return_, 1) := by decide +kernel
theorem dX10_wantedBy_0 : decode cX10_wantedBy 0 = .ok (.iconst 0, 1) := by decide +kernel
theorem dX10_wantedBy_1 : decode cX10_wantedBy 1 = .ok (.istore_n 2, 1) := by decide +kernel
theorem dX10_wantedBy_2 : decode cX10_wantedBy 2 = .ok (.iconst (-1), 1) := by decide +kernel
theorem dX10_wantedBy_3 : decode cX10_wantedBy 3 = .ok (.istore_n 3, 1) := by decide +kernel
theorem dX10_wantedBy_4 : decode cX10_wantedBy 4 = .ok (.iconst 0, 1) := by decide +kernel
theorem dX10_wantedBy_5 : decode cX10_wantedBy 5 = .ok (.istore 4, 2) := by decide +kernel
theorem dX10_wantedBy_7 : decode cX10_wantedBy 7 = .ok (.iload 4, 2) := by decide +kernel
theorem dX10_wantedBy_9 : decode cX10_wantedBy 9 = .ok (.iload_n 1, 1) := by decide +kernel
theorem dX10_wantedBy_10 : decode cX10_wantedBy 10 = .ok (.if_icmp .gt 119, 3) := by decide +kernel
theorem dX10_wantedBy_13 : decode cX10_wantedBy 13 = .ok (.iconst (-1), 1) := by decide +kernel
theorem dX10_wantedBy_14 : decode cX10_wantedBy 14 = .ok (.istore_n 3, 1) := by decide +kernel
theorem dX10_wantedBy_15 : decode cX10_wantedBy 15 = .ok (.aload_n 0, 1) := by decide +kernel
theorem dX10_wantedBy_16 : decode cX10_wantedBy 16 = .ok (.getfield 79, 3) := by decide +kernel
theorem dX10_wantedBy_19 : decode cX10_wantedBy 19 = .ok (.iconst 1, 1) := by decide +kernel
theorem dX10_wantedBy_20 : decode cX10_wantedBy 20 = .ok (.isub, 1) := by decide +kernel
theorem dX10_wantedBy_21 : decode cX10_wantedBy 21 = .ok (.istore 5, 2) := by decide +kernel
theorem dX10_wantedBy_23 : decode cX10_wantedBy 23 = .ok (.iload 5, 2) := by decide +kernel
theorem dX10_wantedBy_25 : decode cX10_wantedBy 25 = .ok (.ifCond .lt 84, 3) := by decide +kernel
theorem dX10_wantedBy_28 : decode cX10_wantedBy 28 = .ok (.iload_n 2, 1) := by decide +kernel
theorem dX10_wantedBy_29 : decode cX10_wantedBy 29 = .ok (.iload 5, 2) := by decide +kernel
theorem dX10_wantedBy_31 : decode cX10_wantedBy 31 = .ok (.invokestatic 175, 3) := by decide +kernel
theorem dX10_wantedBy_34 : decode cX10_wantedBy 34 = .ok (.ifCond .ne 54, 3) := by decide +kernel
theorem dX10_wantedBy_37 : decode cX10_wantedBy 37 = .ok (.aload_n 0, 1) := by decide +kernel
theorem dX10_wantedBy_38 : decode cX10_wantedBy 38 = .ok (.iload 5, 2) := by decide +kernel
theorem dX10_wantedBy_40 : decode cX10_wantedBy 40 = .ok (.iload 4, 2) := by decide +kernel
theorem dX10_wantedBy_42 : decode cX10_wantedBy 42 = .ok (.invokevirtual 311, 3) := by decide +kernel
theorem dX10_wantedBy_45 : decode cX10_wantedBy 45 = .ok (.aload_n 0, 1) := by decide +kernel
theorem dX10_wantedBy_46 : decode cX10_wantedBy 46 = .ok (.getfield 57, 3) := by decide +kernel
theorem dX10_wantedBy_49 : decode cX10_wantedBy 49 = .ok (.sipush 256, 3) := by decide +kernel
theorem dX10_wantedBy_52 : decode cX10_wantedBy 52 = .ok (.iload 4, 2) := by decide +kernel
theorem dX10_wantedBy_54 : decode cX10_wantedBy 54 = .ok (.imul, 1) := by decide +kernel
theorem dX10_wantedBy_55 : decode cX10_wantedBy 55 = .ok (.sipush 256, 3) := by decide +kernel
theorem dX10_wantedBy_58 : decode cX10_wantedBy 58 = .ok (.iadd, 1) := by decide +kernel
theorem dX10_wantedBy_59 : decode cX10_wantedBy 59 = .ok (.iload_n 2, 1) := by decide +kernel
theorem dX10_wantedBy_60 : decode cX10_wantedBy 60 = .ok (.iconst 1, 1) := by decide +kernel
theorem dX10_wantedBy_61 : decode cX10_wantedBy 61 = .ok (.iload 5, 2) := by decide +kernel
theorem dX10_wantedBy_63 : decode cX10_wantedBy 63 = .ok (.ishl, 1) := by decide +kernel
theorem dX10_wantedBy_64 : decode cX10_wantedBy 64 = .ok (.ior, 1) := by decide +kernel
theorem dX10_wantedBy_65 : decode cX10_wantedBy 65 = .ok (.iadd, 1) := by decide +kernel
theorem dX10_wantedBy_66 : decode cX10_wantedBy 66 = .ok (.iaload, 1) := by decide +kernel
theorem dX10_wantedBy_67 : decode cX10_wantedBy 67 = .ok (.iadd, 1) := by decide +kernel
theorem dX10_wantedBy_68 : decode cX10_wantedBy 68 = .ok (.aload_n 0, 1) := by decide +kernel
theorem dX10_wantedBy_69 : decode cX10_wantedBy 69 = .ok (.getfield 57, 3) := by decide +kernel
theorem dX10_wantedBy_72 : decode cX10_wantedBy 72 = .ok (.sipush 256, 3) := by decide +kernel
theorem dX10_wantedBy_75 : decode cX10_wantedBy 75 = .ok (.iload 4, 2) := by decide +kernel
theorem dX10_wantedBy_77 : decode cX10_wantedBy 77 = .ok (.imul, 1) := by decide +kernel
theorem dX10_wantedBy_78 : decode cX10_wantedBy 78 = .ok (.iload_n 2, 1) := by decide +kernel
theorem dX10_wantedBy_79 : decode cX10_wantedBy 79 = .ok (.iadd, 1) := by decide +kernel
theorem dX10_wantedBy_80 : decode cX10_wantedBy 80 = .ok (.iaload, 1) := by decide +kernel
theorem dX10_wantedBy_81 : decode cX10_wantedBy 81 = .ok (.if_icmp .ne 7, 3) := by decide +kernel
theorem dX10_wantedBy_84 : decode cX10_wantedBy 84 = .ok (.iconst 1, 1) := by decide +kernel
theorem dX10_wantedBy_85 : decode cX10_wantedBy 85 = .ok (.goto 4, 3) := by decide +kernel
theorem dX10_wantedBy_88 : decode cX10_wantedBy 88 = .ok (.iconst 0, 1) := by decide +kernel
theorem dX10_wantedBy_89 : decode cX10_wantedBy 89 = .ok (.istore 6, 2) := by decide +kernel
theorem dX10_wantedBy_91 : decode cX10_wantedBy 91 = .ok (.iload 6, 2) := by decide +kernel
theorem dX10_wantedBy_93 : decode cX10_wantedBy 93 = .ok (.ifCond .eq 8, 3) := by decide +kernel
theorem dX10_wantedBy_96 : decode cX10_wantedBy 96 = .ok (.iload 5, 2) := by decide +kernel
theorem dX10_wantedBy_98 : decode cX10_wantedBy 98 = .ok (.goto 4, 3) := by decide +kernel
theorem dX10_wantedBy_101 : decode cX10_wantedBy 101 = .ok (.iload_n 3, 1) := by decide +kernel
theorem dX10_wantedBy_102 : decode cX10_wantedBy 102 = .ok (.istore_n 3, 1) := by decide +kernel
theorem dX10_wantedBy_103 : decode cX10_wantedBy 103 = .ok (.iinc 5 (-1), 3) := by decide +kernel
theorem dX10_wantedBy_106 : decode cX10_wantedBy 106 = .ok (.goto (-83), 3) := by decide +kernel
theorem dX10_wantedBy_109 : decode cX10_wantedBy 109 = .ok (.iload_n 2, 1) := by decide +kernel
theorem dX10_wantedBy_110 : decode cX10_wantedBy 110 = .ok (.iload_n 3, 1) := by decide +kernel
theorem dX10_wantedBy_111 : decode cX10_wantedBy 111 = .ok (.ifCond .ge 7, 3) := by decide +kernel
theorem dX10_wantedBy_114 : decode cX10_wantedBy 114 = .ok (.iconst 0, 1) := by decide +kernel
theorem dX10_wantedBy_115 : decode cX10_wantedBy 115 = .ok (.goto 6, 3) := by decide +kernel
theorem dX10_wantedBy_118 : decode cX10_wantedBy 118 = .ok (.iconst 1, 1) := by decide +kernel
theorem dX10_wantedBy_119 : decode cX10_wantedBy 119 = .ok (.iload_n 3, 1) := by decide +kernel
theorem dX10_wantedBy_120 : decode cX10_wantedBy 120 = .ok (.ishl, 1) := by decide +kernel
theorem dX10_wantedBy_121 : decode cX10_wantedBy 121 = .ok (.ior, 1) := by decide +kernel
theorem dX10_wantedBy_122 : decode cX10_wantedBy 122 = .ok (.istore_n 2, 1) := by decide +kernel
theorem dX10_wantedBy_123 : decode cX10_wantedBy 123 = .ok (.iinc 4 1, 3) := by decide +kernel
theorem dX10_wantedBy_126 : decode cX10_wantedBy 126 = .ok (.goto (-119), 3) := by decide +kernel
theorem dX10_wantedBy_129 : decode cX10_wantedBy 129 = .ok (.iload_n 3, 1) := by decide +kernel
theorem dX10_wantedBy_130 : decode cX10_wantedBy 130 = .ok (.ireturn, 1) := by decide +kernel
theorem dX10_wanted_0 : decode cX10_wanted 0 = .ok (.iload_n 1, 1) := by decide +kernel
theorem dX10_wanted_1 : decode cX10_wanted 1 = .ok (.iconst (-1), 1) := by decide +kernel
theorem dX10_wanted_2 : decode cX10_wanted 2 = .ok (.if_icmp .eq 14, 3) := by decide +kernel
theorem dX10_wanted_5 : decode cX10_wanted 5 = .ok (.aload_n 0, 1) := by decide +kernel
theorem dX10_wanted_6 : decode cX10_wanted 6 = .ok (.iload_n 1, 1) := by decide +kernel
theorem dX10_wanted_7 : decode cX10_wanted 7 = .ok (.invokevirtual 219, 3) := by decide +kernel
theorem dX10_wanted_10 : decode cX10_wanted 10 = .ok (.ifCond .ne 6, 3) := by decide +kernel
theorem dX10_wanted_13 : decode cX10_wanted 13 = .ok (.ldc 218, 2) := by decide +kernel
theorem dX10_wanted_15 : decode cX10_wanted 15 = .ok (.ireturn, 1) := by decide +kernel
theorem dX10_wanted_16 : decode cX10_wanted 16 = .ok (.aload_n 0, 1) := by decide +kernel
theorem dX10_wanted_17 : decode cX10_wanted 17 = .ok (.invokevirtual 314, 3) := by decide +kernel
theorem dX10_wanted_20 : decode cX10_wanted 20 = .ok (.iload_n 1, 1) := by decide +kernel
theorem dX10_wanted_21 : decode cX10_wanted 21 = .ok (.iconst (-1), 1) := by decide +kernel
theorem dX10_wanted_22 : decode cX10_wanted 22 = .ok (.if_icmp .ne 12, 3) := by decide +kernel
theorem dX10_wanted_25 : decode cX10_wanted 25 = .ok (.aload_n 0, 1) := by decide +kernel
theorem dX10_wanted_26 : decode cX10_wanted 26 = .ok (.getfield 57, 3) := by decide +kernel
theorem dX10_wanted_29 : decode cX10_wanted 29 = .ok (.iconst 0, 1) := by decide +kernel
theorem dX10_wanted_30 : decode cX10_wanted 30 = .ok (.iaload, 1) := by decide +kernel
theorem dX10_wanted_31 : decode cX10_wanted 31 = .ok (.goto 8, 3) := by decide +kernel
theorem dX10_wanted_34 : decode cX10_wanted 34 = .ok (.aload_n 0, 1) := by decide +kernel
theorem dX10_wanted_35 : decode cX10_wanted 35 = .ok (.iload_n 1, 1) := by decide +kernel
theorem dX10_wanted_36 : decode cX10_wanted 36 = .ok (.invokevirtual 317, 3) := by decide +kernel
theorem dX10_wanted_39 : decode cX10_wanted 39 = .ok (.ireturn, 1) := by decide +kernel
theorem dX10_whoKnows_0 : decode cX10_whoKnows 0 = .ok (.iconst 1, 1) := by decide +kernel
theorem dX10_whoKnows_1 : decode cX10_whoKnows 1 = .ok (.iload_n 1, 1) := by decide +kernel
theorem dX10_whoKnows_2 : decode cX10_whoKnows 2 = .ok (.ishl, 1) := by decide +kernel
theorem dX10_whoKnows_3 : decode cX10_whoKnows 3 = .ok (.istore_n 3, 1) := by decide +kernel
theorem dX10_whoKnows_4 : decode cX10_whoKnows 4 = .ok (.iconst 0, 1) := by decide +kernel
theorem dX10_whoKnows_5 : decode cX10_whoKnows 5 = .ok (.istore 4, 2) := by decide +kernel
theorem dX10_whoKnows_7 : decode cX10_whoKnows 7 = .ok (.iload 4, 2) := by decide +kernel
theorem dX10_whoKnows_9 : decode cX10_whoKnows 9 = .ok (.iload_n 2, 1) := by decide +kernel
theorem dX10_whoKnows_10 : decode cX10_whoKnows 10 = .ok (.if_icmp .ge 74, 3) := by decide +kernel
theorem dX10_whoKnows_13 : decode cX10_whoKnows 13 = .ok (.iload_n 3, 1) := by decide +kernel
theorem dX10_whoKnows_14 : decode cX10_whoKnows 14 = .ok (.istore 5, 2) := by decide +kernel
theorem dX10_whoKnows_16 : decode cX10_whoKnows 16 = .ok (.iconst 0, 1) := by decide +kernel
theorem dX10_whoKnows_17 : decode cX10_whoKnows 17 = .ok (.istore 6, 2) := by decide +kernel
theorem dX10_whoKnows_19 : decode cX10_whoKnows 19 = .ok (.iload 6, 2) := by decide +kernel
theorem dX10_whoKnows_21 : decode cX10_whoKnows 21 = .ok (.aload_n 0, 1) := by decide +kernel
theorem dX10_whoKnows_22 : decode cX10_whoKnows 22 = .ok (.getfield 72, 3) := by decide +kernel
theorem dX10_whoKnows_25 : decode cX10_whoKnows 25 = .ok (.if_icmp .ge 50, 3) := by decide +kernel
theorem dX10_whoKnows_28 : decode cX10_whoKnows 28 = .ok (.iload 5, 2) := by decide +kernel
theorem dX10_whoKnows_30 : decode cX10_whoKnows 30 = .ok (.iload_n 3, 1) := by decide +kernel
theorem dX10_whoKnows_31 : decode cX10_whoKnows 31 = .ok (.iload 6, 2) := by decide +kernel
theorem dX10_whoKnows_33 : decode cX10_whoKnows 33 = .ok (.invokestatic 175, 3) := by decide +kernel
theorem dX10_whoKnows_36 : decode cX10_whoKnows 36 = .ok (.ifCond .eq 29, 3) := by decide +kernel
theorem dX10_whoKnows_39 : decode cX10_whoKnows 39 = .ok (.iconst 1, 1) := by decide +kernel
theorem dX10_whoKnows_40 : decode cX10_whoKnows 40 = .ok (.iload 6, 2) := by decide +kernel
theorem dX10_whoKnows_42 : decode cX10_whoKnows 42 = .ok (.iconst 1, 1) := by decide +kernel
theorem dX10_whoKnows_43 : decode cX10_whoKnows 43 = .ok (.iadd, 1) := by decide +kernel
theorem dX10_whoKnows_44 : decode cX10_whoKnows 44 = .ok (.aload_n 0, 1) := by decide +kernel
theorem dX10_whoKnows_45 : decode cX10_whoKnows 45 = .ok (.getfield 72, 3) := by decide +kernel
theorem dX10_whoKnows_48 : decode cX10_whoKnows 48 = .ok (.irem, 1) := by decide +kernel
theorem dX10_whoKnows_49 : decode cX10_whoKnows 49 = .ok (.ishl, 1) := by decide +kernel
theorem dX10_whoKnows_50 : decode cX10_whoKnows 50 = .ok (.iconst 1, 1) := by decide +kernel
theorem dX10_whoKnows_51 : decode cX10_whoKnows 51 = .ok (.iload 6, 2) := by decide +kernel
theorem dX10_whoKnows_53 : decode cX10_whoKnows 53 = .ok (.iconst 3, 1) := by decide +kernel
theorem dX10_whoKnows_54 : decode cX10_whoKnows 54 = .ok (.iadd, 1) := by decide +kernel
theorem dX10_whoKnows_55 : decode cX10_whoKnows 55 = .ok (.aload_n 0, 1) := by decide +kernel
theorem dX10_whoKnows_56 : decode cX10_whoKnows 56 = .ok (.getfield 72, 3) := by decide +kernel
theorem dX10_whoKnows_59 : decode cX10_whoKnows 59 = .ok (.irem, 1) := by decide +kernel
theorem dX10_whoKnows_60 : decode cX10_whoKnows 60 = .ok (.ishl, 1) := by decide +kernel
theorem dX10_whoKnows_61 : decode cX10_whoKnows 61 = .ok (.ior, 1) := by decide +kernel
theorem dX10_whoKnows_62 : decode cX10_whoKnows 62 = .ok (.goto 4, 3) := by decide +kernel
theorem dX10_whoKnows_65 : decode cX10_whoKnows 65 = .ok (.iconst 0, 1) := by decide +kernel
theorem dX10_whoKnows_66 : decode cX10_whoKnows 66 = .ok (.ior, 1) := by decide +kernel
theorem dX10_whoKnows_67 : decode cX10_whoKnows 67 = .ok (.istore 5, 2) := by decide +kernel
theorem dX10_whoKnows_69 : decode cX10_whoKnows 69 = .ok (.iinc 6 1, 3) := by decide +kernel
theorem dX10_whoKnows_72 : decode cX10_whoKnows 72 = .ok (.goto (-53), 3) := by decide +kernel
theorem dX10_whoKnows_75 : decode cX10_whoKnows 75 = .ok (.iload 5, 2) := by decide +kernel
theorem dX10_whoKnows_77 : decode cX10_whoKnows 77 = .ok (.istore_n 3, 1) := by decide +kernel
theorem dX10_whoKnows_78 : decode cX10_whoKnows 78 = .ok (.iinc 4 1, 3) := by decide +kernel
theorem dX10_whoKnows_81 : decode cX10_whoKnows 81 = .ok (.goto (-74), 3) := by decide +kernel
theorem dX10_whoKnows_84 : decode cX10_whoKnows 84 = .ok (.iload_n 3, 1) := by decide +kernel
theorem dX10_whoKnows_85 : decode cX10_whoKnows 85 = .ok (.ireturn, 1) := by decide +kernel
theorem dX10_know_0 : decode cX10_know 0 = .ok (.aload_n 0, 1) := by decide +kernel
theorem dX10_know_1 : decode cX10_know 1 = .ok (.iload_n 1, 1) := by decide +kernel
theorem dX10_know_2 : decode cX10_know 2 = .ok (.invokevirtual 219, 3) := by decide +kernel
theorem dX10_know_5 : decode cX10_know 5 = .ok (.ifCond .ne 6, 3) := by decide +kernel
theorem dX10_know_8 : decode cX10_know 8 = .ok (.ldc 218, 2) := by decide +kernel
theorem dX10_know_10 : decode cX10_know 10 = .ok (.ireturn, 1) := by decide +kernel
theorem dX10_know_11 : decode cX10_know 11 = .ok (.iload_n 2, 1) := by decide +kernel
theorem dX10_know_12 : decode cX10_know 12 = .ok (.i2l, 1) := by decide +kernel
theorem dX10_know_13 : decode cX10_know 13 = .ok (.ldc2_w 320, 3) := by decide +kernel
theorem dX10_know_16 : decode cX10_know 16 = .ok (.ldc2_w 322, 3) := by decide +kernel
theorem dX10_know_19 : decode cX10_know 19 = .ok (.invokestatic 75, 3) := by decide +kernel
theorem dX10_know_22 : decode cX10_know 22 = .ok (.ifCond .ne 6, 3) := by decide +kernel
theorem dX10_know_25 : decode cX10_know 25 = .ok (.ldc 84, 2) := by decide +kernel
theorem dX10_know_27 : decode cX10_know 27 = .ok (.ireturn, 1) := by decide +kernel
theorem dX10_know_28 : decode cX10_know 28 = .ok (.iload_n 2, 1) := by decide +kernel
theorem dX10_know_29 : decode cX10_know 29 = .ok (.ifCond .lt 10, 3) := by decide +kernel
theorem dX10_know_32 : decode cX10_know 32 = .ok (.aload_n 0, 1) := by decide +kernel
theorem dX10_know_33 : decode cX10_know 33 = .ok (.iload_n 1, 1) := by decide +kernel
theorem dX10_know_34 : decode cX10_know 34 = .ok (.iload_n 2, 1) := by decide +kernel
theorem dX10_know_35 : decode cX10_know 35 = .ok (.invokevirtual 324, 3) := by decide +kernel
theorem dX10_know_38 : decode cX10_know 38 = .ok (.ireturn, 1) := by decide +kernel
theorem dX10_know_39 : decode cX10_know 39 = .ok (.iconst 0, 1) := by decide +kernel
theorem dX10_know_40 : decode cX10_know 40 = .ok (.istore_n 3, 1) := by decide +kernel
theorem dX10_know_41 : decode cX10_know 41 = .ok (.aload_n 0, 1) := by decide +kernel
theorem dX10_know_42 : decode cX10_know 42 = .ok (.iload_n 1, 1) := by decide +kernel
theorem dX10_know_43 : decode cX10_know 43 = .ok (.iload_n 3, 1) := by decide +kernel
theorem dX10_know_44 : decode cX10_know 44 = .ok (.invokevirtual 324, 3) := by decide +kernel
theorem dX10_know_47 : decode cX10_know 47 = .ok (.iconst 1, 1) := by decide +kernel
theorem dX10_know_48 : decode cX10_know 48 = .ok (.aload_n 0, 1) := by decide +kernel
theorem dX10_know_49 : decode cX10_know 49 = .ok (.getfield 72, 3) := by decide +kernel
theorem dX10_know_52 : decode cX10_know 52 = .ok (.ishl, 1) := by decide +kernel
theorem dX10_know_53 : decode cX10_know 53 = .ok (.iconst 1, 1) := by decide +kernel
theorem dX10_know_54 : decode cX10_know 54 = .ok (.isub, 1) := by decide +kernel
theorem dX10_know_55 : decode cX10_know 55 = .ok (.if_icmp .eq 9, 3) := by decide +kernel
theorem dX10_know_58 : decode cX10_know 58 = .ok (.iinc 3 1, 3) := by decide +kernel
theorem dX10_know_61 : decode cX10_know 61 = .ok (.goto (-20), 3) := by decide +kernel
theorem dX10_know_64 : decode cX10_know 64 = .ok (.iload_n 3, 1) := by decide +kernel
theorem dX10_know_65 : decode cX10_know 65 = .ok (.ireturn, 1) := by decide +kernel
theorem dX10_parcels_0 : decode cX10_parcels 0 = .ok (.iload_n 1, 1) := by decide +kernel
theorem dX10_parcels_1 : decode cX10_parcels 1 = .ok (.i2l, 1) := by decide +kernel
theorem dX10_parcels_2 : decode cX10_parcels 2 = .ok (.lconst 0, 1) := by decide +kernel
theorem dX10_parcels_3 : decode cX10_parcels 3 = .ok (.ldc2_w 252, 3) := by decide +kernel
theorem dX10_parcels_6 : decode cX10_parcels 6 = .ok (.invokestatic 75, 3) := by decide +kernel
theorem dX10_parcels_9 : decode cX10_parcels 9 = .ok (.ifCond .eq 15, 3) := by decide +kernel
theorem dX10_parcels_12 : decode cX10_parcels 12 = .ok (.iload_n 2, 1) := by decide +kernel
theorem dX10_parcels_13 : decode cX10_parcels 13 = .ok (.i2l, 1) := by decide +kernel
theorem dX10_parcels_14 : decode cX10_parcels 14 = .ok (.lconst 0, 1) := by decide +kernel
theorem dX10_parcels_15 : decode cX10_parcels 15 = .ok (.ldc2_w 276, 3) := by decide +kernel
theorem dX10_parcels_18 : decode cX10_parcels 18 = .ok (.invokestatic 75, 3) := by decide +kernel
theorem dX10_parcels_21 : decode cX10_parcels 21 = .ok (.ifCond .ne 6, 3) := by decide +kernel
theorem dX10_parcels_24 : decode cX10_parcels 24 = .ok (.ldc 84, 2) := by decide +kernel
theorem dX10_parcels_26 : decode cX10_parcels 26 = .ok (.ireturn, 1) := by decide +kernel
theorem dX10_parcels_27 : decode cX10_parcels 27 = .ok (.ldc2_w 327, 3) := by decide +kernel
theorem dX10_parcels_30 : decode cX10_parcels 30 = .ok (.lstore_n 3, 1) := by decide +kernel
theorem dX10_parcels_31 : decode cX10_parcels 31 = .ok (.iconst 0, 1) := by decide +kernel
theorem dX10_parcels_32 : decode cX10_parcels 32 = .ok (.istore 5, 2) := by decide +kernel
theorem dX10_parcels_34 : decode cX10_parcels 34 = .ok (.iload 5, 2) := by decide +kernel
theorem dX10_parcels_36 : decode cX10_parcels 36 = .ok (.iload_n 1, 1) := by decide +kernel
theorem dX10_parcels_37 : decode cX10_parcels 37 = .ok (.if_icmp .ge 21, 3) := by decide +kernel
theorem dX10_parcels_40 : decode cX10_parcels 40 = .ok (.lload_n 3, 1) := by decide +kernel
theorem dX10_parcels_41 : decode cX10_parcels 41 = .ok (.bipush 100, 2) := by decide +kernel
theorem dX10_parcels_43 : decode cX10_parcels 43 = .ok (.iload_n 2, 1) := by decide +kernel
theorem dX10_parcels_44 : decode cX10_parcels 44 = .ok (.isub, 1) := by decide +kernel
theorem dX10_parcels_45 : decode cX10_parcels 45 = .ok (.i2l, 1) := by decide +kernel
theorem dX10_parcels_46 : decode cX10_parcels 46 = .ok (.lmul, 1) := by decide +kernel
theorem dX10_parcels_47 : decode cX10_parcels 47 = .ok (.ldc2_w 276, 3) := by decide +kernel
theorem dX10_parcels_50 : decode cX10_parcels 50 = .ok (.ldiv, 1) := by decide +kernel
theorem dX10_parcels_51 : decode cX10_parcels 51 = .ok (.lstore_n 3, 1) := by decide +kernel
theorem dX10_parcels_52 : decode cX10_parcels 52 = .ok (.iinc 5 1, 3) := by decide +kernel
theorem dX10_parcels_55 : decode cX10_parcels 55 = .ok (.goto (-21), 3) := by decide +kernel
theorem dX10_parcels_58 : decode cX10_parcels 58 = .ok (.lload_n 3, 1) := by decide +kernel
theorem dX10_parcels_59 : decode cX10_parcels 59 = .ok (.l2i, 1) := by decide +kernel
theorem dX10_parcels_60 : decode cX10_parcels 60 = .ok (.ireturn, 1) := by decide +kernel
theorem dX10_write_0 : decode cX10_write 0 = .ok (.aload_n 0, 1) := by decide +kernel
theorem dX10_write_1 : decode cX10_write 1 = .ok (.iload_n 1, 1) := by decide +kernel
theorem dX10_write_2 : decode cX10_write 2 = .ok (.invokevirtual 215, 3) := by decide +kernel
theorem dX10_write_5 : decode cX10_write 5 = .ok (.ifCond .eq 11, 3) := by decide +kernel
theorem dX10_write_8 : decode cX10_write 8 = .ok (.aload_n 0, 1) := by decide +kernel
theorem dX10_write_9 : decode cX10_write 9 = .ok (.iload_n 2, 1) := by decide +kernel
theorem dX10_write_10 : decode cX10_write 10 = .ok (.invokevirtual 219, 3) := by decide +kernel
theorem dX10_write_13 : decode cX10_write 13 = .ok (.ifCond .ne 6, 3) := by decide +kernel
theorem dX10_write_16 : decode cX10_write 16 = .ok (.ldc 218, 2) := by decide +kernel
theorem dX10_write_18 : decode cX10_write 18 = .ok (.ireturn, 1) := by decide +kernel
theorem dX10_write_19 : decode cX10_write 19 = .ok (.aload_n 0, 1) := by decide +kernel
theorem dX10_write_20 : decode cX10_write 20 = .ok (.getfield 169, 3) := by decide +kernel
theorem dX10_write_23 : decode cX10_write 23 = .ok (.bipush 15, 2) := by decide +kernel
theorem dX10_write_25 : decode cX10_write 25 = .ok (.if_icmp .ne 6, 3) := by decide +kernel
theorem dX10_write_28 : decode cX10_write 28 = .ok (.ldc 88, 2) := by decide +kernel
theorem dX10_write_30 : decode cX10_write 30 = .ok (.ireturn, 1) := by decide +kernel
theorem dX10_write_31 : decode cX10_write 31 = .ok (.aload_n 0, 1) := by decide +kernel
theorem dX10_write_32 : decode cX10_write 32 = .ok (.getfield 60, 3) := by decide +kernel
theorem dX10_write_35 : decode cX10_write 35 = .ok (.aload_n 0, 1) := by decide +kernel
theorem dX10_write_36 : decode cX10_write 36 = .ok (.getfield 169, 3) := by decide +kernel
theorem dX10_write_39 : decode cX10_write 39 = .ok (.iload_n 1, 1) := by decide +kernel
end
section
theorem dX10_write_40 : decode cX10_write 40 = .ok (.iastore, 1) := by decide +kernel
theorem dX10_write_41 : decode cX10_write 41 = .ok (.aload_n 0, 1) := by decide +kernel
theorem dX10_write_42 : decode cX10_write 42 = .ok (.getfield 63, 3) := by decide +kernel
theorem dX10_write_45 : decode cX10_write 45 = .ok (.aload_n 0, 1) := by decide +kernel
theorem dX10_write_46 : decode cX10_write 46 = .ok (.getfield 169, 3) := by decide +kernel
theorem dX10_write_49 : decode cX10_write 49 = .ok (.iload_n 2, 1) := by decide +kernel
theorem dX10_write_50 : decode cX10_write 50 = .ok (.iastore, 1) := by decide +kernel
theorem dX10_write_51 : decode cX10_write 51 = .ok (.aload_n 0, 1) := by decide +kernel
theorem dX10_write_52 : decode cX10_write 52 = .ok (.dup, 1) := by decide +kernel
theorem dX10_write_53 : decode cX10_write 53 = .ok (.getfield 169, 3) := by decide +kernel
theorem dX10_write_56 : decode cX10_write 56 = .ok (.iconst 1, 1) := by decide +kernel
theorem dX10_write_57 : decode cX10_write 57 = .ok (.iadd, 1) := by decide +kernel
theorem dX10_write_58 : decode cX10_write 58 = .ok (.putfield 169, 3) := by decide +kernel
theorem dX10_write_61 : decode cX10_write 61 = .ok (.aload_n 0, 1) := by decide +kernel
theorem dX10_write_62 : decode cX10_write 62 = .ok (.getfield 169, 3) := by decide +kernel
theorem dX10_write_65 : decode cX10_write 65 = .ok (.ireturn, 1) := by decide +kernel
theorem dX10_tear_0 : decode cX10_tear 0 = .ok (.aload_n 0, 1) := by decide +kernel
theorem dX10_tear_1 : decode cX10_tear 1 = .ok (.getfield 169, 3) := by decide +kernel
theorem dX10_tear_4 : decode cX10_tear 4 = .ok (.istore_n 1, 1) := by decide +kernel
theorem dX10_tear_5 : decode cX10_tear 5 = .ok (.aload_n 0, 1) := by decide +kernel
theorem dX10_tear_6 : decode cX10_tear 6 = .ok (.iconst 0, 1) := by decide +kernel
theorem dX10_tear_7 : decode cX10_tear 7 = .ok (.putfield 169, 3) := by decide +kernel
theorem dX10_tear_10 : decode cX10_tear 10 = .ok (.iload_n 1, 1) := by decide +kernel
theorem dX10_tear_11 : decode cX10_tear 11 = .ok (.ireturn, 1) := by decide +kernel
theorem dX10_judge_0 : decode cX10_judge 0 = .ok (.iconst 0, 1) := by decide +kernel
theorem dX10_judge_1 : decode cX10_judge 1 = .ok (.istore_n 1, 1) := by decide +kernel
theorem dX10_judge_2 : decode cX10_judge 2 = .ok (.iload_n 1, 1) := by decide +kernel
theorem dX10_judge_3 : decode cX10_judge 3 = .ok (.aload_n 0, 1) := by decide +kernel
theorem dX10_judge_4 : decode cX10_judge 4 = .ok (.getfield 169, 3) := by decide +kernel
theorem dX10_judge_7 : decode cX10_judge 7 = .ok (.if_icmp .ge 31, 3) := by decide +kernel
theorem dX10_judge_10 : decode cX10_judge 10 = .ok (.aload_n 0, 1) := by decide +kernel
theorem dX10_judge_11 : decode cX10_judge 11 = .ok (.getfield 22, 3) := by decide +kernel
theorem dX10_judge_14 : decode cX10_judge 14 = .ok (.aload_n 0, 1) := by decide +kernel
theorem dX10_judge_15 : decode cX10_judge 15 = .ok (.getfield 60, 3) := by decide +kernel
theorem dX10_judge_18 : decode cX10_judge 18 = .ok (.iload_n 1, 1) := by decide +kernel
theorem dX10_judge_19 : decode cX10_judge 19 = .ok (.iaload, 1) := by decide +kernel
theorem dX10_judge_20 : decode cX10_judge 20 = .ok (.iaload, 1) := by decide +kernel
theorem dX10_judge_21 : decode cX10_judge 21 = .ok (.aload_n 0, 1) := by decide +kernel
theorem dX10_judge_22 : decode cX10_judge 22 = .ok (.getfield 63, 3) := by decide +kernel
theorem dX10_judge_25 : decode cX10_judge 25 = .ok (.iload_n 1, 1) := by decide +kernel
theorem dX10_judge_26 : decode cX10_judge 26 = .ok (.iaload, 1) := by decide +kernel
theorem dX10_judge_27 : decode cX10_judge 27 = .ok (.if_icmp .eq 5, 3) := by decide +kernel
theorem dX10_judge_30 : decode cX10_judge 30 = .ok (.iload_n 1, 1) := by decide +kernel
theorem dX10_judge_31 : decode cX10_judge 31 = .ok (.ireturn, 1) := by decide +kernel
theorem dX10_judge_32 : decode cX10_judge 32 = .ok (.iinc 1 1, 3) := by decide +kernel
theorem dX10_judge_35 : decode cX10_judge 35 = .ok (.goto (-33), 3) := by decide +kernel
theorem dX10_judge_38 : decode cX10_judge 38 = .ok (.iconst (-1), 1) := by decide +kernel
theorem dX10_judge_39 : decode cX10_judge 39 = .ok (.ireturn, 1) := by decide +kernel
theorem dX10_seed_0 : decode cX10_seed 0 = .ok (.iload_n 1, 1) := by decide +kernel
theorem dX10_seed_1 : decode cX10_seed 1 = .ok (.ifCond .ge 6, 3) := by decide +kernel
theorem dX10_seed_4 : decode cX10_seed 4 = .ok (.ldc 84, 2) := by decide +kernel
theorem dX10_seed_6 : decode cX10_seed 6 = .ok (.ireturn, 1) := by decide +kernel
theorem dX10_seed_7 : decode cX10_seed 7 = .ok (.aload_n 0, 1) := by decide +kernel
theorem dX10_seed_8 : decode cX10_seed 8 = .ok (.getfield 260, 3) := by decide +kernel
theorem dX10_seed_11 : decode cX10_seed 11 = .ok (.istore_n 2, 1) := by decide +kernel
theorem dX10_seed_12 : decode cX10_seed 12 = .ok (.aload_n 0, 1) := by decide +kernel
theorem dX10_seed_13 : decode cX10_seed 13 = .ok (.iload_n 1, 1) := by decide +kernel
theorem dX10_seed_14 : decode cX10_seed 14 = .ok (.putfield 260, 3) := by decide +kernel
theorem dX10_seed_17 : decode cX10_seed 17 = .ok (.iload_n 2, 1) := by decide +kernel
theorem dX10_seed_18 : decode cX10_seed 18 = .ok (.ireturn, 1) := by decide +kernel
theorem dX10_keep_0 : decode cX10_keep 0 = .ok (.iload_n 1, 1) := by decide +kernel
theorem dX10_keep_1 : decode cX10_keep 1 = .ok (.i2l, 1) := by decide +kernel
theorem dX10_keep_2 : decode cX10_keep 2 = .ok (.lconst 0, 1) := by decide +kernel
theorem dX10_keep_3 : decode cX10_keep 3 = .ok (.lconst 1, 1) := by decide +kernel
theorem dX10_keep_4 : decode cX10_keep 4 = .ok (.invokestatic 75, 3) := by decide +kernel
theorem dX10_keep_7 : decode cX10_keep 7 = .ok (.ifCond .ne 6, 3) := by decide +kernel
theorem dX10_keep_10 : decode cX10_keep 10 = .ok (.ldc 218, 2) := by decide +kernel
theorem dX10_keep_12 : decode cX10_keep 12 = .ok (.ireturn, 1) := by decide +kernel
theorem dX10_keep_13 : decode cX10_keep 13 = .ok (.iconst 0, 1) := by decide +kernel
theorem dX10_keep_14 : decode cX10_keep 14 = .ok (.istore_n 2, 1) := by decide +kernel
theorem dX10_keep_15 : decode cX10_keep 15 = .ok (.iload_n 2, 1) := by decide +kernel
theorem dX10_keep_16 : decode cX10_keep 16 = .ok (.bipush 36, 2) := by decide +kernel
theorem dX10_keep_18 : decode cX10_keep 18 = .ok (.if_icmp .ge 26, 3) := by decide +kernel
theorem dX10_keep_21 : decode cX10_keep 21 = .ok (.aload_n 0, 1) := by decide +kernel
theorem dX10_keep_22 : decode cX10_keep 22 = .ok (.getfield 66, 3) := by decide +kernel
theorem dX10_keep_25 : decode cX10_keep 25 = .ok (.bipush 37, 2) := by decide +kernel
theorem dX10_keep_27 : decode cX10_keep 27 = .ok (.iload_n 1, 1) := by decide +kernel
theorem dX10_keep_28 : decode cX10_keep 28 = .ok (.imul, 1) := by decide +kernel
theorem dX10_keep_29 : decode cX10_keep 29 = .ok (.iload_n 2, 1) := by decide +kernel
theorem dX10_keep_30 : decode cX10_keep 30 = .ok (.iadd, 1) := by decide +kernel
theorem dX10_keep_31 : decode cX10_keep 31 = .ok (.aload_n 0, 1) := by decide +kernel
theorem dX10_keep_32 : decode cX10_keep 32 = .ok (.getfield 22, 3) := by decide +kernel
theorem dX10_keep_35 : decode cX10_keep 35 = .ok (.iload_n 2, 1) := by decide +kernel
theorem dX10_keep_36 : decode cX10_keep 36 = .ok (.iaload, 1) := by decide +kernel
theorem dX10_keep_37 : decode cX10_keep 37 = .ok (.iastore, 1) := by decide +kernel
theorem dX10_keep_38 : decode cX10_keep 38 = .ok (.iinc 2 1, 3) := by decide +kernel
theorem dX10_keep_41 : decode cX10_keep 41 = .ok (.goto (-26), 3) := by decide +kernel
theorem dX10_keep_44 : decode cX10_keep 44 = .ok (.aload_n 0, 1) := by decide +kernel
theorem dX10_keep_45 : decode cX10_keep 45 = .ok (.getfield 66, 3) := by decide +kernel
theorem dX10_keep_48 : decode cX10_keep 48 = .ok (.bipush 37, 2) := by decide +kernel
theorem dX10_keep_50 : decode cX10_keep 50 = .ok (.iload_n 1, 1) := by decide +kernel
theorem dX10_keep_51 : decode cX10_keep 51 = .ok (.imul, 1) := by decide +kernel
theorem dX10_keep_52 : decode cX10_keep 52 = .ok (.bipush 36, 2) := by decide +kernel
theorem dX10_keep_54 : decode cX10_keep 54 = .ok (.iadd, 1) := by decide +kernel
theorem dX10_keep_55 : decode cX10_keep 55 = .ok (.aload_n 0, 1) := by decide +kernel
theorem dX10_keep_56 : decode cX10_keep 56 = .ok (.getfield 260, 3) := by decide +kernel
theorem dX10_keep_59 : decode cX10_keep 59 = .ok (.iastore, 1) := by decide +kernel
theorem dX10_keep_60 : decode cX10_keep 60 = .ok (.aload_n 0, 1) := by decide +kernel
theorem dX10_keep_61 : decode cX10_keep 61 = .ok (.getfield 69, 3) := by decide +kernel
theorem dX10_keep_64 : decode cX10_keep 64 = .ok (.iload_n 1, 1) := by decide +kernel
theorem dX10_keep_65 : decode cX10_keep 65 = .ok (.iconst 1, 1) := by decide +kernel
theorem dX10_keep_66 : decode cX10_keep 66 = .ok (.bastore, 1) := by decide +kernel
theorem dX10_keep_67 : decode cX10_keep 67 = .ok (.aload_n 0, 1) := by decide +kernel
theorem dX10_keep_68 : decode cX10_keep 68 = .ok (.iconst 0, 1) := by decide +kernel
theorem dX10_keep_69 : decode cX10_keep 69 = .ok (.putfield 172, 3) := by decide +kernel
theorem dX10_keep_72 : decode cX10_keep 72 = .ok (.iconst 1, 1) := by decide +kernel
theorem dX10_keep_73 : decode cX10_keep 73 = .ok (.ireturn, 1) := by decide +kernel
theorem dX10_goBack_0 : decode cX10_goBack 0 = .ok (.iload_n 1, 1) := by decide +kernel
theorem dX10_goBack_1 : decode cX10_goBack 1 = .ok (.i2l, 1) := by decide +kernel
theorem dX10_goBack_2 : decode cX10_goBack 2 = .ok (.lconst 0, 1) := by decide +kernel
theorem dX10_goBack_3 : decode cX10_goBack 3 = .ok (.lconst 1, 1) := by decide +kernel
theorem dX10_goBack_4 : decode cX10_goBack 4 = .ok (.invokestatic 75, 3) := by decide +kernel
theorem dX10_goBack_7 : decode cX10_goBack 7 = .ok (.ifCond .ne 6, 3) := by decide +kernel
theorem dX10_goBack_10 : decode cX10_goBack 10 = .ok (.ldc 218, 2) := by decide +kernel
theorem dX10_goBack_12 : decode cX10_goBack 12 = .ok (.ireturn, 1) := by decide +kernel
theorem dX10_goBack_13 : decode cX10_goBack 13 = .ok (.aload_n 0, 1) := by decide +kernel
theorem dX10_goBack_14 : decode cX10_goBack 14 = .ok (.getfield 69, 3) := by decide +kernel
theorem dX10_goBack_17 : decode cX10_goBack 17 = .ok (.iload_n 1, 1) := by decide +kernel
theorem dX10_goBack_18 : decode cX10_goBack 18 = .ok (.baload, 1) := by decide +kernel
theorem dX10_goBack_19 : decode cX10_goBack 19 = .ok (.ifCond .ne 6, 3) := by decide +kernel
theorem dX10_goBack_22 : decode cX10_goBack 22 = .ok (.ldc 236, 2) := by decide +kernel
theorem dX10_goBack_24 : decode cX10_goBack 24 = .ok (.ireturn, 1) := by decide +kernel
theorem dX10_goBack_25 : decode cX10_goBack 25 = .ok (.iconst 0, 1) := by decide +kernel
theorem dX10_goBack_26 : decode cX10_goBack 26 = .ok (.istore_n 2, 1) := by decide +kernel
theorem dX10_goBack_27 : decode cX10_goBack 27 = .ok (.iload_n 2, 1) := by decide +kernel
theorem dX10_goBack_28 : decode cX10_goBack 28 = .ok (.bipush 36, 2) := by decide +kernel
theorem dX10_goBack_30 : decode cX10_goBack 30 = .ok (.if_icmp .ge 26, 3) := by decide +kernel
theorem dX10_goBack_33 : decode cX10_goBack 33 = .ok (.aload_n 0, 1) := by decide +kernel
theorem dX10_goBack_34 : decode cX10_goBack 34 = .ok (.getfield 22, 3) := by decide +kernel
theorem dX10_goBack_37 : decode cX10_goBack 37 = .ok (.iload_n 2, 1) := by decide +kernel
theorem dX10_goBack_38 : decode cX10_goBack 38 = .ok (.aload_n 0, 1) := by decide +kernel
theorem dX10_goBack_39 : decode cX10_goBack 39 = .ok (.getfield 66, 3) := by decide +kernel
theorem dX10_goBack_42 : decode cX10_goBack 42 = .ok (.bipush 37, 2) := by decide +kernel
theorem dX10_goBack_44 : decode cX10_goBack 44 = .ok (.iload_n 1, 1) := by decide +kernel
theorem dX10_goBack_45 : decode cX10_goBack 45 = .ok (.imul, 1) := by decide +kernel
theorem dX10_goBack_46 : decode cX10_goBack 46 = .ok (.iload_n 2, 1) := by decide +kernel
theorem dX10_goBack_47 : decode cX10_goBack 47 = .ok (.iadd, 1) := by decide +kernel
theorem dX10_goBack_48 : decode cX10_goBack 48 = .ok (.iaload, 1) := by decide +kernel
theorem dX10_goBack_49 : decode cX10_goBack 49 = .ok (.iastore, 1) := by decide +kernel
theorem dX10_goBack_50 : decode cX10_goBack 50 = .ok (.iinc 2 1, 3) := by decide +kernel
theorem dX10_goBack_53 : decode cX10_goBack 53 = .ok (.goto (-26), 3) := by decide +kernel
theorem dX10_goBack_56 : decode cX10_goBack 56 = .ok (.aload_n 0, 1) := by decide +kernel
theorem dX10_goBack_57 : decode cX10_goBack 57 = .ok (.aload_n 0, 1) := by decide +kernel
theorem dX10_goBack_58 : decode cX10_goBack 58 = .ok (.getfield 66, 3) := by decide +kernel
theorem dX10_goBack_61 : decode cX10_goBack 61 = .ok (.bipush 37, 2) := by decide +kernel
theorem dX10_goBack_63 : decode cX10_goBack 63 = .ok (.iload_n 1, 1) := by decide +kernel
theorem dX10_goBack_64 : decode cX10_goBack 64 = .ok (.imul, 1) := by decide +kernel
theorem dX10_goBack_65 : decode cX10_goBack 65 = .ok (.bipush 36, 2) := by decide +kernel
theorem dX10_goBack_67 : decode cX10_goBack 67 = .ok (.iadd, 1) := by decide +kernel
theorem dX10_goBack_68 : decode cX10_goBack 68 = .ok (.iaload, 1) := by decide +kernel
theorem dX10_goBack_69 : decode cX10_goBack 69 = .ok (.putfield 260, 3) := by decide +kernel
theorem dX10_goBack_72 : decode cX10_goBack 72 = .ok (.aload_n 0, 1) := by decide +kernel
theorem dX10_goBack_73 : decode cX10_goBack 73 = .ok (.iconst 0, 1) := by decide +kernel
theorem dX10_goBack_74 : decode cX10_goBack 74 = .ok (.putfield 172, 3) := by decide +kernel
theorem dX10_goBack_77 : decode cX10_goBack 77 = .ok (.iconst 1, 1) := by decide +kernel
theorem dX10_goBack_78 : decode cX10_goBack 78 = .ok (.ireturn, 1) := by decide +kernel
theorem dJ6_bitCount_0f7a4_0 : decode cJ6_bitCount_0f7a4 0 = .ok (.iload_n 0, 1) := by decide +kernel
theorem dJ6_bitCount_0f7a4_1 : decode cJ6_bitCount_0f7a4 1 = .ok (.iload_n 0, 1) := by decide +kernel
theorem dJ6_bitCount_0f7a4_2 : decode cJ6_bitCount_0f7a4 2 = .ok (.iconst 1, 1) := by decide +kernel
theorem dJ6_bitCount_0f7a4_3 : decode cJ6_bitCount_0f7a4 3 = .ok (.iushr, 1) := by decide +kernel
theorem dJ6_bitCount_0f7a4_4 : decode cJ6_bitCount_0f7a4 4 = .ok (.ldc_w 265, 3) := by decide +kernel
theorem dJ6_bitCount_0f7a4_7 : decode cJ6_bitCount_0f7a4 7 = .ok (.iand, 1) := by decide +kernel
theorem dJ6_bitCount_0f7a4_8 : decode cJ6_bitCount_0f7a4 8 = .ok (.isub, 1) := by decide +kernel
theorem dJ6_bitCount_0f7a4_9 : decode cJ6_bitCount_0f7a4 9 = .ok (.istore_n 0, 1) := by decide +kernel
theorem dJ6_bitCount_0f7a4_10 : decode cJ6_bitCount_0f7a4 10 = .ok (.iload_n 0, 1) := by decide +kernel
theorem dJ6_bitCount_0f7a4_11 : decode cJ6_bitCount_0f7a4 11 = .ok (.ldc_w 266, 3) := by decide +kernel
theorem dJ6_bitCount_0f7a4_14 : decode cJ6_bitCount_0f7a4 14 = .ok (.iand, 1) := by decide +kernel
theorem dJ6_bitCount_0f7a4_15 : decode cJ6_bitCount_0f7a4 15 = .ok (.iload_n 0, 1) := by decide +kernel
theorem dJ6_bitCount_0f7a4_16 : decode cJ6_bitCount_0f7a4 16 = .ok (.iconst 2, 1) := by decide +kernel
theorem dJ6_bitCount_0f7a4_17 : decode cJ6_bitCount_0f7a4 17 = .ok (.iushr, 1) := by decide +kernel
theorem dJ6_bitCount_0f7a4_18 : decode cJ6_bitCount_0f7a4 18 = .ok (.ldc_w 266, 3) := by decide +kernel
theorem dJ6_bitCount_0f7a4_21 : decode cJ6_bitCount_0f7a4 21 = .ok (.iand, 1) := by decide +kernel
theorem dJ6_bitCount_0f7a4_22 : decode cJ6_bitCount_0f7a4 22 = .ok (.iadd, 1) := by decide +kernel
theorem dJ6_bitCount_0f7a4_23 : decode cJ6_bitCount_0f7a4 23 = .ok (.istore_n 0, 1) := by decide +kernel
theorem dJ6_bitCount_0f7a4_24 : decode cJ6_bitCount_0f7a4 24 = .ok (.iload_n 0, 1) := by decide +kernel
theorem dJ6_bitCount_0f7a4_25 : decode cJ6_bitCount_0f7a4 25 = .ok (.iload_n 0, 1) := by decide +kernel
theorem dJ6_bitCount_0f7a4_26 : decode cJ6_bitCount_0f7a4 26 = .ok (.iconst 4, 1) := by decide +kernel
theorem dJ6_bitCount_0f7a4_27 : decode cJ6_bitCount_0f7a4 27 = .ok (.iushr, 1) := by decide +kernel
theorem dJ6_bitCount_0f7a4_28 : decode cJ6_bitCount_0f7a4 28 = .ok (.iadd, 1) := by decide +kernel
theorem dJ6_bitCount_0f7a4_29 : decode cJ6_bitCount_0f7a4 29 = .ok (.ldc_w 267, 3) := by decide +kernel
theorem dJ6_bitCount_0f7a4_32 : decode cJ6_bitCount_0f7a4 32 = .ok (.iand, 1) := by decide +kernel
theorem dJ6_bitCount_0f7a4_33 : decode cJ6_bitCount_0f7a4 33 = .ok (.istore_n 0, 1) := by decide +kernel
theorem dJ6_bitCount_0f7a4_34 : decode cJ6_bitCount_0f7a4 34 = .ok (.iload_n 0, 1) := by decide +kernel
theorem dJ6_bitCount_0f7a4_35 : decode cJ6_bitCount_0f7a4 35 = .ok (.iload_n 0, 1) := by decide +kernel
theorem dJ6_bitCount_0f7a4_36 : decode cJ6_bitCount_0f7a4 36 = .ok (.bipush 8, 2) := by decide +kernel
theorem dJ6_bitCount_0f7a4_38 : decode cJ6_bitCount_0f7a4 38 = .ok (.iushr, 1) := by decide +kernel
theorem dJ6_bitCount_0f7a4_39 : decode cJ6_bitCount_0f7a4 39 = .ok (.iadd, 1) := by decide +kernel
theorem dJ6_bitCount_0f7a4_40 : decode cJ6_bitCount_0f7a4 40 = .ok (.istore_n 0, 1) := by decide +kernel
theorem dJ6_bitCount_0f7a4_41 : decode cJ6_bitCount_0f7a4 41 = .ok (.iload_n 0, 1) := by decide +kernel
theorem dJ6_bitCount_0f7a4_42 : decode cJ6_bitCount_0f7a4 42 = .ok (.iload_n 0, 1) := by decide +kernel
theorem dJ6_bitCount_0f7a4_43 : decode cJ6_bitCount_0f7a4 43 = .ok (.bipush 16, 2) := by decide +kernel
theorem dJ6_bitCount_0f7a4_45 : decode cJ6_bitCount_0f7a4 45 = .ok (.iushr, 1) := by decide +kernel
theorem dJ6_bitCount_0f7a4_46 : decode cJ6_bitCount_0f7a4 46 = .ok (.iadd, 1) := by decide +kernel
theorem dJ6_bitCount_0f7a4_47 : decode cJ6_bitCount_0f7a4 47 = .ok (.istore_n 0, 1) := by decide +kernel
theorem dJ6_bitCount_0f7a4_48 : decode cJ6_bitCount_0f7a4 48 = .ok (.iload_n 0, 1) := by decide +kernel
theorem dJ6_bitCount_0f7a4_49 : decode cJ6_bitCount_0f7a4 49 = .ok (.bipush 63, 2) := by decide +kernel
theorem dJ6_bitCount_0f7a4_51 : decode cJ6_bitCount_0f7a4 51 = .ok (.iand, 1) := by decide +kernel
theorem dJ6_bitCount_0f7a4_52 : decode cJ6_bitCount_0f7a4 52 = .ok (.ireturn, 1) := by decide +kernel
theorem dJ9_max_7cf53_0 : decode cJ9_max_7cf53 0 = .ok (.iload_n 0, 1) := by decide +kernel
theorem dJ9_max_7cf53_1 : decode cJ9_max_7cf53 1 = .ok (.iload_n 1, 1) := by decide +kernel
theorem dJ9_max_7cf53_2 : decode cJ9_max_7cf53 2 = .ok (.if_icmp .lt 7, 3) := by decide +kernel
theorem dJ9_max_7cf53_5 : decode cJ9_max_7cf53 5 = .ok (.iload_n 0, 1) := by decide +kernel
theorem dJ9_max_7cf53_6 : decode cJ9_max_7cf53 6 = .ok (.goto 4, 3) := by decide +kernel
theorem dJ9_max_7cf53_9 : decode cJ9_max_7cf53 9 = .ok (.iload_n 1, 1) := by decide +kernel
theorem dJ9_max_7cf53_10 : decode cJ9_max_7cf53 10 = .ok (.ireturn, 1) := by decide +kernel
theorem dJ9_min_7cf53_0 : decode cJ9_min_7cf53 0 = .ok (.iload_n 0, 1) := by decide +kernel
theorem dJ9_min_7cf53_1 : decode cJ9_min_7cf53 1 = .ok (.iload_n 1, 1) := by decide +kernel
theorem dJ9_min_7cf53_2 : decode cJ9_min_7cf53 2 = .ok (.if_icmp .gt 7, 3) := by decide +kernel
theorem dJ9_min_7cf53_5 : decode cJ9_min_7cf53 5 = .ok (.iload_n 0, 1) := by decide +kernel
theorem dJ9_min_7cf53_6 : decode cJ9_min_7cf53 6 = .ok (.goto 4, 3) := by decide +kernel
theorem dJ9_min_7cf53_9 : decode cJ9_min_7cf53 9 = .ok (.iload_n 1, 1) := by decide +kernel
theorem dJ9_min_7cf53_10 : decode cJ9_min_7cf53 10 = .ok (.ireturn, 1) := by decide +kernel
theorem dJ7_fill_53178_0 : decode cJ7_fill_53178 0 = .ok (.iconst 0, 1) := by decide +kernel
theorem dJ7_fill_53178_1 : decode cJ7_fill_53178 1 = .ok (.istore_n 2, 1) := by decide +kernel
theorem dJ7_fill_53178_2 : decode cJ7_fill_53178 2 = .ok (.aload_n 0, 1) := by decide +kernel
theorem dJ7_fill_53178_3 : decode cJ7_fill_53178 3 = .ok (.arraylength, 1) := by decide +kernel
theorem dJ7_fill_53178_4 : decode cJ7_fill_53178 4 = .ok (.istore_n 3, 1) := by decide +kernel
theorem dJ7_fill_53178_5 : decode cJ7_fill_53178 5 = .ok (.iload_n 2, 1) := by decide +kernel
theorem dJ7_fill_53178_6 : decode cJ7_fill_53178 6 = .ok (.iload_n 3, 1) := by decide +kernel
theorem dJ7_fill_53178_7 : decode cJ7_fill_53178 7 = .ok (.if_icmp .ge 13, 3) := by decide +kernel
theorem dJ7_fill_53178_10 : decode cJ7_fill_53178 10 = .ok (.aload_n 0, 1) := by decide +kernel
theorem dJ7_fill_53178_11 : decode cJ7_fill_53178 11 = .ok (.iload_n 2, 1) := by decide +kernel
theorem dJ7_fill_53178_12 : decode cJ7_fill_53178 12 = .ok (.iload_n 1, 1) := by decide +kernel
theorem dJ7_fill_53178_13 : decode cJ7_fill_53178 13 = .ok (.iastore, 1) := by decide +kernel
theorem dJ7_fill_53178_14 : decode cJ7_fill_53178 14 = .ok (.iinc 2 1, 3) := by decide +kernel
theorem dJ7_fill_53178_17 : decode cJ7_fill_53178 17 = .ok (.goto (-12), 3) := by decide +kernel
theorem dJ7_fill_53178_20 : decode cJ7_fill_53178 20 = .ok (.return_, 1) := by decide +kernel
theorem dL_law_0 : decode cL_law 0 = .ok (.new 7, 3) := by decide +kernel
theorem dL_law_3 : decode cL_law 3 = .ok (.dup, 1) := by decide +kernel
theorem dL_law_4 : decode cL_law 4 = .ok (.invokespecial 9, 3) := by decide +kernel
theorem dL_law_7 : decode cL_law 7 = .ok (.astore_n 1, 1) := by decide +kernel
theorem dL_law_8 : decode cL_law 8 = .ok (.new 10, 3) := by decide +kernel
theorem dL_law_11 : decode cL_law 11 = .ok (.dup, 1) := by decide +kernel
theorem dL_law_12 : decode cL_law 12 = .ok (.invokespecial 12, 3) := by decide +kernel
theorem dL_law_15 : decode cL_law 15 = .ok (.astore_n 2, 1) := by decide +kernel
theorem dL_law_16 : decode cL_law 16 = .ok (.iconst 0, 1) := by decide +kernel
theorem dL_law_17 : decode cL_law 17 = .ok (.istore_n 3, 1) := by decide +kernel
theorem dL_law_18 : decode cL_law 18 = .ok (.iload_n 3, 1) := by decide +kernel
theorem dL_law_19 : decode cL_law 19 = .ok (.aload_n 0, 1) := by decide +kernel
theorem dL_law_20 : decode cL_law 20 = .ok (.arraylength, 1) := by decide +kernel
theorem dL_law_21 : decode cL_law 21 = .ok (.iconst 3, 1) := by decide +kernel
theorem dL_law_22 : decode cL_law 22 = .ok (.isub, 1) := by decide +kernel
theorem dL_law_23 : decode cL_law 23 = .ok (.if_icmp .gt 981, 3) := by decide +kernel
theorem dL_law_26 : decode cL_law 26 = .ok (.aload_n 0, 1) := by decide +kernel
theorem dL_law_27 : decode cL_law 27 = .ok (.iload_n 3, 1) := by decide +kernel
theorem dL_law_28 : decode cL_law 28 = .ok (.iaload, 1) := by decide +kernel
theorem dL_law_29 : decode cL_law 29 = .ok (.bipush 31, 2) := by decide +kernel
theorem dL_law_31 : decode cL_law 31 = .ok (.iand, 1) := by decide +kernel
theorem dL_law_32 : decode cL_law 32 = .ok (.tableswitch 966 0 31 #[144, 167, 180, 193, 216, 249, 282, 315, 348, 397, 430, 443, 466, 489, 502, 535, 558, 591, 614, 637, 670, 693, 726, 749, 772, 805, 838, 871, 884, 897, 920, 943], 144) := by decide +kernel
theorem dL_law_176 : decode cL_law 176 = .ok (.aload_n 1, 1) := by decide +kernel
theorem dL_law_177 : decode cL_law 177 = .ok (.aload_n 0, 1) := by decide +kernel
theorem dL_law_178 : decode cL_law 178 = .ok (.iload_n 3, 1) := by decide +kernel
theorem dL_law_179 : decode cL_law 179 = .ok (.iconst 1, 1) := by decide +kernel
theorem dL_law_180 : decode cL_law 180 = .ok (.iadd, 1) := by decide +kernel
theorem dL_law_181 : decode cL_law 181 = .ok (.iaload, 1) := by decide +kernel
theorem dL_law_182 : decode cL_law 182 = .ok (.invokevirtual 13, 3) := by decide +kernel
theorem dL_law_185 : decode cL_law 185 = .ok (.aload_n 2, 1) := by decide +kernel
theorem dL_law_186 : decode cL_law 186 = .ok (.aload_n 0, 1) := by decide +kernel
theorem dL_law_187 : decode cL_law 187 = .ok (.iload_n 3, 1) := by decide +kernel
theorem dL_law_188 : decode cL_law 188 = .ok (.iconst 1, 1) := by decide +kernel
theorem dL_law_189 : decode cL_law 189 = .ok (.iadd, 1) := by decide +kernel
theorem dL_law_190 : decode cL_law 190 = .ok (.iaload, 1) := by decide +kernel
theorem dL_law_191 : decode cL_law 191 = .ok (.invokevirtual 17, 3) := by decide +kernel
theorem dL_law_194 : decode cL_law 194 = .ok (.if_icmp .eq 804, 3) := by decide +kernel
theorem dL_law_197 : decode cL_law 197 = .ok (.iconst 0, 1) := by decide +kernel
theorem dL_law_198 : decode cL_law 198 = .ok (.ireturn, 1) := by decide +kernel
theorem dL_law_199 : decode cL_law 199 = .ok (.aload_n 1, 1) := by decide +kernel
theorem dL_law_200 : decode cL_law 200 = .ok (.invokevirtual 18, 3) := by decide +kernel
theorem dL_law_203 : decode cL_law 203 = .ok (.aload_n 2, 1) := by decide +kernel
theorem dL_law_204 : decode cL_law 204 = .ok (.invokevirtual 22, 3) := by decide +kernel
theorem dL_law_207 : decode cL_law 207 = .ok (.if_icmp .eq 791, 3) := by decide +kernel
theorem dL_law_210 : decode cL_law 210 = .ok (.iconst 0, 1) := by decide +kernel
theorem dL_law_211 : decode cL_law 211 = .ok (.ireturn, 1) := by decide +kernel
theorem dL_law_212 : decode cL_law 212 = .ok (.aload_n 1, 1) := by decide +kernel
theorem dL_law_213 : decode cL_law 213 = .ok (.invokevirtual 23, 3) := by decide +kernel
theorem dL_law_216 : decode cL_law 216 = .ok (.aload_n 2, 1) := by decide +kernel
theorem dL_law_217 : decode cL_law 217 = .ok (.invokevirtual 26, 3) := by decide +kernel
theorem dL_law_220 : decode cL_law 220 = .ok (.if_icmp .eq 778, 3) := by decide +kernel
theorem dL_law_223 : decode cL_law 223 = .ok (.iconst 0, 1) := by decide +kernel
theorem dL_law_224 : decode cL_law 224 = .ok (.ireturn, 1) := by decide +kernel
theorem dL_law_225 : decode cL_law 225 = .ok (.aload_n 1, 1) := by decide +kernel
theorem dL_law_226 : decode cL_law 226 = .ok (.aload_n 0, 1) := by decide +kernel
theorem dL_law_227 : decode cL_law 227 = .ok (.iload_n 3, 1) := by decide +kernel
theorem dL_law_228 : decode cL_law 228 = .ok (.iconst 1, 1) := by decide +kernel
theorem dL_law_229 : decode cL_law 229 = .ok (.iadd, 1) := by decide +kernel
theorem dL_law_230 : decode cL_law 230 = .ok (.iaload, 1) := by decide +kernel
theorem dL_law_231 : decode cL_law 231 = .ok (.invokevirtual 27, 3) := by decide +kernel
theorem dL_law_234 : decode cL_law 234 = .ok (.aload_n 2, 1) := by decide +kernel
theorem dL_law_235 : decode cL_law 235 = .ok (.aload_n 0, 1) := by decide +kernel
theorem dL_law_236 : decode cL_law 236 = .ok (.iload_n 3, 1) := by decide +kernel
theorem dL_law_237 : decode cL_law 237 = .ok (.iconst 1, 1) := by decide +kernel
theorem dL_law_238 : decode cL_law 238 = .ok (.iadd, 1) := by decide +kernel
theorem dL_law_239 : decode cL_law 239 = .ok (.iaload, 1) := by decide +kernel
theorem dL_law_240 : decode cL_law 240 = .ok (.invokevirtual 30, 3) := by decide +kernel
theorem dL_law_243 : decode cL_law 243 = .ok (.if_icmp .eq 755, 3) := by decide +kernel
theorem dL_law_246 : decode cL_law 246 = .ok (.iconst 0, 1) := by decide +kernel
theorem dL_law_247 : decode cL_law 247 = .ok (.ireturn, 1) := by decide +kernel
theorem dL_law_248 : decode cL_law 248 = .ok (.aload_n 1, 1) := by decide +kernel
theorem dL_law_249 : decode cL_law 249 = .ok (.aload_n 0, 1) := by decide +kernel
theorem dL_law_250 : decode cL_law 250 = .ok (.iload_n 3, 1) := by decide +kernel
theorem dL_law_251 : decode cL_law 251 = .ok (.iconst 1, 1) := by decide +kernel
theorem dL_law_252 : decode cL_law 252 = .ok (.iadd, 1) := by decide +kernel
theorem dL_law_253 : decode cL_law 253 = .ok (.iaload, 1) := by decide +kernel
theorem dL_law_254 : decode cL_law 254 = .ok (.aload_n 0, 1) := by decide +kernel
theorem dL_law_255 : decode cL_law 255 = .ok (.iload_n 3, 1) := by decide +kernel
theorem dL_law_256 : decode cL_law 256 = .ok (.iconst 2, 1) := by decide +kernel
theorem dL_law_257 : decode cL_law 257 = .ok (.iadd, 1) := by decide +kernel
theorem dL_law_258 : decode cL_law 258 = .ok (.iaload, 1) := by decide +kernel
theorem dL_law_259 : decode cL_law 259 = .ok (.invokevirtual 31, 3) := by decide +kernel
theorem dL_law_262 : decode cL_law 262 = .ok (.aload_n 2, 1) := by decide +kernel
theorem dL_law_263 : decode cL_law 263 = .ok (.aload_n 0, 1) := by decide +kernel
theorem dL_law_264 : decode cL_law 264 = .ok (.iload_n 3, 1) := by decide +kernel
theorem dL_law_265 : decode cL_law 265 = .ok (.iconst 1, 1) := by decide +kernel
theorem dL_law_266 : decode cL_law 266 = .ok (.iadd, 1) := by decide +kernel
theorem dL_law_267 : decode cL_law 267 = .ok (.iaload, 1) := by decide +kernel
theorem dL_law_268 : decode cL_law 268 = .ok (.aload_n 0, 1) := by decide +kernel
theorem dL_law_269 : decode cL_law 269 = .ok (.iload_n 3, 1) := by decide +kernel
theorem dL_law_270 : decode cL_law 270 = .ok (.iconst 2, 1) := by decide +kernel
theorem dL_law_271 : decode cL_law 271 = .ok (.iadd, 1) := by decide +kernel
theorem dL_law_272 : decode cL_law 272 = .ok (.iaload, 1) := by decide +kernel
theorem dL_law_273 : decode cL_law 273 = .ok (.invokevirtual 35, 3) := by decide +kernel
theorem dL_law_276 : decode cL_law 276 = .ok (.if_icmp .eq 722, 3) := by decide +kernel
theorem dL_law_279 : decode cL_law 279 = .ok (.iconst 0, 1) := by decide +kernel
theorem dL_law_280 : decode cL_law 280 = .ok (.ireturn, 1) := by decide +kernel
theorem dL_law_281 : decode cL_law 281 = .ok (.aload_n 1, 1) := by decide +kernel
theorem dL_law_282 : decode cL_law 282 = .ok (.aload_n 0, 1) := by decide +kernel
theorem dL_law_283 : decode cL_law 283 = .ok (.iload_n 3, 1) := by decide +kernel
theorem dL_law_284 : decode cL_law 284 = .ok (.iconst 1, 1) := by decide +kernel
theorem dL_law_285 : decode cL_law 285 = .ok (.iadd, 1) := by decide +kernel
theorem dL_law_286 : decode cL_law 286 = .ok (.iaload, 1) := by decide +kernel
theorem dL_law_287 : decode cL_law 287 = .ok (.aload_n 0, 1) := by decide +kernel
theorem dL_law_288 : decode cL_law 288 = .ok (.iload_n 3, 1) := by decide +kernel
theorem dL_law_289 : decode cL_law 289 = .ok (.iconst 2, 1) := by decide +kernel
theorem dL_law_290 : decode cL_law 290 = .ok (.iadd, 1) := by decide +kernel
theorem dL_law_291 : decode cL_law 291 = .ok (.iaload, 1) := by decide +kernel
theorem dL_law_292 : decode cL_law 292 = .ok (.invokevirtual 36, 3) := by decide +kernel
theorem dL_law_295 : decode cL_law 295 = .ok (.aload_n 2, 1) := by decide +kernel
theorem dL_law_296 : decode cL_law 296 = .ok (.aload_n 0, 1) := by decide +kernel
theorem dL_law_297 : decode cL_law 297 = .ok (.iload_n 3, 1) := by decide +kernel
theorem dL_law_298 : decode cL_law 298 = .ok (.iconst 1, 1) := by decide +kernel
theorem dL_law_299 : decode cL_law 299 = .ok (.iadd, 1) := by decide +kernel
theorem dL_law_300 : decode cL_law 300 = .ok (.iaload, 1) := by decide +kernel
theorem dL_law_301 : decode cL_law 301 = .ok (.aload_n 0, 1) := by decide +kernel
theorem dL_law_302 : decode cL_law 302 = .ok (.iload_n 3, 1) := by decide +kernel
theorem dL_law_303 : decode cL_law 303 = .ok (.iconst 2, 1) := by decide +kernel
theorem dL_law_304 : decode cL_law 304 = .ok (.iadd, 1) := by decide +kernel
theorem dL_law_305 : decode cL_law 305 = .ok (.iaload, 1) := by decide +kernel
theorem dL_law_306 : decode cL_law 306 = .ok (.invokevirtual 39, 3) := by decide +kernel
theorem dL_law_309 : decode cL_law 309 = .ok (.if_icmp .eq 689, 3) := by decide +kernel
theorem dL_law_312 : decode cL_law 312 = .ok (.iconst 0, 1) := by decide +kernel
theorem dL_law_313 : decode cL_law 313 = .ok (.ireturn, 1) := by decide +kernel
theorem dL_law_314 : decode cL_law 314 = .ok (.aload_n 1, 1) := by decide +kernel
theorem dL_law_315 : decode cL_law 315 = .ok (.aload_n 0, 1) := by decide +kernel
theorem dL_law_316 : decode cL_law 316 = .ok (.iload_n 3, 1) := by decide +kernel
theorem dL_law_317 : decode cL_law 317 = .ok (.iconst 1, 1) := by decide +kernel
theorem dL_law_318 : decode cL_law 318 = .ok (.iadd, 1) := by decide +kernel
theorem dL_law_319 : decode cL_law 319 = .ok (.iaload, 1) := by decide +kernel
theorem dL_law_320 : decode cL_law 320 = .ok (.aload_n 0, 1) := by decide +kernel
theorem dL_law_321 : decode cL_law 321 = .ok (.iload_n 3, 1) := by decide +kernel
theorem dL_law_322 : decode cL_law 322 = .ok (.iconst 2, 1) := by decide +kernel
theorem dL_law_323 : decode cL_law 323 = .ok (.iadd, 1) := by decide +kernel
theorem dL_law_324 : decode cL_law 324 = .ok (.iaload, 1) := by decide +kernel
theorem dL_law_325 : decode cL_law 325 = .ok (.invokevirtual 40, 3) := by decide +kernel
theorem dL_law_328 : decode cL_law 328 = .ok (.aload_n 2, 1) := by decide +kernel
theorem dL_law_329 : decode cL_law 329 = .ok (.aload_n 0, 1) := by decide +kernel
theorem dL_law_330 : decode cL_law 330 = .ok (.iload_n 3, 1) := by decide +kernel
theorem dL_law_331 : decode cL_law 331 = .ok (.iconst 1, 1) := by decide +kernel
theorem dL_law_332 : decode cL_law 332 = .ok (.iadd, 1) := by decide +kernel
theorem dL_law_333 : decode cL_law 333 = .ok (.iaload, 1) := by decide +kernel
theorem dL_law_334 : decode cL_law 334 = .ok (.aload_n 0, 1) := by decide +kernel
theorem dL_law_335 : decode cL_law 335 = .ok (.iload_n 3, 1) := by decide +kernel
theorem dL_law_336 : decode cL_law 336 = .ok (.iconst 2, 1) := by decide +kernel
theorem dL_law_337 : decode cL_law 337 = .ok (.iadd, 1) := by decide +kernel
theorem dL_law_338 : decode cL_law 338 = .ok (.iaload, 1) := by decide +kernel
theorem dL_law_339 : decode cL_law 339 = .ok (.invokevirtual 43, 3) := by decide +kernel
theorem dL_law_342 : decode cL_law 342 = .ok (.if_icmp .eq 656, 3) := by decide +kernel
theorem dL_law_345 : decode cL_law 345 = .ok (.iconst 0, 1) := by decide +kernel
theorem dL_law_346 : decode cL_law 346 = .ok (.ireturn, 1) := by decide +kernel
theorem dL_law_347 : decode cL_law 347 = .ok (.aload_n 1, 1) := by decide +kernel
theorem dL_law_348 : decode cL_law 348 = .ok (.aload_n 0, 1) := by decide +kernel
theorem dL_law_349 : decode cL_law 349 = .ok (.iload_n 3, 1) := by decide +kernel
theorem dL_law_350 : decode cL_law 350 = .ok (.iconst 1, 1) := by decide +kernel
theorem dL_law_351 : decode cL_law 351 = .ok (.iadd, 1) := by decide +kernel
theorem dL_law_352 : decode cL_law 352 = .ok (.iaload, 1) := by decide +kernel
theorem dL_law_353 : decode cL_law 353 = .ok (.aload_n 0, 1) := by decide +kernel
theorem dL_law_354 : decode cL_law 354 = .ok (.iload_n 3, 1) := by decide +kernel
theorem dL_law_355 : decode cL_law 355 = .ok (.iconst 2, 1) := by decide +kernel
theorem dL_law_356 : decode cL_law 356 = .ok (.iadd, 1) := by decide +kernel
theorem dL_law_357 : decode cL_law 357 = .ok (.iaload, 1) := by decide +kernel
theorem dL_law_358 : decode cL_law 358 = .ok (.invokevirtual 44, 3) := by decide +kernel
theorem dL_law_361 : decode cL_law 361 = .ok (.aload_n 2, 1) := by decide +kernel
theorem dL_law_362 : decode cL_law 362 = .ok (.aload_n 0, 1) := by decide +kernel
theorem dL_law_363 : decode cL_law 363 = .ok (.iload_n 3, 1) := by decide +kernel
theorem dL_law_364 : decode cL_law 364 = .ok (.iconst 1, 1) := by decide +kernel
theorem dL_law_365 : decode cL_law 365 = .ok (.iadd, 1) := by decide +kernel
theorem dL_law_366 : decode cL_law 366 = .ok (.iaload, 1) := by decide +kernel
theorem dL_law_367 : decode cL_law 367 = .ok (.aload_n 0, 1) := by decide +kernel
theorem dL_law_368 : decode cL_law 368 = .ok (.iload_n 3, 1) := by decide +kernel
theorem dL_law_369 : decode cL_law 369 = .ok (.iconst 2, 1) := by decide +kernel
theorem dL_law_370 : decode cL_law 370 = .ok (.iadd, 1) := by decide +kernel
theorem dL_law_371 : decode cL_law 371 = .ok (.iaload, 1) := by decide +kernel
theorem dL_law_372 : decode cL_law 372 = .ok (.invokevirtual 47, 3) := by decide +kernel
theorem dL_law_375 : decode cL_law 375 = .ok (.if_icmp .eq 623, 3) := by decide +kernel
theorem dL_law_378 : decode cL_law 378 = .ok (.iconst 0, 1) := by decide +kernel
theorem dL_law_379 : decode cL_law 379 = .ok (.ireturn, 1) := by decide +kernel
theorem dL_law_380 : decode cL_law 380 = .ok (.aload_n 1, 1) := by decide +kernel
theorem dL_law_381 : decode cL_law 381 = .ok (.aload_n 0, 1) := by decide +kernel
theorem dL_law_382 : decode cL_law 382 = .ok (.iload_n 3, 1) := by decide +kernel
theorem dL_law_383 : decode cL_law 383 = .ok (.iconst 1, 1) := by decide +kernel
theorem dL_law_384 : decode cL_law 384 = .ok (.iadd, 1) := by decide +kernel
theorem dL_law_385 : decode cL_law 385 = .ok (.iaload, 1) := by decide +kernel
theorem dL_law_386 : decode cL_law 386 = .ok (.aload_n 0, 1) := by decide +kernel
theorem dL_law_387 : decode cL_law 387 = .ok (.iload_n 3, 1) := by decide +kernel
theorem dL_law_388 : decode cL_law 388 = .ok (.iconst 2, 1) := by decide +kernel
theorem dL_law_389 : decode cL_law 389 = .ok (.iadd, 1) := by decide +kernel
theorem dL_law_390 : decode cL_law 390 = .ok (.iaload, 1) := by decide +kernel
theorem dL_law_391 : decode cL_law 391 = .ok (.ifCond .eq 7, 3) := by decide +kernel
theorem dL_law_394 : decode cL_law 394 = .ok (.iconst 1, 1) := by decide +kernel
theorem dL_law_395 : decode cL_law 395 = .ok (.goto 4, 3) := by decide +kernel
theorem dL_law_398 : decode cL_law 398 = .ok (.iconst 0, 1) := by decide +kernel
theorem dL_law_399 : decode cL_law 399 = .ok (.invokevirtual 48, 3) := by decide +kernel
theorem dL_law_402 : decode cL_law 402 = .ok (.aload_n 2, 1) := by decide +kernel
theorem dL_law_403 : decode cL_law 403 = .ok (.aload_n 0, 1) := by decide +kernel
theorem dL_law_404 : decode cL_law 404 = .ok (.iload_n 3, 1) := by decide +kernel
theorem dL_law_405 : decode cL_law 405 = .ok (.iconst 1, 1) := by decide +kernel
theorem dL_law_406 : decode cL_law 406 = .ok (.iadd, 1) := by decide +kernel
theorem dL_law_407 : decode cL_law 407 = .ok (.iaload, 1) := by decide +kernel
theorem dL_law_408 : decode cL_law 408 = .ok (.aload_n 0, 1) := by decide +kernel
theorem dL_law_409 : decode cL_law 409 = .ok (.iload_n 3, 1) := by decide +kernel
theorem dL_law_410 : decode cL_law 410 = .ok (.iconst 2, 1) := by decide +kernel
theorem dL_law_411 : decode cL_law 411 = .ok (.iadd, 1) := by decide +kernel
theorem dL_law_412 : decode cL_law 412 = .ok (.iaload, 1) := by decide +kernel
theorem dL_law_413 : decode cL_law 413 = .ok (.ifCond .eq 7, 3) := by decide +kernel
theorem dL_law_416 : decode cL_law 416 = .ok (.iconst 1, 1) := by decide +kernel
theorem dL_law_417 : decode cL_law 417 = .ok (.goto 4, 3) := by decide +kernel
theorem dL_law_420 : decode cL_law 420 = .ok (.iconst 0, 1) := by decide +kernel
theorem dL_law_421 : decode cL_law 421 = .ok (.invokevirtual 52, 3) := by decide +kernel
theorem dL_law_424 : decode cL_law 424 = .ok (.if_icmp .eq 574, 3) := by decide +kernel
theorem dL_law_427 : decode cL_law 427 = .ok (.iconst 0, 1) := by decide +kernel
theorem dL_law_428 : decode cL_law 428 = .ok (.ireturn, 1) := by decide +kernel
theorem dL_law_429 : decode cL_law 429 = .ok (.aload_n 1, 1) := by decide +kernel
theorem dL_law_430 : decode cL_law 430 = .ok (.aload_n 0, 1) := by decide +kernel
theorem dL_law_431 : decode cL_law 431 = .ok (.iload_n 3, 1) := by decide +kernel
theorem dL_law_432 : decode cL_law 432 = .ok (.iconst 1, 1) := by decide +kernel
theorem dL_law_433 : decode cL_law 433 = .ok (.iadd, 1) := by decide +kernel
theorem dL_law_434 : decode cL_law 434 = .ok (.iaload, 1) := by decide +kernel
theorem dL_law_435 : decode cL_law 435 = .ok (.aload_n 0, 1) := by decide +kernel
theorem dL_law_436 : decode cL_law 436 = .ok (.iload_n 3, 1) := by decide +kernel
theorem dL_law_437 : decode cL_law 437 = .ok (.iconst 2, 1) := by decide +kernel
theorem dL_law_438 : decode cL_law 438 = .ok (.iadd, 1) := by decide +kernel
theorem dL_law_439 : decode cL_law 439 = .ok (.iaload, 1) := by decide +kernel
theorem dL_law_440 : decode cL_law 440 = .ok (.invokevirtual 53, 3) := by decide +kernel
theorem dL_law_443 : decode cL_law 443 = .ok (.aload_n 2, 1) := by decide +kernel
theorem dL_law_444 : decode cL_law 444 = .ok (.aload_n 0, 1) := by decide +kernel
theorem dL_law_445 : decode cL_law 445 = .ok (.iload_n 3, 1) := by decide +kernel
theorem dL_law_446 : decode cL_law 446 = .ok (.iconst 1, 1) := by decide +kernel
theorem dL_law_447 : decode cL_law 447 = .ok (.iadd, 1) := by decide +kernel
theorem dL_law_448 : decode cL_law 448 = .ok (.iaload, 1) := by decide +kernel
theorem dL_law_449 : decode cL_law 449 = .ok (.aload_n 0, 1) := by decide +kernel
theorem dL_law_450 : decode cL_law 450 = .ok (.iload_n 3, 1) := by decide +kernel
theorem dL_law_451 : decode cL_law 451 = .ok (.iconst 2, 1) := by decide +kernel
theorem dL_law_452 : decode cL_law 452 = .ok (.iadd, 1) := by decide +kernel
theorem dL_law_453 : decode cL_law 453 = .ok (.iaload, 1) := by decide +kernel
theorem dL_law_454 : decode cL_law 454 = .ok (.invokevirtual 56, 3) := by decide +kernel
theorem dL_law_457 : decode cL_law 457 = .ok (.if_icmp .eq 541, 3) := by decide +kernel
theorem dL_law_460 : decode cL_law 460 = .ok (.iconst 0, 1) := by decide +kernel
theorem dL_law_461 : decode cL_law 461 = .ok (.ireturn, 1) := by decide +kernel
theorem dL_law_462 : decode cL_law 462 = .ok (.aload_n 1, 1) := by decide +kernel
theorem dL_law_463 : decode cL_law 463 = .ok (.invokevirtual 57, 3) := by decide +kernel
theorem dL_law_466 : decode cL_law 466 = .ok (.aload_n 2, 1) := by decide +kernel
theorem dL_law_467 : decode cL_law 467 = .ok (.invokevirtual 60, 3) := by decide +kernel
theorem dL_law_470 : decode cL_law 470 = .ok (.if_icmp .eq 528, 3) := by decide +kernel
theorem dL_law_473 : decode cL_law 473 = .ok (.iconst 0, 1) := by decide +kernel
theorem dL_law_474 : decode cL_law 474 = .ok (.ireturn, 1) := by decide +kernel
theorem dL_law_475 : decode cL_law 475 = .ok (.aload_n 1, 1) := by decide +kernel
theorem dL_law_476 : decode cL_law 476 = .ok (.aload_n 0, 1) := by decide +kernel
theorem dL_law_477 : decode cL_law 477 = .ok (.iload_n 3, 1) := by decide +kernel
theorem dL_law_478 : decode cL_law 478 = .ok (.iconst 1, 1) := by decide +kernel
theorem dL_law_479 : decode cL_law 479 = .ok (.iadd, 1) := by decide +kernel
theorem dL_law_480 : decode cL_law 480 = .ok (.iaload, 1) := by decide +kernel
theorem dL_law_481 : decode cL_law 481 = .ok (.invokevirtual 61, 3) := by decide +kernel
theorem dL_law_484 : decode cL_law 484 = .ok (.aload_n 2, 1) := by decide +kernel
theorem dL_law_485 : decode cL_law 485 = .ok (.aload_n 0, 1) := by decide +kernel
theorem dL_law_486 : decode cL_law 486 = .ok (.iload_n 3, 1) := by decide +kernel
theorem dL_law_487 : decode cL_law 487 = .ok (.iconst 1, 1) := by decide +kernel
theorem dL_law_488 : decode cL_law 488 = .ok (.iadd, 1) := by decide +kernel
theorem dL_law_489 : decode cL_law 489 = .ok (.iaload, 1) := by decide +kernel
theorem dL_law_490 : decode cL_law 490 = .ok (.invokevirtual 64, 3) := by decide +kernel
theorem dL_law_493 : decode cL_law 493 = .ok (.if_icmp .eq 505, 3) := by decide +kernel
theorem dL_law_496 : decode cL_law 496 = .ok (.iconst 0, 1) := by decide +kernel
theorem dL_law_497 : decode cL_law 497 = .ok (.ireturn, 1) := by decide +kernel
theorem dL_law_498 : decode cL_law 498 = .ok (.aload_n 1, 1) := by decide +kernel
theorem dL_law_499 : decode cL_law 499 = .ok (.aload_n 0, 1) := by decide +kernel
theorem dL_law_500 : decode cL_law 500 = .ok (.iload_n 3, 1) := by decide +kernel
theorem dL_law_501 : decode cL_law 501 = .ok (.iconst 1, 1) := by decide +kernel
theorem dL_law_502 : decode cL_law 502 = .ok (.iadd, 1) := by decide +kernel
theorem dL_law_503 : decode cL_law 503 = .ok (.iaload, 1) := by decide +kernel
theorem dL_law_504 : decode cL_law 504 = .ok (.invokevirtual 65, 3) := by decide +kernel
theorem dL_law_507 : decode cL_law 507 = .ok (.aload_n 2, 1) := by decide +kernel
theorem dL_law_508 : decode cL_law 508 = .ok (.aload_n 0, 1) := by decide +kernel
theorem dL_law_509 : decode cL_law 509 = .ok (.iload_n 3, 1) := by decide +kernel
theorem dL_law_510 : decode cL_law 510 = .ok (.iconst 1, 1) := by decide +kernel
theorem dL_law_511 : decode cL_law 511 = .ok (.iadd, 1) := by decide +kernel
theorem dL_law_512 : decode cL_law 512 = .ok (.iaload, 1) := by decide +kernel
theorem dL_law_513 : decode cL_law 513 = .ok (.invokevirtual 68, 3) := by decide +kernel
theorem dL_law_516 : decode cL_law 516 = .ok (.if_icmp .eq 482, 3) := by decide +kernel
theorem dL_law_519 : decode cL_law 519 = .ok (.iconst 0, 1) := by decide +kernel
theorem dL_law_520 : decode cL_law 520 = .ok (.ireturn, 1) := by decide +kernel
theorem dL_law_521 : decode cL_law 521 = .ok (.aload_n 1, 1) := by decide +kernel
theorem dL_law_522 : decode cL_law 522 = .ok (.invokevirtual 69, 3) := by decide +kernel
theorem dL_law_525 : decode cL_law 525 = .ok (.aload_n 2, 1) := by decide +kernel
theorem dL_law_526 : decode cL_law 526 = .ok (.invokevirtual 72, 3) := by decide +kernel
theorem dL_law_529 : decode cL_law 529 = .ok (.if_icmp .eq 469, 3) := by decide +kernel
theorem dL_law_532 : decode cL_law 532 = .ok (.iconst 0, 1) := by decide +kernel
theorem dL_law_533 : decode cL_law 533 = .ok (.ireturn, 1) := by decide +kernel
theorem dL_law_534 : decode cL_law 534 = .ok (.aload_n 1, 1) := by decide +kernel
theorem dL_law_535 : decode cL_law 535 = .ok (.aload_n 0, 1) := by decide +kernel
theorem dL_law_536 : decode cL_law 536 = .ok (.iload_n 3, 1) := by decide +kernel
theorem dL_law_537 : decode cL_law 537 = .ok (.iconst 1, 1) := by decide +kernel
theorem dL_law_538 : decode cL_law 538 = .ok (.iadd, 1) := by decide +kernel
theorem dL_law_539 : decode cL_law 539 = .ok (.iaload, 1) := by decide +kernel
theorem dL_law_540 : decode cL_law 540 = .ok (.aload_n 0, 1) := by decide +kernel
theorem dL_law_541 : decode cL_law 541 = .ok (.iload_n 3, 1) := by decide +kernel
theorem dL_law_542 : decode cL_law 542 = .ok (.iconst 2, 1) := by decide +kernel
theorem dL_law_543 : decode cL_law 543 = .ok (.iadd, 1) := by decide +kernel
theorem dL_law_544 : decode cL_law 544 = .ok (.iaload, 1) := by decide +kernel
theorem dL_law_545 : decode cL_law 545 = .ok (.invokevirtual 73, 3) := by decide +kernel
theorem dL_law_548 : decode cL_law 548 = .ok (.aload_n 2, 1) := by decide +kernel
theorem dL_law_549 : decode cL_law 549 = .ok (.aload_n 0, 1) := by decide +kernel
theorem dL_law_550 : decode cL_law 550 = .ok (.iload_n 3, 1) := by decide +kernel
theorem dL_law_551 : decode cL_law 551 = .ok (.iconst 1, 1) := by decide +kernel
theorem dL_law_552 : decode cL_law 552 = .ok (.iadd, 1) := by decide +kernel
theorem dL_law_553 : decode cL_law 553 = .ok (.iaload, 1) := by decide +kernel
theorem dL_law_554 : decode cL_law 554 = .ok (.aload_n 0, 1) := by decide +kernel
theorem dL_law_555 : decode cL_law 555 = .ok (.iload_n 3, 1) := by decide +kernel
theorem dL_law_556 : decode cL_law 556 = .ok (.iconst 2, 1) := by decide +kernel
theorem dL_law_557 : decode cL_law 557 = .ok (.iadd, 1) := by decide +kernel
theorem dL_law_558 : decode cL_law 558 = .ok (.iaload, 1) := by decide +kernel
theorem dL_law_559 : decode cL_law 559 = .ok (.invokevirtual 76, 3) := by decide +kernel
theorem dL_law_562 : decode cL_law 562 = .ok (.if_icmp .eq 436, 3) := by decide +kernel
theorem dL_law_565 : decode cL_law 565 = .ok (.iconst 0, 1) := by decide +kernel
theorem dL_law_566 : decode cL_law 566 = .ok (.ireturn, 1) := by decide +kernel
theorem dL_law_567 : decode cL_law 567 = .ok (.aload_n 1, 1) := by decide +kernel
theorem dL_law_568 : decode cL_law 568 = .ok (.aload_n 0, 1) := by decide +kernel
theorem dL_law_569 : decode cL_law 569 = .ok (.iload_n 3, 1) := by decide +kernel
theorem dL_law_570 : decode cL_law 570 = .ok (.iconst 1, 1) := by decide +kernel
theorem dL_law_571 : decode cL_law 571 = .ok (.iadd, 1) := by decide +kernel
theorem dL_law_572 : decode cL_law 572 = .ok (.iaload, 1) := by decide +kernel
theorem dL_law_573 : decode cL_law 573 = .ok (.invokevirtual 77, 3) := by decide +kernel
theorem dL_law_576 : decode cL_law 576 = .ok (.aload_n 2, 1) := by decide +kernel
theorem dL_law_577 : decode cL_law 577 = .ok (.aload_n 0, 1) := by decide +kernel
theorem dL_law_578 : decode cL_law 578 = .ok (.iload_n 3, 1) := by decide +kernel
theorem dL_law_579 : decode cL_law 579 = .ok (.iconst 1, 1) := by decide +kernel
theorem dL_law_580 : decode cL_law 580 = .ok (.iadd, 1) := by decide +kernel
theorem dL_law_581 : decode cL_law 581 = .ok (.iaload, 1) := by decide +kernel
theorem dL_law_582 : decode cL_law 582 = .ok (.invokevirtual 80, 3) := by decide +kernel
theorem dL_law_585 : decode cL_law 585 = .ok (.if_icmp .eq 413, 3) := by decide +kernel
theorem dL_law_588 : decode cL_law 588 = .ok (.iconst 0, 1) := by decide +kernel
theorem dL_law_589 : decode cL_law 589 = .ok (.ireturn, 1) := by decide +kernel
theorem dL_law_590 : decode cL_law 590 = .ok (.aload_n 1, 1) := by decide +kernel
theorem dL_law_591 : decode cL_law 591 = .ok (.aload_n 0, 1) := by decide +kernel
theorem dL_law_592 : decode cL_law 592 = .ok (.iload_n 3, 1) := by decide +kernel
theorem dL_law_593 : decode cL_law 593 = .ok (.iconst 1, 1) := by decide +kernel
theorem dL_law_594 : decode cL_law 594 = .ok (.iadd, 1) := by decide +kernel
theorem dL_law_595 : decode cL_law 595 = .ok (.iaload, 1) := by decide +kernel
theorem dL_law_596 : decode cL_law 596 = .ok (.aload_n 0, 1) := by decide +kernel
theorem dL_law_597 : decode cL_law 597 = .ok (.iload_n 3, 1) := by decide +kernel
theorem dL_law_598 : decode cL_law 598 = .ok (.iconst 2, 1) := by decide +kernel
theorem dL_law_599 : decode cL_law 599 = .ok (.iadd, 1) := by decide +kernel
theorem dL_law_600 : decode cL_law 600 = .ok (.iaload, 1) := by decide +kernel
theorem dL_law_601 : decode cL_law 601 = .ok (.invokevirtual 81, 3) := by decide +kernel
theorem dL_law_604 : decode cL_law 604 = .ok (.aload_n 2, 1) := by decide +kernel
theorem dL_law_605 : decode cL_law 605 = .ok (.aload_n 0, 1) := by decide +kernel
theorem dL_law_606 : decode cL_law 606 = .ok (.iload_n 3, 1) := by decide +kernel
theorem dL_law_607 : decode cL_law 607 = .ok (.iconst 1, 1) := by decide +kernel
theorem dL_law_608 : decode cL_law 608 = .ok (.iadd, 1) := by decide +kernel
theorem dL_law_609 : decode cL_law 609 = .ok (.iaload, 1) := by decide +kernel
theorem dL_law_610 : decode cL_law 610 = .ok (.aload_n 0, 1) := by decide +kernel
theorem dL_law_611 : decode cL_law 611 = .ok (.iload_n 3, 1) := by decide +kernel
theorem dL_law_612 : decode cL_law 612 = .ok (.iconst 2, 1) := by decide +kernel
theorem dL_law_613 : decode cL_law 613 = .ok (.iadd, 1) := by decide +kernel
theorem dL_law_614 : decode cL_law 614 = .ok (.iaload, 1) := by decide +kernel
theorem dL_law_615 : decode cL_law 615 = .ok (.invokevirtual 84, 3) := by decide +kernel
theorem dL_law_618 : decode cL_law 618 = .ok (.if_icmp .eq 380, 3) := by decide +kernel
theorem dL_law_621 : decode cL_law 621 = .ok (.iconst 0, 1) := by decide +kernel
theorem dL_law_622 : decode cL_law 622 = .ok (.ireturn, 1) := by decide +kernel
theorem dL_law_623 : decode cL_law 623 = .ok (.aload_n 1, 1) := by decide +kernel
theorem dL_law_624 : decode cL_law 624 = .ok (.aload_n 0, 1) := by decide +kernel
theorem dL_law_625 : decode cL_law 625 = .ok (.iload_n 3, 1) := by decide +kernel
theorem dL_law_626 : decode cL_law 626 = .ok (.iconst 1, 1) := by decide +kernel
theorem dL_law_627 : decode cL_law 627 = .ok (.iadd, 1) := by decide +kernel
theorem dL_law_628 : decode cL_law 628 = .ok (.iaload, 1) := by decide +kernel
theorem dL_law_629 : decode cL_law 629 = .ok (.invokevirtual 85, 3) := by decide +kernel
theorem dL_law_632 : decode cL_law 632 = .ok (.aload_n 2, 1) := by decide +kernel
theorem dL_law_633 : decode cL_law 633 = .ok (.aload_n 0, 1) := by decide +kernel
theorem dL_law_634 : decode cL_law 634 = .ok (.iload_n 3, 1) := by decide +kernel
theorem dL_law_635 : decode cL_law 635 = .ok (.iconst 1, 1) := by decide +kernel
theorem dL_law_636 : decode cL_law 636 = .ok (.iadd, 1) := by decide +kernel
theorem dL_law_637 : decode cL_law 637 = .ok (.iaload, 1) := by decide +kernel
theorem dL_law_638 : decode cL_law 638 = .ok (.invokevirtual 88, 3) := by decide +kernel
theorem dL_law_641 : decode cL_law 641 = .ok (.if_icmp .eq 357, 3) := by decide +kernel
theorem dL_law_644 : decode cL_law 644 = .ok (.iconst 0, 1) := by decide +kernel
theorem dL_law_645 : decode cL_law 645 = .ok (.ireturn, 1) := by decide +kernel
theorem dL_law_646 : decode cL_law 646 = .ok (.aload_n 1, 1) := by decide +kernel
theorem dL_law_647 : decode cL_law 647 = .ok (.aload_n 0, 1) := by decide +kernel
theorem dL_law_648 : decode cL_law 648 = .ok (.iload_n 3, 1) := by decide +kernel
theorem dL_law_649 : decode cL_law 649 = .ok (.iconst 1, 1) := by decide +kernel
theorem dL_law_650 : decode cL_law 650 = .ok (.iadd, 1) := by decide +kernel
theorem dL_law_651 : decode cL_law 651 = .ok (.iaload, 1) := by decide +kernel
theorem dL_law_652 : decode cL_law 652 = .ok (.invokevirtual 89, 3) := by decide +kernel
theorem dL_law_655 : decode cL_law 655 = .ok (.aload_n 2, 1) := by decide +kernel
theorem dL_law_656 : decode cL_law 656 = .ok (.aload_n 0, 1) := by decide +kernel
theorem dL_law_657 : decode cL_law 657 = .ok (.iload_n 3, 1) := by decide +kernel
theorem dL_law_658 : decode cL_law 658 = .ok (.iconst 1, 1) := by decide +kernel
theorem dL_law_659 : decode cL_law 659 = .ok (.iadd, 1) := by decide +kernel
theorem dL_law_660 : decode cL_law 660 = .ok (.iaload, 1) := by decide +kernel
theorem dL_law_661 : decode cL_law 661 = .ok (.invokevirtual 92, 3) := by decide +kernel
theorem dL_law_664 : decode cL_law 664 = .ok (.if_icmp .eq 334, 3) := by decide +kernel
theorem dL_law_667 : decode cL_law 667 = .ok (.iconst 0, 1) := by decide +kernel
theorem dL_law_668 : decode cL_law 668 = .ok (.ireturn, 1) := by decide +kernel
theorem dL_law_669 : decode cL_law 669 = .ok (.aload_n 1, 1) := by decide +kernel
theorem dL_law_670 : decode cL_law 670 = .ok (.aload_n 0, 1) := by decide +kernel
theorem dL_law_671 : decode cL_law 671 = .ok (.iload_n 3, 1) := by decide +kernel
theorem dL_law_672 : decode cL_law 672 = .ok (.iconst 1, 1) := by decide +kernel
theorem dL_law_673 : decode cL_law 673 = .ok (.iadd, 1) := by decide +kernel
theorem dL_law_674 : decode cL_law 674 = .ok (.iaload, 1) := by decide +kernel
theorem dL_law_675 : decode cL_law 675 = .ok (.aload_n 0, 1) := by decide +kernel
theorem dL_law_676 : decode cL_law 676 = .ok (.iload_n 3, 1) := by decide +kernel
theorem dL_law_677 : decode cL_law 677 = .ok (.iconst 2, 1) := by decide +kernel
theorem dL_law_678 : decode cL_law 678 = .ok (.iadd, 1) := by decide +kernel
theorem dL_law_679 : decode cL_law 679 = .ok (.iaload, 1) := by decide +kernel
theorem dL_law_680 : decode cL_law 680 = .ok (.invokevirtual 93, 3) := by decide +kernel
theorem dL_law_683 : decode cL_law 683 = .ok (.aload_n 2, 1) := by decide +kernel
theorem dL_law_684 : decode cL_law 684 = .ok (.aload_n 0, 1) := by decide +kernel
theorem dL_law_685 : decode cL_law 685 = .ok (.iload_n 3, 1) := by decide +kernel
theorem dL_law_686 : decode cL_law 686 = .ok (.iconst 1, 1) := by decide +kernel
theorem dL_law_687 : decode cL_law 687 = .ok (.iadd, 1) := by decide +kernel
theorem dL_law_688 : decode cL_law 688 = .ok (.iaload, 1) := by decide +kernel
theorem dL_law_689 : decode cL_law 689 = .ok (.aload_n 0, 1) := by decide +kernel
theorem dL_law_690 : decode cL_law 690 = .ok (.iload_n 3, 1) := by decide +kernel
theorem dL_law_691 : decode cL_law 691 = .ok (.iconst 2, 1) := by decide +kernel
theorem dL_law_692 : decode cL_law 692 = .ok (.iadd, 1) := by decide +kernel
theorem dL_law_693 : decode cL_law 693 = .ok (.iaload, 1) := by decide +kernel
theorem dL_law_694 : decode cL_law 694 = .ok (.invokevirtual 96, 3) := by decide +kernel
theorem dL_law_697 : decode cL_law 697 = .ok (.if_icmp .eq 301, 3) := by decide +kernel
theorem dL_law_700 : decode cL_law 700 = .ok (.iconst 0, 1) := by decide +kernel
theorem dL_law_701 : decode cL_law 701 = .ok (.ireturn, 1) := by decide +kernel
theorem dL_law_702 : decode cL_law 702 = .ok (.aload_n 1, 1) := by decide +kernel
theorem dL_law_703 : decode cL_law 703 = .ok (.aload_n 0, 1) := by decide +kernel
theorem dL_law_704 : decode cL_law 704 = .ok (.iload_n 3, 1) := by decide +kernel
theorem dL_law_705 : decode cL_law 705 = .ok (.iconst 1, 1) := by decide +kernel
theorem dL_law_706 : decode cL_law 706 = .ok (.iadd, 1) := by decide +kernel
theorem dL_law_707 : decode cL_law 707 = .ok (.iaload, 1) := by decide +kernel
theorem dL_law_708 : decode cL_law 708 = .ok (.invokevirtual 97, 3) := by decide +kernel
theorem dL_law_711 : decode cL_law 711 = .ok (.aload_n 2, 1) := by decide +kernel
theorem dL_law_712 : decode cL_law 712 = .ok (.aload_n 0, 1) := by decide +kernel
theorem dL_law_713 : decode cL_law 713 = .ok (.iload_n 3, 1) := by decide +kernel
theorem dL_law_714 : decode cL_law 714 = .ok (.iconst 1, 1) := by decide +kernel
theorem dL_law_715 : decode cL_law 715 = .ok (.iadd, 1) := by decide +kernel
theorem dL_law_716 : decode cL_law 716 = .ok (.iaload, 1) := by decide +kernel
theorem dL_law_717 : decode cL_law 717 = .ok (.invokevirtual 100, 3) := by decide +kernel
theorem dL_law_720 : decode cL_law 720 = .ok (.if_icmp .eq 278, 3) := by decide +kernel
theorem dL_law_723 : decode cL_law 723 = .ok (.iconst 0, 1) := by decide +kernel
theorem dL_law_724 : decode cL_law 724 = .ok (.ireturn, 1) := by decide +kernel
theorem dL_law_725 : decode cL_law 725 = .ok (.aload_n 1, 1) := by decide +kernel
theorem dL_law_726 : decode cL_law 726 = .ok (.aload_n 0, 1) := by decide +kernel
theorem dL_law_727 : decode cL_law 727 = .ok (.iload_n 3, 1) := by decide +kernel
theorem dL_law_728 : decode cL_law 728 = .ok (.iconst 1, 1) := by decide +kernel
theorem dL_law_729 : decode cL_law 729 = .ok (.iadd, 1) := by decide +kernel
theorem dL_law_730 : decode cL_law 730 = .ok (.iaload, 1) := by decide +kernel
theorem dL_law_731 : decode cL_law 731 = .ok (.aload_n 0, 1) := by decide +kernel
theorem dL_law_732 : decode cL_law 732 = .ok (.iload_n 3, 1) := by decide +kernel
theorem dL_law_733 : decode cL_law 733 = .ok (.iconst 2, 1) := by decide +kernel
theorem dL_law_734 : decode cL_law 734 = .ok (.iadd, 1) := by decide +kernel
theorem dL_law_735 : decode cL_law 735 = .ok (.iaload, 1) := by decide +kernel
theorem dL_law_736 : decode cL_law 736 = .ok (.invokevirtual 101, 3) := by decide +kernel
theorem dL_law_739 : decode cL_law 739 = .ok (.aload_n 2, 1) := by decide +kernel
theorem dL_law_740 : decode cL_law 740 = .ok (.aload_n 0, 1) := by decide +kernel
theorem dL_law_741 : decode cL_law 741 = .ok (.iload_n 3, 1) := by decide +kernel
theorem dL_law_742 : decode cL_law 742 = .ok (.iconst 1, 1) := by decide +kernel
theorem dL_law_743 : decode cL_law 743 = .ok (.iadd, 1) := by decide +kernel
theorem dL_law_744 : decode cL_law 744 = .ok (.iaload, 1) := by decide +kernel
theorem dL_law_745 : decode cL_law 745 = .ok (.aload_n 0, 1) := by decide +kernel
theorem dL_law_746 : decode cL_law 746 = .ok (.iload_n 3, 1) := by decide +kernel
theorem dL_law_747 : decode cL_law 747 = .ok (.iconst 2, 1) := by decide +kernel
theorem dL_law_748 : decode cL_law 748 = .ok (.iadd, 1) := by decide +kernel
theorem dL_law_749 : decode cL_law 749 = .ok (.iaload, 1) := by decide +kernel
theorem dL_law_750 : decode cL_law 750 = .ok (.invokevirtual 104, 3) := by decide +kernel
theorem dL_law_753 : decode cL_law 753 = .ok (.if_icmp .eq 245, 3) := by decide +kernel
theorem dL_law_756 : decode cL_law 756 = .ok (.iconst 0, 1) := by decide +kernel
theorem dL_law_757 : decode cL_law 757 = .ok (.ireturn, 1) := by decide +kernel
theorem dL_law_758 : decode cL_law 758 = .ok (.aload_n 1, 1) := by decide +kernel
theorem dL_law_759 : decode cL_law 759 = .ok (.aload_n 0, 1) := by decide +kernel
theorem dL_law_760 : decode cL_law 760 = .ok (.iload_n 3, 1) := by decide +kernel
theorem dL_law_761 : decode cL_law 761 = .ok (.iconst 1, 1) := by decide +kernel
theorem dL_law_762 : decode cL_law 762 = .ok (.iadd, 1) := by decide +kernel
theorem dL_law_763 : decode cL_law 763 = .ok (.iaload, 1) := by decide +kernel
theorem dL_law_764 : decode cL_law 764 = .ok (.invokevirtual 105, 3) := by decide +kernel
theorem dL_law_767 : decode cL_law 767 = .ok (.aload_n 2, 1) := by decide +kernel
theorem dL_law_768 : decode cL_law 768 = .ok (.aload_n 0, 1) := by decide +kernel
theorem dL_law_769 : decode cL_law 769 = .ok (.iload_n 3, 1) := by decide +kernel
theorem dL_law_770 : decode cL_law 770 = .ok (.iconst 1, 1) := by decide +kernel
theorem dL_law_771 : decode cL_law 771 = .ok (.iadd, 1) := by decide +kernel
theorem dL_law_772 : decode cL_law 772 = .ok (.iaload, 1) := by decide +kernel
theorem dL_law_773 : decode cL_law 773 = .ok (.invokevirtual 108, 3) := by decide +kernel
theorem dL_law_776 : decode cL_law 776 = .ok (.if_icmp .eq 222, 3) := by decide +kernel
theorem dL_law_779 : decode cL_law 779 = .ok (.iconst 0, 1) := by decide +kernel
theorem dL_law_780 : decode cL_law 780 = .ok (.ireturn, 1) := by decide +kernel
theorem dL_law_781 : decode cL_law 781 = .ok (.aload_n 1, 1) := by decide +kernel
theorem dL_law_782 : decode cL_law 782 = .ok (.aload_n 0, 1) := by decide +kernel
theorem dL_law_783 : decode cL_law 783 = .ok (.iload_n 3, 1) := by decide +kernel
theorem dL_law_784 : decode cL_law 784 = .ok (.iconst 1, 1) := by decide +kernel
theorem dL_law_785 : decode cL_law 785 = .ok (.iadd, 1) := by decide +kernel
theorem dL_law_786 : decode cL_law 786 = .ok (.iaload, 1) := by decide +kernel
theorem dL_law_787 : decode cL_law 787 = .ok (.invokevirtual 109, 3) := by decide +kernel
theorem dL_law_790 : decode cL_law 790 = .ok (.aload_n 2, 1) := by decide +kernel
theorem dL_law_791 : decode cL_law 791 = .ok (.aload_n 0, 1) := by decide +kernel
theorem dL_law_792 : decode cL_law 792 = .ok (.iload_n 3, 1) := by decide +kernel
theorem dL_law_793 : decode cL_law 793 = .ok (.iconst 1, 1) := by decide +kernel
theorem dL_law_794 : decode cL_law 794 = .ok (.iadd, 1) := by decide +kernel
theorem dL_law_795 : decode cL_law 795 = .ok (.iaload, 1) := by decide +kernel
theorem dL_law_796 : decode cL_law 796 = .ok (.invokevirtual 112, 3) := by decide +kernel
theorem dL_law_799 : decode cL_law 799 = .ok (.if_icmp .eq 199, 3) := by decide +kernel
theorem dL_law_802 : decode cL_law 802 = .ok (.iconst 0, 1) := by decide +kernel
theorem dL_law_803 : decode cL_law 803 = .ok (.ireturn, 1) := by decide +kernel
theorem dL_law_804 : decode cL_law 804 = .ok (.aload_n 1, 1) := by decide +kernel
theorem dL_law_805 : decode cL_law 805 = .ok (.aload_n 0, 1) := by decide +kernel
theorem dL_law_806 : decode cL_law 806 = .ok (.iload_n 3, 1) := by decide +kernel
theorem dL_law_807 : decode cL_law 807 = .ok (.iconst 1, 1) := by decide +kernel
theorem dL_law_808 : decode cL_law 808 = .ok (.iadd, 1) := by decide +kernel
theorem dL_law_809 : decode cL_law 809 = .ok (.iaload, 1) := by decide +kernel
theorem dL_law_810 : decode cL_law 810 = .ok (.aload_n 0, 1) := by decide +kernel
theorem dL_law_811 : decode cL_law 811 = .ok (.iload_n 3, 1) := by decide +kernel
theorem dL_law_812 : decode cL_law 812 = .ok (.iconst 2, 1) := by decide +kernel
theorem dL_law_813 : decode cL_law 813 = .ok (.iadd, 1) := by decide +kernel
theorem dL_law_814 : decode cL_law 814 = .ok (.iaload, 1) := by decide +kernel
theorem dL_law_815 : decode cL_law 815 = .ok (.invokevirtual 113, 3) := by decide +kernel
theorem dL_law_818 : decode cL_law 818 = .ok (.aload_n 2, 1) := by decide +kernel
theorem dL_law_819 : decode cL_law 819 = .ok (.aload_n 0, 1) := by decide +kernel
theorem dL_law_820 : decode cL_law 820 = .ok (.iload_n 3, 1) := by decide +kernel
theorem dL_law_821 : decode cL_law 821 = .ok (.iconst 1, 1) := by decide +kernel
theorem dL_law_822 : decode cL_law 822 = .ok (.iadd, 1) := by decide +kernel
theorem dL_law_823 : decode cL_law 823 = .ok (.iaload, 1) := by decide +kernel
theorem dL_law_824 : decode cL_law 824 = .ok (.aload_n 0, 1) := by decide +kernel
theorem dL_law_825 : decode cL_law 825 = .ok (.iload_n 3, 1) := by decide +kernel
theorem dL_law_826 : decode cL_law 826 = .ok (.iconst 2, 1) := by decide +kernel
theorem dL_law_827 : decode cL_law 827 = .ok (.iadd, 1) := by decide +kernel
theorem dL_law_828 : decode cL_law 828 = .ok (.iaload, 1) := by decide +kernel
theorem dL_law_829 : decode cL_law 829 = .ok (.invokevirtual 116, 3) := by decide +kernel
theorem dL_law_832 : decode cL_law 832 = .ok (.if_icmp .eq 166, 3) := by decide +kernel
theorem dL_law_835 : decode cL_law 835 = .ok (.iconst 0, 1) := by decide +kernel
theorem dL_law_836 : decode cL_law 836 = .ok (.ireturn, 1) := by decide +kernel
theorem dL_law_837 : decode cL_law 837 = .ok (.aload_n 1, 1) := by decide +kernel
theorem dL_law_838 : decode cL_law 838 = .ok (.aload_n 0, 1) := by decide +kernel
theorem dL_law_839 : decode cL_law 839 = .ok (.iload_n 3, 1) := by decide +kernel
theorem dL_law_840 : decode cL_law 840 = .ok (.iconst 1, 1) := by decide +kernel
theorem dL_law_841 : decode cL_law 841 = .ok (.iadd, 1) := by decide +kernel
theorem dL_law_842 : decode cL_law 842 = .ok (.iaload, 1) := by decide +kernel
theorem dL_law_843 : decode cL_law 843 = .ok (.aload_n 0, 1) := by decide +kernel
theorem dL_law_844 : decode cL_law 844 = .ok (.iload_n 3, 1) := by decide +kernel
theorem dL_law_845 : decode cL_law 845 = .ok (.iconst 2, 1) := by decide +kernel
theorem dL_law_846 : decode cL_law 846 = .ok (.iadd, 1) := by decide +kernel
theorem dL_law_847 : decode cL_law 847 = .ok (.iaload, 1) := by decide +kernel
theorem dL_law_848 : decode cL_law 848 = .ok (.invokevirtual 117, 3) := by decide +kernel
theorem dL_law_851 : decode cL_law 851 = .ok (.aload_n 2, 1) := by decide +kernel
theorem dL_law_852 : decode cL_law 852 = .ok (.aload_n 0, 1) := by decide +kernel
theorem dL_law_853 : decode cL_law 853 = .ok (.iload_n 3, 1) := by decide +kernel
theorem dL_law_854 : decode cL_law 854 = .ok (.iconst 1, 1) := by decide +kernel
theorem dL_law_855 : decode cL_law 855 = .ok (.iadd, 1) := by decide +kernel
theorem dL_law_856 : decode cL_law 856 = .ok (.iaload, 1) := by decide +kernel
theorem dL_law_857 : decode cL_law 857 = .ok (.aload_n 0, 1) := by decide +kernel
theorem dL_law_858 : decode cL_law 858 = .ok (.iload_n 3, 1) := by decide +kernel
theorem dL_law_859 : decode cL_law 859 = .ok (.iconst 2, 1) := by decide +kernel
theorem dL_law_860 : decode cL_law 860 = .ok (.iadd, 1) := by decide +kernel
theorem dL_law_861 : decode cL_law 861 = .ok (.iaload, 1) := by decide +kernel
theorem dL_law_862 : decode cL_law 862 = .ok (.invokevirtual 120, 3) := by decide +kernel
theorem dL_law_865 : decode cL_law 865 = .ok (.if_icmp .eq 133, 3) := by decide +kernel
theorem dL_law_868 : decode cL_law 868 = .ok (.iconst 0, 1) := by decide +kernel
theorem dL_law_869 : decode cL_law 869 = .ok (.ireturn, 1) := by decide +kernel
theorem dL_law_870 : decode cL_law 870 = .ok (.aload_n 1, 1) := by decide +kernel
theorem dL_law_871 : decode cL_law 871 = .ok (.aload_n 0, 1) := by decide +kernel
theorem dL_law_872 : decode cL_law 872 = .ok (.iload_n 3, 1) := by decide +kernel
theorem dL_law_873 : decode cL_law 873 = .ok (.iconst 1, 1) := by decide +kernel
theorem dL_law_874 : decode cL_law 874 = .ok (.iadd, 1) := by decide +kernel
theorem dL_law_875 : decode cL_law 875 = .ok (.iaload, 1) := by decide +kernel
theorem dL_law_876 : decode cL_law 876 = .ok (.aload_n 0, 1) := by decide +kernel
theorem dL_law_877 : decode cL_law 877 = .ok (.iload_n 3, 1) := by decide +kernel
theorem dL_law_878 : decode cL_law 878 = .ok (.iconst 2, 1) := by decide +kernel
theorem dL_law_879 : decode cL_law 879 = .ok (.iadd, 1) := by decide +kernel
theorem dL_law_880 : decode cL_law 880 = .ok (.iaload, 1) := by decide +kernel
theorem dL_law_881 : decode cL_law 881 = .ok (.invokevirtual 121, 3) := by decide +kernel
theorem dL_law_884 : decode cL_law 884 = .ok (.aload_n 2, 1) := by decide +kernel
theorem dL_law_885 : decode cL_law 885 = .ok (.aload_n 0, 1) := by decide +kernel
theorem dL_law_886 : decode cL_law 886 = .ok (.iload_n 3, 1) := by decide +kernel
theorem dL_law_887 : decode cL_law 887 = .ok (.iconst 1, 1) := by decide +kernel
theorem dL_law_888 : decode cL_law 888 = .ok (.iadd, 1) := by decide +kernel
theorem dL_law_889 : decode cL_law 889 = .ok (.iaload, 1) := by decide +kernel
theorem dL_law_890 : decode cL_law 890 = .ok (.aload_n 0, 1) := by decide +kernel
theorem dL_law_891 : decode cL_law 891 = .ok (.iload_n 3, 1) := by decide +kernel
theorem dL_law_892 : decode cL_law 892 = .ok (.iconst 2, 1) := by decide +kernel
theorem dL_law_893 : decode cL_law 893 = .ok (.iadd, 1) := by decide +kernel
theorem dL_law_894 : decode cL_law 894 = .ok (.iaload, 1) := by decide +kernel
theorem dL_law_895 : decode cL_law 895 = .ok (.invokevirtual 124, 3) := by decide +kernel
theorem dL_law_898 : decode cL_law 898 = .ok (.if_icmp .eq 100, 3) := by decide +kernel
theorem dL_law_901 : decode cL_law 901 = .ok (.iconst 0, 1) := by decide +kernel
theorem dL_law_902 : decode cL_law 902 = .ok (.ireturn, 1) := by decide +kernel
theorem dL_law_903 : decode cL_law 903 = .ok (.aload_n 1, 1) := by decide +kernel
theorem dL_law_904 : decode cL_law 904 = .ok (.invokevirtual 125, 3) := by decide +kernel
theorem dL_law_907 : decode cL_law 907 = .ok (.aload_n 2, 1) := by decide +kernel
theorem dL_law_908 : decode cL_law 908 = .ok (.invokevirtual 128, 3) := by decide +kernel
theorem dL_law_911 : decode cL_law 911 = .ok (.if_icmp .eq 87, 3) := by decide +kernel
theorem dL_law_914 : decode cL_law 914 = .ok (.iconst 0, 1) := by decide +kernel
theorem dL_law_915 : decode cL_law 915 = .ok (.ireturn, 1) := by decide +kernel
theorem dL_law_916 : decode cL_law 916 = .ok (.aload_n 1, 1) := by decide +kernel
theorem dL_law_917 : decode cL_law 917 = .ok (.invokevirtual 129, 3) := by decide +kernel
theorem dL_law_920 : decode cL_law 920 = .ok (.aload_n 2, 1) := by decide +kernel
theorem dL_law_921 : decode cL_law 921 = .ok (.invokevirtual 132, 3) := by decide +kernel
theorem dL_law_924 : decode cL_law 924 = .ok (.if_icmp .eq 74, 3) := by decide +kernel
theorem dL_law_927 : decode cL_law 927 = .ok (.iconst 0, 1) := by decide +kernel
theorem dL_law_928 : decode cL_law 928 = .ok (.ireturn, 1) := by decide +kernel
theorem dL_law_929 : decode cL_law 929 = .ok (.aload_n 1, 1) := by decide +kernel
theorem dL_law_930 : decode cL_law 930 = .ok (.aload_n 0, 1) := by decide +kernel
theorem dL_law_931 : decode cL_law 931 = .ok (.iload_n 3, 1) := by decide +kernel
theorem dL_law_932 : decode cL_law 932 = .ok (.iconst 1, 1) := by decide +kernel
theorem dL_law_933 : decode cL_law 933 = .ok (.iadd, 1) := by decide +kernel
theorem dL_law_934 : decode cL_law 934 = .ok (.iaload, 1) := by decide +kernel
theorem dL_law_935 : decode cL_law 935 = .ok (.invokevirtual 133, 3) := by decide +kernel
theorem dL_law_938 : decode cL_law 938 = .ok (.aload_n 2, 1) := by decide +kernel
theorem dL_law_939 : decode cL_law 939 = .ok (.aload_n 0, 1) := by decide +kernel
theorem dL_law_940 : decode cL_law 940 = .ok (.iload_n 3, 1) := by decide +kernel
theorem dL_law_941 : decode cL_law 941 = .ok (.iconst 1, 1) := by decide +kernel
theorem dL_law_942 : decode cL_law 942 = .ok (.iadd, 1) := by decide +kernel
theorem dL_law_943 : decode cL_law 943 = .ok (.iaload, 1) := by decide +kernel
theorem dL_law_944 : decode cL_law 944 = .ok (.invokevirtual 136, 3) := by decide +kernel
theorem dL_law_947 : decode cL_law 947 = .ok (.if_icmp .eq 51, 3) := by decide +kernel
theorem dL_law_950 : decode cL_law 950 = .ok (.iconst 0, 1) := by decide +kernel
theorem dL_law_951 : decode cL_law 951 = .ok (.ireturn, 1) := by decide +kernel
theorem dL_law_952 : decode cL_law 952 = .ok (.aload_n 1, 1) := by decide +kernel
theorem dL_law_953 : decode cL_law 953 = .ok (.aload_n 0, 1) := by decide +kernel
theorem dL_law_954 : decode cL_law 954 = .ok (.iload_n 3, 1) := by decide +kernel
theorem dL_law_955 : decode cL_law 955 = .ok (.iconst 1, 1) := by decide +kernel
theorem dL_law_956 : decode cL_law 956 = .ok (.iadd, 1) := by decide +kernel
theorem dL_law_957 : decode cL_law 957 = .ok (.iaload, 1) := by decide +kernel
theorem dL_law_958 : decode cL_law 958 = .ok (.invokevirtual 137, 3) := by decide +kernel
theorem dL_law_961 : decode cL_law 961 = .ok (.aload_n 2, 1) := by decide +kernel
theorem dL_law_962 : decode cL_law 962 = .ok (.aload_n 0, 1) := by decide +kernel
theorem dL_law_963 : decode cL_law 963 = .ok (.iload_n 3, 1) := by decide +kernel
theorem dL_law_964 : decode cL_law 964 = .ok (.iconst 1, 1) := by decide +kernel
theorem dL_law_965 : decode cL_law 965 = .ok (.iadd, 1) := by decide +kernel
theorem dL_law_966 : decode cL_law 966 = .ok (.iaload, 1) := by decide +kernel
theorem dL_law_967 : decode cL_law 967 = .ok (.invokevirtual 140, 3) := by decide +kernel
theorem dL_law_970 : decode cL_law 970 = .ok (.if_icmp .eq 28, 3) := by decide +kernel
theorem dL_law_973 : decode cL_law 973 = .ok (.iconst 0, 1) := by decide +kernel
theorem dL_law_974 : decode cL_law 974 = .ok (.ireturn, 1) := by decide +kernel
theorem dL_law_975 : decode cL_law 975 = .ok (.aload_n 1, 1) := by decide +kernel
theorem dL_law_976 : decode cL_law 976 = .ok (.aload_n 0, 1) := by decide +kernel
theorem dL_law_977 : decode cL_law 977 = .ok (.iload_n 3, 1) := by decide +kernel
theorem dL_law_978 : decode cL_law 978 = .ok (.iconst 1, 1) := by decide +kernel
theorem dL_law_979 : decode cL_law 979 = .ok (.iadd, 1) := by decide +kernel
theorem dL_law_980 : decode cL_law 980 = .ok (.iaload, 1) := by decide +kernel
theorem dL_law_981 : decode cL_law 981 = .ok (.invokevirtual 141, 3) := by decide +kernel
theorem dL_law_984 : decode cL_law 984 = .ok (.aload_n 2, 1) := by decide +kernel
theorem dL_law_985 : decode cL_law 985 = .ok (.aload_n 0, 1) := by decide +kernel
theorem dL_law_986 : decode cL_law 986 = .ok (.iload_n 3, 1) := by decide +kernel
theorem dL_law_987 : decode cL_law 987 = .ok (.iconst 1, 1) := by decide +kernel
theorem dL_law_988 : decode cL_law 988 = .ok (.iadd, 1) := by decide +kernel
theorem dL_law_989 : decode cL_law 989 = .ok (.iaload, 1) := by decide +kernel
theorem dL_law_990 : decode cL_law 990 = .ok (.invokevirtual 144, 3) := by decide +kernel
theorem dL_law_993 : decode cL_law 993 = .ok (.if_icmp .eq 5, 3) := by decide +kernel
theorem dL_law_996 : decode cL_law 996 = .ok (.iconst 0, 1) := by decide +kernel
theorem dL_law_997 : decode cL_law 997 = .ok (.ireturn, 1) := by decide +kernel
theorem dL_law_998 : decode cL_law 998 = .ok (.iinc 3 3, 3) := by decide +kernel
theorem dL_law_1001 : decode cL_law 1001 = .ok (.goto (-983), 3) := by decide +kernel
theorem dL_law_1004 : decode cL_law 1004 = .ok (.iconst 1, 1) := by decide +kernel
theorem dL_law_1005 : decode cL_law 1005 = .ok (.ireturn, 1) := by decide +kernel
end
section
/-! The abstract heap: cells by number. Numbers 0, 1, 2 are FACTORIAL, LIKING_PLACE and the script (read alone); the law's own cells follow from 3 on.
A program over it (MM) answers none where the machine would throw, or where its fuel ends. Sm: the machine, at a place of a method, follows a program. -/
abbrev cE : Type := (Nat × Nat × ((Nat → Int32) ⊕ (Nat → Option Nat))) ⊕ (Nat × List Value)
abbrev cH : Type := Nat × (Nat → cE)
abbrev MM (α : Type) : Type := cH → Option (α × cH)
abbrev cG : Type := Nat × (Nat → Nat) × va_G
def cJ : cE := .inl (99, 0, .inl (fun _ => 0))
def c_up (f : Nat → cE) (a : Nat) (e : cE) : Nat → cE := fun k => if k = a then e else f k
theorem c_up_same (f : Nat → cE) (a : Nat) (e : cE) : c_up f a e a = e := if_pos rfl
theorem c_up_ne (f : Nat → cE) {a k : Nat} (e : cE) (h : k ≠ a) : c_up f a e k = f k := if_neg h
def c_ty (t : Nat) : FieldType := match t with
  | 0 => .int
  | 1 => .boolean
  | 2 => .object RX1
  | 3 => .object RX5
  | _ => .array .int
/-! programs -/
def m_ret {α : Type} (x : α) : MM α := fun σ => some (x, σ)
def m_rz (x : Int32) : MM Int32 := fun σ => if x &&& 1 = x then some (x, σ) else none
def m_bad {α : Type} : MM α := fun _ => none
def m_bind {α β : Type} (P : MM α) (K : α → MM β) : MM β := fun σ => match P σ with
  | none => none
  | some q => K q.1 q.2
def m_gi {α : Type} (a ci k : Nat) (K : Int32 → MM α) : MM α := fun σ => match σ.2 a with
  | .inr (c, fs) => if c = ci then (match fs[k]? with
    | some (.int x) => K x σ
    | _ => none) else none
  | .inl _ => none
def m_gr {α : Type} (a ci k : Nat) (K : Nat → MM α) : MM α := fun σ => match σ.2 a with
  | .inr (c, fs) => if c = ci then (match fs[k]? with
    | some (.ref x) => K x σ
    | _ => none) else none
  | .inl _ => none
def m_pv {α : Type} (a ci k : Nat) (v : Value) (K : MM α) : MM α := fun σ => match σ.2 a with
  | .inr (c, fs) => if c = ci ∧ k < fs.length then K (σ.1, c_up σ.2 a (.inr (c, fs.set k v))) else none
  | .inl _ => none
def m_li {α : Type} (t a : Nat) (i : Int32) (K : Int32 → MM α) : MM α := fun σ => match σ.2 a with
  | .inl (t', N, .inl f) => if t' = t ∧ ¬ (i < 0 ∨ N ≤ i.toNatClampNeg) then K (f i.toNatClampNeg) σ else none
  | _ => none
def m_si {α : Type} (a : Nat) (i x : Int32) (K : MM α) : MM α := fun σ => match σ.2 a with
  | .inl (t', N, .inl f) => if t' = 0 ∧ 3 ≤ a ∧ ¬ (i < 0 ∨ N ≤ i.toNatClampNeg) then K (σ.1, c_up σ.2 a (.inl (0, N, .inl (upd f i.toNatClampNeg x)))) else none
  | _ => none
def m_sz {α : Type} (a : Nat) (i x : Int32) (K : MM α) : MM α := fun σ => match σ.2 a with
  | .inl (t', N, .inl f) => if t' = 1 ∧ 3 ≤ a ∧ ¬ (i < 0 ∨ N ≤ i.toNatClampNeg) ∧ x &&& 1 = x then K (σ.1, c_up σ.2 a (.inl (1, N, .inl (upd f i.toNatClampNeg x)))) else none
  | _ => none
def m_lr {α : Type} (t a : Nat) (i : Int32) (K : Nat → MM α) : MM α := fun σ => match σ.2 a with
  | .inl (t', N, .inr f) => if t' = t ∧ ¬ (i < 0 ∨ N ≤ i.toNatClampNeg) then (match f i.toNatClampNeg with
    | some y => K y σ
    | none => none) else none
  | _ => none
def m_sr {α : Type} (t a : Nat) (i : Int32) (v ci : Nat) (K : MM α) : MM α := fun σ => match σ.2 a, σ.2 v with
  | .inl (t', N, .inr f), .inr (c, _) => if t' = t ∧ c = ci ∧ ¬ (i < 0 ∨ N ≤ i.toNatClampNeg) then K (σ.1, c_up σ.2 a (.inl (t', N, .inr (va_up f i.toNatClampNeg (some v))))) else none
  | _, _ => none
def m_len {α : Type} (a : Nat) (K : Int32 → MM α) : MM α := fun σ => match σ.2 a with
  | .inl (t', N, _) => if t' < 99 then K (Int32.ofNat N) σ else none
  | _ => none
def m_new {α : Type} (ci : Nat) (fs : List Value) (K : Nat → MM α) : MM α := fun σ => K σ.1 (σ.1 + 1, c_up σ.2 σ.1 (.inr (ci, fs)))
def m_na {α : Type} (t n : Nat) (K : Nat → MM α) : MM α := fun σ => K σ.1 (σ.1 + 1, c_up σ.2 σ.1 (.inl (t, n, .inl (fun _ => 0))))
def m_nr {α : Type} (t n : Nat) (K : Nat → MM α) : MM α := fun σ => K σ.1 (σ.1 + 1, c_up σ.2 σ.1 (.inl (t, n, .inr (fun _ => none))))
def c_nm (σ : cH) (n k : Nat) : Nat → cE := fun j => if j = σ.1 then .inl (4, n, .inr (fun i => if i < n then some (σ.1 + 1 + i) else none)) else if σ.1 < j ∧ j ≤ σ.1 + n then .inl (0, k, .inl (fun _ => 0)) else σ.2 j
def m_nm {α : Type} (n k : Nat) (K : Nat → MM α) : MM α := fun σ => K σ.1 (σ.1 + 1 + n, c_nm σ n k)
def m_cp {α : Type} (a0 a1 : Nat) (n : Int32) (K : MM α) : MM α := fun σ => match σ.2 a0, σ.2 a1 with
  | .inl (t0, N0, .inl f), .inl (t1, N1, .inl g) => if t0 = 0 ∧ t1 = 0 ∧ 3 ≤ a0 ∧ 3 ≤ a1 ∧ ¬ n < 0 ∧ n.toNatClampNeg ≤ N0 ∧ n.toNatClampNeg ≤ N1 then K (σ.1, c_up σ.2 a1 (.inl (0, N1, .inl (va_cpy f g 0 0 n.toNatClampNeg)))) else none
  | _, _ => none
def m_nz {α : Type} (y : Int32) (K : MM α) : MM α := fun σ => if y = 0 then none else K σ
def m_nzl {α : Type} (y : Int64) (K : MM α) : MM α := fun σ => if y = 0 then none else K σ
def m_cv {α β : Type} (a ci : Nat) (P : MM α) (K : α → MM β) : MM β := fun σ => match σ.2 a with
  | .inr (c, _) => if c = ci then m_bind P K σ else none
  | .inl _ => none
/-! what the machine's heap holds of it -/
def c_ad (G : cG) (k : Nat) : Nat := if k < 3 then G.2.1 k else G.1 + (k - 3)
def c_v (G : cG) : Value → Value
  | .ref a => .ref (c_ad G a)
  | v => v
def c_lv (G : cG) (lv : List (Nat × Value)) : List (Nat × Value) := lv.map (fun q => (q.1, c_v G q.2))
def c_A (G : cG) : Nat → Prop := fun q => G.1 ≤ q
def c_at (G : cG) (U : State) (H : Heap) (k : Nat) (e : cE) : Prop := match e with
  | .inl (t, N, .inl f) => ∃ cA : ClassId, H[c_ad G k]? = some (arrV cA N (fun j => .int (f j))) ∧ ArrOfT U cA (c_ty t)
  | .inl (t, N, .inr f) => ∃ cA : ClassId, H[c_ad G k]? = some (arrV cA N (fun j => va_rf ((f j).map (c_ad G)))) ∧ ArrOfT U cA (c_ty t) ∧ va_RA U cA (c_ty t)
  | .inr (ci, fs) => ∃ r : vw_C, vwCl[ci]? = some r ∧ t_OB (c_ad G k) (G.2.2.1 ci) r.2.2 (G.2.2.2 ci) H (vp_V (fs.map (c_v G)))
def c_sp (G : cG) (U : State) (H : Heap) (k : Nat) (e : cE) : Prop := match e with
  | .inl (t, N, .inl f) => t = 0 ∧ va_T .int (c_ad G k) N (fun j => .int (f j)) (c_A G) U H
  | _ => False
def c_St (G : cG) (U : State) (H : Heap) : Prop := va_Z RX4 "FACTORIAL" "[I" (.ref (G.2.1 0)) (c_A G) U H ∧ va_Z RX4 "LIKING_PLACE" "[I" (.ref (G.2.1 1)) (c_A G) U H
def c_Hd (G : cG) (σ : cH) (U : State) (H : Heap) : Prop := 3 ≤ σ.1 ∧ H.size = G.1 + (σ.1 - 3) ∧ (∀ k, 3 ≤ k → k < σ.1 → c_at G U H k (σ.2 k)) ∧ (∀ k, k < 3 → c_sp G U H k (σ.2 k)) ∧ (∀ k, σ.1 ≤ k → σ.2 k = cJ) ∧ c_St G U H
theorem c_at.moved {G : cG} {u U : State} {H : Heap} {k : Nat} {e : cE} (hvm : u.vm.Alike U.vm) (h : c_at G u H k e) : c_at G U H k e := by
  rcases e with ⟨t, N, f | f⟩ | ⟨ci, fs⟩
  · obtain ⟨cA, h1, h2⟩ := h
    exact ⟨cA, h1, arrOfT_moved hvm h2⟩
  · obtain ⟨cA, h1, h2, h3⟩ := h
    exact ⟨cA, h1, arrOfT_moved hvm h2, h3.moved hvm⟩
  · exact h
theorem c_sp.moved {G : cG} {u U : State} {H : Heap} {k : Nat} {e : cE} (hvm : u.vm.Alike U.vm) (h : c_sp G u H k e) : c_sp G U H k e := by
  rcases e with ⟨t, N, f | f⟩ | ⟨ci, fs⟩
  · exact ⟨h.1, va_T.moved hvm h.2⟩
  · exact h
  · exact h
theorem c_Hd.moved {G : cG} {σ : cH} {u U : State} {H : Heap} (hvm : u.vm.Alike U.vm) (h : c_Hd G σ u H) : c_Hd G σ U H :=
  ⟨h.1, h.2.1, fun k h3 hk => (h.2.2.1 k h3 hk).moved hvm, fun k hk => (h.2.2.2.1 k hk).moved hvm, h.2.2.2.2.1, va_Z.moved hvm h.2.2.2.2.2.1, va_Z.moved hvm h.2.2.2.2.2.2⟩
theorem c_at.kept {G : cG} {U : State} {H H1 : Heap} {k : Nat} {e : cE} (h : c_at G U H k e) (hq : H1[c_ad G k]? = H[c_ad G k]?) : c_at G U H1 k e := by
  rcases e with ⟨t, N, f | f⟩ | ⟨ci, fs⟩
  · obtain ⟨cA, h1, h2⟩ := h
    exact ⟨cA, by rw [hq]; exact h1, h2⟩
  · obtain ⟨cA, h1, h2, h3⟩ := h
    exact ⟨cA, by rw [hq]; exact h1, h2, h3⟩
  · obtain ⟨r, h1, h2⟩ := h
    exact ⟨r, h1, h2.kept hq⟩
theorem c_sp.kept {G : cG} {U : State} {H H1 : Heap} {k : Nat} {e : cE} (h : c_sp G U H k e) (hq : ∀ a : Nat, a < H.size → ¬ c_A G a → H1[a]? = H[a]?) : c_sp G U H1 k e := by
  rcases e with ⟨t, N, f | f⟩ | ⟨ci, fs⟩
  · exact ⟨h.1, va_T.kept h.2 hq⟩
  · exact h
  · exact h
theorem c_ad_ge {G : cG} {k : Nat} (h : 3 ≤ k) : c_ad G k = G.1 + (k - 3) := if_neg (by omega)
theorem c_ad_inj {G : cG} {j k : Nat} (hj : 3 ≤ j) (hk : 3 ≤ k) (h : c_ad G j = c_ad G k) : j = k := by
  rw [c_ad_ge hj, c_ad_ge hk] at h
  omega
theorem c_ad_A {G : cG} {k : Nat} (h : 3 ≤ k) : c_A G (c_ad G k) := by
  rw [c_ad_ge h]
  exact Nat.le_add_right _ _
/-- one cell of ours is written -/
theorem c_Hd.set {G : cG} {σ : cH} {U : State} {H H1 : Heap} {a : Nat} {e : cE} (h : c_Hd G σ U H) (ha : 3 ≤ a) (hl : a < σ.1) (hz : H1.size = H.size) (oq : ∀ q : Nat, q ≠ c_ad G a → H1[q]? = H[q]?) (he : c_at G U H1 a e) : c_Hd G (σ.1, c_up σ.2 a e) U H1 := by
  obtain ⟨h1, h2, h3, h4, h5, h6⟩ := h
  have old : ∀ q : Nat, q < H.size → ¬ c_A G q → H1[q]? = H[q]? := fun q _ hq => oq q (fun e => hq (by rw [e]; exact c_ad_A ha))
  refine ⟨h1, by rw [hz]; exact h2, fun k hk hl2 => ?_, fun k hk => ?_, fun k hk => ?_, va_Z.kept h6.1 old, va_Z.kept h6.2 old⟩
  · show c_at G U H1 k (c_up σ.2 a e k)
    by_cases hka : k = a
    · subst hka
      rw [c_up_same]
      exact he
    · rw [c_up_ne _ _ hka]
      exact (h3 k hk hl2).kept (oq _ (fun z => hka (c_ad_inj hk ha z)))
  · show c_sp G U H1 k (c_up σ.2 a e k)
    rw [c_up_ne _ _ (by omega)]
    exact (h4 k hk).kept old
  · show c_up σ.2 a e k = cJ
    rw [c_up_ne _ _ (by have : σ.1 ≤ k := hk; omega)]
    exact h5 k hk
/-- a cell of ours is made -/
theorem c_Hd.push {G : cG} {σ : cH} {U : State} {H H1 : Heap} {e : cE} (h : c_Hd G σ U H) (hz : H1.size = H.size + 1) (oq : ∀ q : Nat, q < H.size → H1[q]? = H[q]?) (he : c_at G U H1 σ.1 e) : c_Hd G (σ.1 + 1, c_up σ.2 σ.1 e) U H1 := by
  obtain ⟨h1, h2, h3, h4, h5, h6⟩ := h
  have old : ∀ q : Nat, q < H.size → ¬ c_A G q → H1[q]? = H[q]? := fun q hq _ => oq q hq
  refine ⟨by show 3 ≤ σ.1 + 1; omega, by rw [hz, h2]; show G.1 + (σ.1 - 3) + 1 = G.1 + (σ.1 + 1 - 3); omega, fun k hk hl2 => ?_, fun k hk => ?_, fun k hk => ?_, va_Z.kept h6.1 old, va_Z.kept h6.2 old⟩
  · show c_at G U H1 k (c_up σ.2 σ.1 e k)
    by_cases hka : k = σ.1
    · rw [hka, c_up_same]
      exact he
    · rw [c_up_ne _ _ hka]
      have hl3 : k < σ.1 := by have : k < σ.1 + 1 := hl2; omega
      exact (h3 k hk hl3).kept (oq _ (by rw [c_ad_ge hk, h2]; omega))
  · show c_sp G U H1 k (c_up σ.2 σ.1 e k)
    rw [c_up_ne _ _ (by omega)]
    exact (h4 k hk).kept old
  · show c_up σ.2 σ.1 e k = cJ
    have hk2 : σ.1 + 1 ≤ k := hk
    rw [c_up_ne _ _ (by omega)]
    exact h5 k (by omega)
theorem c_Hd.new {G : cG} {σ : cH} {U : State} {H : Heap} (h : c_Hd G σ U H) : H.size = c_ad G σ.1 := by
  rw [c_ad_ge h.1]
  exact h.2.1
/-- an object's cell is one of ours -/
theorem c_Hd.obj {G : cG} {σ : cH} {U : State} {H : Heap} (h : c_Hd G σ U H) {a : Nat} {q : Nat × List Value} (ha : σ.2 a = .inr q) : 3 ≤ a ∧ a < σ.1 ∧ c_at G U H a (.inr q) := by
  have h3 : 3 ≤ a := by
    refine Nat.not_lt.mp fun z => ?_
    have := h.2.2.2.1 a z
    rw [ha] at this
    exact this
  have hl : a < σ.1 := by
    refine Nat.not_le.mp fun z => ?_
    have := h.2.2.2.2.1 a z
    rw [ha] at this
    cases this
  refine ⟨h3, hl, ?_⟩
  have := h.2.2.1 a h3 hl
  rw [ha] at this
  exact this
theorem c_Hd.arr {G : cG} {σ : cH} {U : State} {H : Heap} (h : c_Hd G σ U H) {a t N : Nat} {f : (Nat → Int32) ⊕ (Nat → Option Nat)} (ha : σ.2 a = .inl (t, N, f)) (ht : t < 99) (h3 : 3 ≤ a) : a < σ.1 ∧ c_at G U H a (.inl (t, N, f)) := by
  have hl : a < σ.1 := by
    refine Nat.not_le.mp fun z => ?_
    have := h.2.2.2.2.1 a z
    rw [ha] at this
    have e : t = 99 := by
      have := Sum.inl.inj this
      exact congrArg Prod.fst this
    omega
  refine ⟨hl, ?_⟩
  have := h.2.2.1 a h3 hl
  rw [ha] at this
  exact this
end
section
/-! the words of the tables that stay, what the law's state holds of them, and Sm: the machine follows a program -/
def c_gw : List Cond := lw_tbl.filter goodWord
theorem c_in {w : Cond} (i : Nat) (h : lw_tbl[i]? = some w) (hg : goodWord w = true) : w ∈ c_gw := List.mem_filter.mpr ⟨List.mem_of_getElem? h, hg⟩
theorem c_good {w : Cond} (h : w ∈ c_gw) : (w.onTables && w.keeps) = true ∨ ∃ ty, w = .arrayClass ty := good_of_word (List.mem_filter.mp h).2
def c_nw : List (String × Nat × MethodName) := [(RX9, 9, yX7_init), (RX9, 18, yX5_init), (RX9, 32, yX0_init), (RX9, 45, yX2_init), (RX9, 52, yX8_init), (RX9, 59, yX4_init), (RX9, 67, yX1_init), (RX1, 9, yX5_init), (RX3, 17, yX5_init)]
def c_Cx (G : cG) (U : State) : Prop := (∀ w ∈ c_gw, ∀ a : Array Value, w.before a U = true) ∧ va_K G.2.2 vwCl [] U ∧ (∀ q ∈ c_nw, va_Nw (.methodLinkNest q.1 q.2.1 q.2.2 RX9) U) ∧ va_AO RX1 U ∧ va_AO RX5 U ∧ va_Nw (.arrayOver (.array .int)) U
theorem c_Cx.moved {G : cG} {s U : State} (hW : s.WarmedH U.vm) (h : c_Cx G s) : c_Cx G U := by
  obtain ⟨h1, h2, h3, h4, h5, h6⟩ := h
  exact ⟨fun w hw a => word_at hW (c_good hw) (h1 w hw a), va_K.moved hW.alike h2, fun q hq => va_Nw.warmM hW (h3 q hq), va_AO.moved hW.alike h4, va_AO.moved hW.alike h5, over_moved hW.alike h6⟩
def c_Ok (p : Program) (s : State) (m : MethodId) (c : Code) (cc : ByteArray) (nL : Nat) (own : String) (G : cG) : Prop := p.tables.exec = Jvm.exec ∧ c.code = cc ∧ c.maxLocals = nL ∧ s.vm.findClass own = some m.cls ∧ c_Cx G s
def Sm {α : Type} (p : Program) (l : Launch) (e : Env) (R : Room) (s : State) (m : MethodId) (args : Array Value) (below : List Frame) (meth : Method) (c : Code) (G : cG) (nL : Nat) (Q : α → cH → State → Prop) (cells slots pc : Nat) (lv : List (Nat × Value)) (st : List Value) (P : MM α) : Prop :=
  ∀ (σ : cH) (r : α) (σ' : cH), P σ = some (r, σ') → ∀ (H : Heap) (locs : List Loc) (ls : Array Slot), c_Hd G σ s H → (∀ q ∈ locs, c_A G q.base) → lv_has ls nL (c_lv G lv) → W p l e R s m args below meth c H locs cells slots (Q r σ') (F0 m pc ls (st.map (c_v G)))
theorem c_lv_at {G : cG} {lv : List (Nat × Value)} {k i : Nat} {v : Value} (h : lv[k]? = some (i, v)) : (c_lv G lv)[k]? = some (i, c_v G v) := by
  unfold c_lv
  rw [List.getElem?_map, h]
  rfl
section SM
variable {α β : Type} {p : Program} {l : Launch} {e : Env} {R : Room} {s : State} {m : MethodId} {args : Array Value} {below : List Frame} {meth : Method} {c : Code} {G : cG} {nL : Nat} {Q : α → cH → State → Prop} {cells slots pc : Nat} {lv lv' : List (Nat × Value)} {st : List Value} {P : MM α} {cc : ByteArray} {own : String}
/-! constants -/
theorem sm_iconst (h : c_Ok p s m c cc nL own G) {n : Int} {v : Int32} (hd : decode cc pc = .ok (.iconst n, 1)) (hv : Int32.ofInt n = v) (k : Sm p l e R s m args below meth c G nL Q cells slots (pc + 1) lv (.int v :: st) P) : Sm p l e R s m args below meth c G nL Q cells slots pc lv st P :=
  fun σ r σ' hP H locs ls hH hL hl => lv_iconst h.1 h.2.1 hd hv (k σ r σ' hP H locs ls hH hL hl)
theorem sm_bipush (h : c_Ok p s m c cc nL own G) {n : Int} {v : Int32} (hd : decode cc pc = .ok (.bipush n, 2)) (hv : (Int8.ofInt n).toInt32 = v) (k : Sm p l e R s m args below meth c G nL Q cells slots (pc + 2) lv (.int v :: st) P) : Sm p l e R s m args below meth c G nL Q cells slots pc lv st P :=
  fun σ r σ' hP H locs ls hH hL hl => lv_bipush h.1 h.2.1 hd hv (k σ r σ' hP H locs ls hH hL hl)
theorem sm_sipush (h : c_Ok p s m c cc nL own G) {n : Int} {v : Int32} (hd : decode cc pc = .ok (.sipush n, 3)) (hv : (Int16.ofInt n).toInt32 = v) (k : Sm p l e R s m args below meth c G nL Q cells slots (pc + 3) lv (.int v :: st) P) : Sm p l e R s m args below meth c G nL Q cells slots pc lv st P :=
  fun σ r σ' hP H locs ls hH hL hl => lv_sipush h.1 h.2.1 hd hv (k σ r σ' hP H locs ls hH hL hl)
theorem sm_lconst (h : c_Ok p s m c cc nL own G) {n : Fin 2} {v : Int64} (hd : decode cc pc = .ok (.lconst n, 1)) (hv : Int64.ofNat (n : Nat) = v) (k : Sm p l e R s m args below meth c G nL Q cells slots (pc + 1) lv (.long v :: st) P) : Sm p l e R s m args below meth c G nL Q cells slots pc lv st P :=
  fun σ r σ' hP H locs ls hH hL hl => lv_lconst h.1 h.2.1 hd hv (k σ r σ' hP H locs ls hH hL hl)
theorem sm_ldc (h : c_Ok p s m c cc nL own G) {index : Nat} {v : Int32} (hw : Cond.constant own index v ∈ c_gw) (hd : decode cc pc = .ok (.ldc index, 2)) (k : Sm p l e R s m args below meth c G nL Q cells slots (pc + 2) lv (.int v :: st) P) : Sm p l e R s m args below meth c G nL Q cells slots pc lv st P :=
  fun σ r σ' hP H locs ls hH hL hl => lv_ldc h.1 h.2.1 h.2.2.2.1 (h.2.2.2.2.1 _ hw _) hd (k σ r σ' hP H locs ls hH hL hl)
theorem sm_ldcw (h : c_Ok p s m c cc nL own G) {index : Nat} {v : Int32} (hw : Cond.constant own index v ∈ c_gw) (hd : decode cc pc = .ok (.ldc_w index, 3)) (k : Sm p l e R s m args below meth c G nL Q cells slots (pc + 3) lv (.int v :: st) P) : Sm p l e R s m args below meth c G nL Q cells slots pc lv st P :=
  fun σ r σ' hP H locs ls hH hL hl => lv_ldcw h.1 h.2.1 h.2.2.2.1 (h.2.2.2.2.1 _ hw _) hd (k σ r σ' hP H locs ls hH hL hl)
theorem sm_ldc2 (h : c_Ok p s m c cc nL own G) {index : Nat} {v : Int64} (hw : Cond.constantLong own index v ∈ c_gw) (hd : decode cc pc = .ok (.ldc2_w index, 3)) (k : Sm p l e R s m args below meth c G nL Q cells slots (pc + 3) lv (.long v :: st) P) : Sm p l e R s m args below meth c G nL Q cells slots pc lv st P :=
  fun σ r σ' hP H locs ls hH hL hl => lv_ldc2 h.1 h.2.1 h.2.2.2.1 (h.2.2.2.2.1 _ hw _) hd (k σ r σ' hP H locs ls hH hL hl)
/-! locals -/
theorem sm_iload_n (h : c_Ok p s m c cc nL own G) {n : Fin 4} {i : Nat} {x : Int32} (j : Nat) (hd : decode cc pc = .ok (.iload_n n, 1)) (hi : (n : Nat) = i) (hj : lv[j]? = some (i, .int x)) (k : Sm p l e R s m args below meth c G nL Q cells slots (pc + 1) lv (.int x :: st) P) : Sm p l e R s m args below meth c G nL Q cells slots pc lv st P :=
  fun σ r σ' hP H locs ls hH hL hl => lv_iload_n h.1 h.2.1 hd hi (lv_at hl j (c_lv_at hj)) (k σ r σ' hP H locs ls hH hL hl)
theorem sm_iload (h : c_Ok p s m c cc nL own G) {i : Nat} {x : Int32} (j : Nat) (hd : decode cc pc = .ok (.iload i, 2)) (hj : lv[j]? = some (i, .int x)) (k : Sm p l e R s m args below meth c G nL Q cells slots (pc + 2) lv (.int x :: st) P) : Sm p l e R s m args below meth c G nL Q cells slots pc lv st P :=
  fun σ r σ' hP H locs ls hH hL hl => lv_iload h.1 h.2.1 hd (lv_at hl j (c_lv_at hj)) (k σ r σ' hP H locs ls hH hL hl)
theorem sm_lload_n (h : c_Ok p s m c cc nL own G) {n : Fin 4} {i : Nat} {x : Int64} (j : Nat) (hd : decode cc pc = .ok (.lload_n n, 1)) (hi : (n : Nat) = i) (hj : lv[j]? = some (i, .long x)) (k : Sm p l e R s m args below meth c G nL Q cells slots (pc + 1) lv (.long x :: st) P) : Sm p l e R s m args below meth c G nL Q cells slots pc lv st P :=
  fun σ r σ' hP H locs ls hH hL hl => lv_lload_n h.1 h.2.1 hd hi (lv_at hl j (c_lv_at hj)) (k σ r σ' hP H locs ls hH hL hl)
theorem sm_lload (h : c_Ok p s m c cc nL own G) {i : Nat} {x : Int64} (j : Nat) (hd : decode cc pc = .ok (.lload i, 2)) (hj : lv[j]? = some (i, .long x)) (k : Sm p l e R s m args below meth c G nL Q cells slots (pc + 2) lv (.long x :: st) P) : Sm p l e R s m args below meth c G nL Q cells slots pc lv st P :=
  fun σ r σ' hP H locs ls hH hL hl => lv_lload h.1 h.2.1 hd (lv_at hl j (c_lv_at hj)) (k σ r σ' hP H locs ls hH hL hl)
theorem sm_aload_n (h : c_Ok p s m c cc nL own G) {n : Fin 4} {i x : Nat} (j : Nat) (hd : decode cc pc = .ok (.aload_n n, 1)) (hi : (n : Nat) = i) (hj : lv[j]? = some (i, .ref x)) (k : Sm p l e R s m args below meth c G nL Q cells slots (pc + 1) lv (.ref x :: st) P) : Sm p l e R s m args below meth c G nL Q cells slots pc lv st P :=
  fun σ r σ' hP H locs ls hH hL hl => lv_aload_n h.1 h.2.1 hd hi (lv_at hl j (c_lv_at hj)) (k σ r σ' hP H locs ls hH hL hl)
theorem sm_aload (h : c_Ok p s m c cc nL own G) {i x : Nat} (j : Nat) (hd : decode cc pc = .ok (.aload i, 2)) (hj : lv[j]? = some (i, .ref x)) (k : Sm p l e R s m args below meth c G nL Q cells slots (pc + 2) lv (.ref x :: st) P) : Sm p l e R s m args below meth c G nL Q cells slots pc lv st P :=
  fun σ r σ' hP H locs ls hH hL hl => lv_aload h.1 h.2.1 hd (lv_at hl j (c_lv_at hj)) (k σ r σ' hP H locs ls hH hL hl)
theorem c_lv_filter {i : Nat} {v : Value} (h : (i, v) :: lv.filter (fun q => !(q.1 == i) && !(q.1 + 1 == i && q.2.category == 2)) = lv') : (i, c_v G v) :: (c_lv G lv).filter (fun q => !(q.1 == i) && !(q.1 + 1 == i && q.2.category == 2)) = c_lv G lv' := by
  rw [← h]
  unfold c_lv
  rw [List.map_cons, List.filter_map]
  congr 2
  apply List.filter_congr
  intro q _
  show (!(q.1 == i) && !(q.1 + 1 == i && (c_v G q.2).category == 2)) = _
  have : (c_v G q.2).category = q.2.category := by cases q.2 <;> rfl
  rw [this]
theorem c_lv_filter2 {i : Nat} {v : Value} (h : (i, v) :: lv.filter (fun q => !(q.1 == i) && (!(q.1 == i + 1) && !(q.1 + 1 == i && q.2.category == 2))) = lv') : (i, c_v G v) :: (c_lv G lv).filter (fun q => !(q.1 == i) && (!(q.1 == i + 1) && !(q.1 + 1 == i && q.2.category == 2))) = c_lv G lv' := by
  rw [← h]
  unfold c_lv
  rw [List.map_cons, List.filter_map]
  congr 2
  apply List.filter_congr
  intro q _
  show (!(q.1 == i) && (!(q.1 == i + 1) && !(q.1 + 1 == i && (c_v G q.2).category == 2))) = _
  have : (c_v G q.2).category = q.2.category := by cases q.2 <;> rfl
  rw [this]
theorem sm_istore_n (h : c_Ok p s m c cc nL own G) {n : Fin 4} {i : Nat} {x : Int32} (lv' : List (Nat × Value)) (hd : decode cc pc = .ok (.istore_n n, 1)) (hi : (n : Nat) = i) (hn : i < nL) (he : (i, Value.int x) :: lv.filter (fun q => !(q.1 == i) && !(q.1 + 1 == i && q.2.category == 2)) = lv') (k : Sm p l e R s m args below meth c G nL Q cells slots (pc + 1) lv' st P) : Sm p l e R s m args below meth c G nL Q cells slots pc lv (.int x :: st) P :=
  fun σ r σ' hP H locs ls hH hL hl => lv_istore_n h.1 h.2.1 hd hi hl hn (c_lv_filter he) (fun ls' hl' => k σ r σ' hP H locs ls' hH hL hl')
theorem sm_istore (h : c_Ok p s m c cc nL own G) {i : Nat} {x : Int32} (lv' : List (Nat × Value)) (hd : decode cc pc = .ok (.istore i, 2)) (hn : i < nL) (he : (i, Value.int x) :: lv.filter (fun q => !(q.1 == i) && !(q.1 + 1 == i && q.2.category == 2)) = lv') (k : Sm p l e R s m args below meth c G nL Q cells slots (pc + 2) lv' st P) : Sm p l e R s m args below meth c G nL Q cells slots pc lv (.int x :: st) P :=
  fun σ r σ' hP H locs ls hH hL hl => lv_istore h.1 h.2.1 hd hl hn (c_lv_filter he) (fun ls' hl' => k σ r σ' hP H locs ls' hH hL hl')
theorem sm_astore_n (h : c_Ok p s m c cc nL own G) {n : Fin 4} {i x : Nat} (lv' : List (Nat × Value)) (hd : decode cc pc = .ok (.astore_n n, 1)) (hi : (n : Nat) = i) (hn : i < nL) (he : (i, Value.ref x) :: lv.filter (fun q => !(q.1 == i) && !(q.1 + 1 == i && q.2.category == 2)) = lv') (k : Sm p l e R s m args below meth c G nL Q cells slots (pc + 1) lv' st P) : Sm p l e R s m args below meth c G nL Q cells slots pc lv (.ref x :: st) P :=
  fun σ r σ' hP H locs ls hH hL hl => lv_astore_n h.1 h.2.1 hd hi hl hn (c_lv_filter he) (fun ls' hl' => k σ r σ' hP H locs ls' hH hL hl')
theorem sm_lstore_n (h : c_Ok p s m c cc nL own G) {n : Fin 4} {i : Nat} {x : Int64} (lv' : List (Nat × Value)) (hd : decode cc pc = .ok (.lstore_n n, 1)) (hi : (n : Nat) = i) (hn : i + 1 < nL) (he : (i, Value.long x) :: lv.filter (fun q => !(q.1 == i) && (!(q.1 == i + 1) && !(q.1 + 1 == i && q.2.category == 2))) = lv') (k : Sm p l e R s m args below meth c G nL Q cells slots (pc + 1) lv' st P) : Sm p l e R s m args below meth c G nL Q cells slots pc lv (.long x :: st) P :=
  fun σ r σ' hP H locs ls hH hL hl => lv_lstore_n h.1 h.2.1 hd hi hl hn (c_lv_filter2 he) (fun ls' hl' => k σ r σ' hP H locs ls' hH hL hl')
theorem sm_iinc (h : c_Ok p s m c cc nL own G) {i : Nat} {n : Int} {x v : Int32} (j : Nat) (lv' : List (Nat × Value)) (hd : decode cc pc = .ok (.iinc i n, 3)) (hj : lv[j]? = some (i, .int x)) (hv : x + Int32.ofInt n = v) (hn : i < nL) (he : (i, Value.int v) :: lv.filter (fun q => !(q.1 == i) && !(q.1 + 1 == i && q.2.category == 2)) = lv') (k : Sm p l e R s m args below meth c G nL Q cells slots (pc + 3) lv' st P) : Sm p l e R s m args below meth c G nL Q cells slots pc lv st P :=
  fun σ r σ' hP H locs ls hH hL hl => lv_iinc h.1 h.2.1 hd hl (c_lv_at hj) hv hn (c_lv_filter he) (fun ls' hl' => k σ r σ' hP H locs ls' hH hL hl')
/-- fewer locals are spoken of -/
theorem sm_sub (ks : List Nat) (he : lv_pick lv ks = lv') (k : Sm p l e R s m args below meth c G nL Q cells slots pc lv' st P) : Sm p l e R s m args below meth c G nL Q cells slots pc lv st P :=
  fun σ r σ' hP H locs ls hH hL hl => k σ r σ' hP H locs ls hH hL (lv_sub hl ks (by
    rw [← he]
    unfold lv_pick c_lv
    rw [List.map_filterMap]
    congr 1
    funext k
    rw [List.getElem?_map]))
theorem sm_iadd (h : c_Ok p s m c cc nL own G) {x y : Int32} (hd : decode cc pc = .ok (.iadd, 1)) (k : Sm p l e R s m args below meth c G nL Q cells slots (pc + 1) lv (.int (x + y) :: st) P) : Sm p l e R s m args below meth c G nL Q cells slots pc lv (.int y :: .int x :: st) P :=
  fun σ r σ' hP H locs ls hH hL hl => lv_iadd h.1 h.2.1 hd (k σ r σ' hP H locs ls hH hL hl)
theorem sm_isub (h : c_Ok p s m c cc nL own G) {x y : Int32} (hd : decode cc pc = .ok (.isub, 1)) (k : Sm p l e R s m args below meth c G nL Q cells slots (pc + 1) lv (.int (x - y) :: st) P) : Sm p l e R s m args below meth c G nL Q cells slots pc lv (.int y :: .int x :: st) P :=
  fun σ r σ' hP H locs ls hH hL hl => lv_isub h.1 h.2.1 hd (k σ r σ' hP H locs ls hH hL hl)
theorem sm_imul (h : c_Ok p s m c cc nL own G) {x y : Int32} (hd : decode cc pc = .ok (.imul, 1)) (k : Sm p l e R s m args below meth c G nL Q cells slots (pc + 1) lv (.int (x * y) :: st) P) : Sm p l e R s m args below meth c G nL Q cells slots pc lv (.int y :: .int x :: st) P :=
  fun σ r σ' hP H locs ls hH hL hl => lv_imul h.1 h.2.1 hd (k σ r σ' hP H locs ls hH hL hl)
theorem sm_iand (h : c_Ok p s m c cc nL own G) {x y : Int32} (hd : decode cc pc = .ok (.iand, 1)) (k : Sm p l e R s m args below meth c G nL Q cells slots (pc + 1) lv (.int (x &&& y) :: st) P) : Sm p l e R s m args below meth c G nL Q cells slots pc lv (.int y :: .int x :: st) P :=
  fun σ r σ' hP H locs ls hH hL hl => lv_iand h.1 h.2.1 hd (k σ r σ' hP H locs ls hH hL hl)
theorem sm_ior (h : c_Ok p s m c cc nL own G) {x y : Int32} (hd : decode cc pc = .ok (.ior, 1)) (k : Sm p l e R s m args below meth c G nL Q cells slots (pc + 1) lv (.int (x ||| y) :: st) P) : Sm p l e R s m args below meth c G nL Q cells slots pc lv (.int y :: .int x :: st) P :=
  fun σ r σ' hP H locs ls hH hL hl => lv_ior h.1 h.2.1 hd (k σ r σ' hP H locs ls hH hL hl)
theorem sm_ixor (h : c_Ok p s m c cc nL own G) {x y : Int32} (hd : decode cc pc = .ok (.ixor, 1)) (k : Sm p l e R s m args below meth c G nL Q cells slots (pc + 1) lv (.int (x ^^^ y) :: st) P) : Sm p l e R s m args below meth c G nL Q cells slots pc lv (.int y :: .int x :: st) P :=
  fun σ r σ' hP H locs ls hH hL hl => lv_ixor h.1 h.2.1 hd (k σ r σ' hP H locs ls hH hL hl)
theorem sm_ishl (h : c_Ok p s m c cc nL own G) {x y : Int32} (hd : decode cc pc = .ok (.ishl, 1)) (k : Sm p l e R s m args below meth c G nL Q cells slots (pc + 1) lv (.int (x <<< (y &&& 31)) :: st) P) : Sm p l e R s m args below meth c G nL Q cells slots pc lv (.int y :: .int x :: st) P :=
  fun σ r σ' hP H locs ls hH hL hl => lv_ishl h.1 h.2.1 hd (k σ r σ' hP H locs ls hH hL hl)
theorem sm_ishr (h : c_Ok p s m c cc nL own G) {x y : Int32} (hd : decode cc pc = .ok (.ishr, 1)) (k : Sm p l e R s m args below meth c G nL Q cells slots (pc + 1) lv (.int (x >>> (y &&& 31)) :: st) P) : Sm p l e R s m args below meth c G nL Q cells slots pc lv (.int y :: .int x :: st) P :=
  fun σ r σ' hP H locs ls hH hL hl => lv_ishr h.1 h.2.1 hd (k σ r σ' hP H locs ls hH hL hl)
theorem sm_iushr (h : c_Ok p s m c cc nL own G) {x y v : Int32} (hd : decode cc pc = .ok (.iushr, 1)) (hv : (x.toUInt32 >>> (y.toUInt32 &&& Int32.toUInt32 31)).toInt32 = v) (k : Sm p l e R s m args below meth c G nL Q cells slots (pc + 1) lv (.int v :: st) P) : Sm p l e R s m args below meth c G nL Q cells slots pc lv (.int y :: .int x :: st) P :=
  fun σ r σ' hP H locs ls hH hL hl => lv_iushr h.1 h.2.1 hd hv (k σ r σ' hP H locs ls hH hL hl)
theorem sm_ineg (h : c_Ok p s m c cc nL own G) {x : Int32} (hd : decode cc pc = .ok (.ineg, 1)) (k : Sm p l e R s m args below meth c G nL Q cells slots (pc + 1) lv (.int (-x) :: st) P) : Sm p l e R s m args below meth c G nL Q cells slots pc lv (.int x :: st) P :=
  fun σ r σ' hP H locs ls hH hL hl => lv_ineg h.1 h.2.1 hd (k σ r σ' hP H locs ls hH hL hl)
theorem sm_ladd (h : c_Ok p s m c cc nL own G) {x y : Int64} (hd : decode cc pc = .ok (.ladd, 1)) (k : Sm p l e R s m args below meth c G nL Q cells slots (pc + 1) lv (.long (x + y) :: st) P) : Sm p l e R s m args below meth c G nL Q cells slots pc lv (.long y :: .long x :: st) P :=
  fun σ r σ' hP H locs ls hH hL hl => lv_ladd h.1 h.2.1 hd (k σ r σ' hP H locs ls hH hL hl)
theorem sm_lmul (h : c_Ok p s m c cc nL own G) {x y : Int64} (hd : decode cc pc = .ok (.lmul, 1)) (k : Sm p l e R s m args below meth c G nL Q cells slots (pc + 1) lv (.long (x * y) :: st) P) : Sm p l e R s m args below meth c G nL Q cells slots pc lv (.long y :: .long x :: st) P :=
  fun σ r σ' hP H locs ls hH hL hl => lv_lmul h.1 h.2.1 hd (k σ r σ' hP H locs ls hH hL hl)
theorem sm_i2l (h : c_Ok p s m c cc nL own G) {x : Int32} {v : Int64} (hd : decode cc pc = .ok (.i2l, 1)) (hv : x.toInt64 = v) (k : Sm p l e R s m args below meth c G nL Q cells slots (pc + 1) lv (.long v :: st) P) : Sm p l e R s m args below meth c G nL Q cells slots pc lv (.int x :: st) P :=
  fun σ r σ' hP H locs ls hH hL hl => lv_i2l h.1 h.2.1 hd hv (k σ r σ' hP H locs ls hH hL hl)
theorem sm_l2i (h : c_Ok p s m c cc nL own G) {x : Int64} {v : Int32} (hd : decode cc pc = .ok (.l2i, 1)) (hv : x.toInt32 = v) (k : Sm p l e R s m args below meth c G nL Q cells slots (pc + 1) lv (.int v :: st) P) : Sm p l e R s m args below meth c G nL Q cells slots pc lv (.long x :: st) P :=
  fun σ r σ' hP H locs ls hH hL hl => lv_l2i h.1 h.2.1 hd hv (k σ r σ' hP H locs ls hH hL hl)
theorem c_cat (G : cG) (v : Value) : (c_v G v).category = v.category := by cases v <;> rfl
theorem sm_dup (h : c_Ok p s m c cc nL own G) {va : Value} (hd : decode cc pc = .ok (.dup, 1)) (hva : va.category = 1) (k : Sm p l e R s m args below meth c G nL Q cells slots (pc + 1) lv (va :: va :: st) P) : Sm p l e R s m args below meth c G nL Q cells slots pc lv (va :: st) P :=
  fun σ r σ' hP H locs ls hH hL hl => lv_dup h.1 h.2.1 hd (by rw [c_cat]; exact hva) (k σ r σ' hP H locs ls hH hL hl)
theorem sm_pop (h : c_Ok p s m c cc nL own G) {va : Value} (hd : decode cc pc = .ok (.pop, 1)) (hva : va.category = 1) (k : Sm p l e R s m args below meth c G nL Q cells slots (pc + 1) lv st P) : Sm p l e R s m args below meth c G nL Q cells slots pc lv (va :: st) P :=
  fun σ r σ' hP H locs ls hH hL hl => lv_pop h.1 h.2.1 hd (by rw [c_cat]; exact hva) (k σ r σ' hP H locs ls hH hL hl)
theorem sm_dup2 (h : c_Ok p s m c cc nL own G) {va vb : Value} (hd : decode cc pc = .ok (.dup2, 1)) (hva : va.category = 1) (hvb : vb.category = 1) (k : Sm p l e R s m args below meth c G nL Q cells slots (pc + 1) lv (va :: vb :: va :: vb :: st) P) : Sm p l e R s m args below meth c G nL Q cells slots pc lv (va :: vb :: st) P :=
  fun σ r σ' hP H locs ls hH hL hl => lv_dup2_11 h.1 h.2.1 hd (by rw [c_cat]; exact hva) (by rw [c_cat]; exact hvb) (k σ r σ' hP H locs ls hH hL hl)
theorem sm_goto (h : c_Ok p s m c cc nL own G) {off : Int} {tgt : Nat} (hd : decode cc pc = .ok (.goto off, 3)) (ht : (pc : Int) + off = (tgt : Int)) (k : Sm p l e R s m args below meth c G nL Q cells slots tgt lv st P) : Sm p l e R s m args below meth c G nL Q cells slots pc lv st P :=
  fun σ r σ' hP H locs ls hH hL hl => lv_goto h.1 h.2.1 hd ht (k σ r σ' hP H locs ls hH hL hl)
theorem sm_lcmp (h : c_Ok p s m c cc nL own G) {x y : Int64} (hd : decode cc pc = .ok (.lcmp, 1)) (k : Sm p l e R s m args below meth c G nL Q cells slots (pc + 1) lv (.int (lg_cmp x y) :: st) P) : Sm p l e R s m args below meth c G nL Q cells slots pc lv (.long y :: .long x :: st) P :=
  fun σ r σ' hP H locs ls hH hL hl => W.lcmp h.1 h.2.1 hd (k σ r σ' hP H locs ls hH hL hl)
theorem sm_idiv (h : c_Ok p s m c cc nL own G) {x y : Int32} (hd : decode cc pc = .ok (.idiv, 1)) (k : Sm p l e R s m args below meth c G nL Q cells slots (pc + 1) lv (.int (x / y) :: st) P) : Sm p l e R s m args below meth c G nL Q cells slots pc lv (.int y :: .int x :: st) (m_nz y P) := by
  intro σ r σ' hP H locs ls hH hL hl
  by_cases hy : y = 0
  · simp only [m_nz, if_pos hy] at hP
    cases hP
  · simp only [m_nz, if_neg hy] at hP
    exact lv_idiv h.1 h.2.1 hd hy (k σ r σ' hP H locs ls hH hL hl)
theorem sm_irem (h : c_Ok p s m c cc nL own G) {x y : Int32} (hd : decode cc pc = .ok (.irem, 1)) (k : Sm p l e R s m args below meth c G nL Q cells slots (pc + 1) lv (.int (x - x / y * y) :: st) P) : Sm p l e R s m args below meth c G nL Q cells slots pc lv (.int y :: .int x :: st) (m_nz y P) := by
  intro σ r σ' hP H locs ls hH hL hl
  by_cases hy : y = 0
  · simp only [m_nz, if_pos hy] at hP
    cases hP
  · simp only [m_nz, if_neg hy] at hP
    exact lv_irem h.1 h.2.1 hd hy (k σ r σ' hP H locs ls hH hL hl)
theorem sm_ldiv (h : c_Ok p s m c cc nL own G) {x y : Int64} (hd : decode cc pc = .ok (.ldiv, 1)) (k : Sm p l e R s m args below meth c G nL Q cells slots (pc + 1) lv (.long (x / y) :: st) P) : Sm p l e R s m args below meth c G nL Q cells slots pc lv (.long y :: .long x :: st) (m_nzl y P) := by
  intro σ r σ' hP H locs ls hH hL hl
  by_cases hy : y = 0
  · simp only [m_nzl, if_pos hy] at hP
    cases hP
  · simp only [m_nzl, if_neg hy] at hP
    exact lv_ldiv h.1 h.2.1 hd hy (k σ r σ' hP H locs ls hH hL hl)
theorem sm_lrem (h : c_Ok p s m c cc nL own G) {x y : Int64} (hd : decode cc pc = .ok (.lrem, 1)) (k : Sm p l e R s m args below meth c G nL Q cells slots (pc + 1) lv (.long (x - x / y * y) :: st) P) : Sm p l e R s m args below meth c G nL Q cells slots pc lv (.long y :: .long x :: st) (m_nzl y P) := by
  intro σ r σ' hP H locs ls hH hL hl
  by_cases hy : y = 0
  · simp only [m_nzl, if_pos hy] at hP
    cases hP
  · simp only [m_nzl, if_neg hy] at hP
    exact lv_lrem h.1 h.2.1 hd hy (k σ r σ' hP H locs ls hH hL hl)
theorem sm_ite {q : Prop} [Decidable q] {P1 P2 : MM α} (k1 : q → Sm p l e R s m args below meth c G nL Q cells slots pc lv st P1) (k2 : ¬ q → Sm p l e R s m args below meth c G nL Q cells slots pc lv st P2) : Sm p l e R s m args below meth c G nL Q cells slots pc lv st (if q then P1 else P2) := by
  intro σ r σ' hP H locs ls hH hL hl
  by_cases hq : q
  · rw [if_pos hq] at hP
    exact k1 hq σ r σ' hP H locs ls hH hL hl
  · rw [if_neg hq] at hP
    exact k2 hq σ r σ' hP H locs ls hH hL hl
theorem sm_eq {P2 : MM α} (he : P = P2) (k : Sm p l e R s m args below meth c G nL Q cells slots pc lv st P2) : Sm p l e R s m args below meth c G nL Q cells slots pc lv st P := he ▸ k
theorem sm_if_eq (h : c_Ok p s m c cc nL own G) {x : Int32} {off : Int} {tgt : Nat} {P1 P2 : MM α} (hd : decode cc pc = .ok (.ifCond .eq off, 3)) (ht : (pc : Int) + off = (tgt : Int)) (k1 : Sm p l e R s m args below meth c G nL Q cells slots tgt lv st P1) (k2 : Sm p l e R s m args below meth c G nL Q cells slots (pc + 3) lv st P2) : Sm p l e R s m args below meth c G nL Q cells slots pc lv (.int x :: st) (if x = 0 then P1 else P2) := by
  intro σ r σ' hP H locs ls hH hL hl
  refine lv_if_eq h.1 h.2.1 hd ht (fun hq => ?_) (fun hq => ?_)
  · rw [if_pos hq] at hP
    exact k1 σ r σ' hP H locs ls hH hL hl
  · rw [if_neg hq] at hP
    exact k2 σ r σ' hP H locs ls hH hL hl
theorem sm_icmp_eq (h : c_Ok p s m c cc nL own G) {x y : Int32} {off : Int} {tgt : Nat} {P1 P2 : MM α} (hd : decode cc pc = .ok (.if_icmp .eq off, 3)) (ht : (pc : Int) + off = (tgt : Int)) (k1 : Sm p l e R s m args below meth c G nL Q cells slots tgt lv st P1) (k2 : Sm p l e R s m args below meth c G nL Q cells slots (pc + 3) lv st P2) : Sm p l e R s m args below meth c G nL Q cells slots pc lv (.int y :: .int x :: st) (if x = y then P1 else P2) := by
  intro σ r σ' hP H locs ls hH hL hl
  refine lv_icmp_eq h.1 h.2.1 hd ht (fun hq => ?_) (fun hq => ?_)
  · rw [if_pos hq] at hP
    exact k1 σ r σ' hP H locs ls hH hL hl
  · rw [if_neg hq] at hP
    exact k2 σ r σ' hP H locs ls hH hL hl
theorem sm_if_ne (h : c_Ok p s m c cc nL own G) {x : Int32} {off : Int} {tgt : Nat} {P1 P2 : MM α} (hd : decode cc pc = .ok (.ifCond .ne off, 3)) (ht : (pc : Int) + off = (tgt : Int)) (k1 : Sm p l e R s m args below meth c G nL Q cells slots tgt lv st P1) (k2 : Sm p l e R s m args below meth c G nL Q cells slots (pc + 3) lv st P2) : Sm p l e R s m args below meth c G nL Q cells slots pc lv (.int x :: st) (if x = 0 then P2 else P1) := by
  intro σ r σ' hP H locs ls hH hL hl
  refine lv_if_ne h.1 h.2.1 hd ht (fun hq => ?_) (fun hq => ?_)
  · rw [if_neg hq] at hP
    exact k1 σ r σ' hP H locs ls hH hL hl
  · rw [if_pos hq] at hP
    exact k2 σ r σ' hP H locs ls hH hL hl
theorem sm_icmp_ne (h : c_Ok p s m c cc nL own G) {x y : Int32} {off : Int} {tgt : Nat} {P1 P2 : MM α} (hd : decode cc pc = .ok (.if_icmp .ne off, 3)) (ht : (pc : Int) + off = (tgt : Int)) (k1 : Sm p l e R s m args below meth c G nL Q cells slots tgt lv st P1) (k2 : Sm p l e R s m args below meth c G nL Q cells slots (pc + 3) lv st P2) : Sm p l e R s m args below meth c G nL Q cells slots pc lv (.int y :: .int x :: st) (if x = y then P2 else P1) := by
  intro σ r σ' hP H locs ls hH hL hl
  refine lv_icmp_ne h.1 h.2.1 hd ht (fun hq => ?_) (fun hq => ?_)
  · rw [if_neg hq] at hP
    exact k1 σ r σ' hP H locs ls hH hL hl
  · rw [if_pos hq] at hP
    exact k2 σ r σ' hP H locs ls hH hL hl
theorem sm_if_lt (h : c_Ok p s m c cc nL own G) {x : Int32} {off : Int} {tgt : Nat} {P1 P2 : MM α} (hd : decode cc pc = .ok (.ifCond .lt off, 3)) (ht : (pc : Int) + off = (tgt : Int)) (k1 : Sm p l e R s m args below meth c G nL Q cells slots tgt lv st P1) (k2 : Sm p l e R s m args below meth c G nL Q cells slots (pc + 3) lv st P2) : Sm p l e R s m args below meth c G nL Q cells slots pc lv (.int x :: st) (if x < 0 then P1 else P2) := by
  intro σ r σ' hP H locs ls hH hL hl
  refine lv_if_lt h.1 h.2.1 hd ht (fun hq => ?_) (fun hq => ?_)
  · rw [if_pos hq] at hP
    exact k1 σ r σ' hP H locs ls hH hL hl
  · rw [if_neg hq] at hP
    exact k2 σ r σ' hP H locs ls hH hL hl
theorem sm_icmp_lt (h : c_Ok p s m c cc nL own G) {x y : Int32} {off : Int} {tgt : Nat} {P1 P2 : MM α} (hd : decode cc pc = .ok (.if_icmp .lt off, 3)) (ht : (pc : Int) + off = (tgt : Int)) (k1 : Sm p l e R s m args below meth c G nL Q cells slots tgt lv st P1) (k2 : Sm p l e R s m args below meth c G nL Q cells slots (pc + 3) lv st P2) : Sm p l e R s m args below meth c G nL Q cells slots pc lv (.int y :: .int x :: st) (if x < y then P1 else P2) := by
  intro σ r σ' hP H locs ls hH hL hl
  refine lv_icmp_lt h.1 h.2.1 hd ht (fun hq => ?_) (fun hq => ?_)
  · rw [if_pos hq] at hP
    exact k1 σ r σ' hP H locs ls hH hL hl
  · rw [if_neg hq] at hP
    exact k2 σ r σ' hP H locs ls hH hL hl
theorem sm_if_ge (h : c_Ok p s m c cc nL own G) {x : Int32} {off : Int} {tgt : Nat} {P1 P2 : MM α} (hd : decode cc pc = .ok (.ifCond .ge off, 3)) (ht : (pc : Int) + off = (tgt : Int)) (k1 : Sm p l e R s m args below meth c G nL Q cells slots tgt lv st P1) (k2 : Sm p l e R s m args below meth c G nL Q cells slots (pc + 3) lv st P2) : Sm p l e R s m args below meth c G nL Q cells slots pc lv (.int x :: st) (if 0 ≤ x then P1 else P2) := by
  intro σ r σ' hP H locs ls hH hL hl
  refine lv_if_ge h.1 h.2.1 hd ht (fun hq => ?_) (fun hq => ?_)
  · rw [if_pos hq] at hP
    exact k1 σ r σ' hP H locs ls hH hL hl
  · rw [if_neg hq] at hP
    exact k2 σ r σ' hP H locs ls hH hL hl
theorem sm_icmp_ge (h : c_Ok p s m c cc nL own G) {x y : Int32} {off : Int} {tgt : Nat} {P1 P2 : MM α} (hd : decode cc pc = .ok (.if_icmp .ge off, 3)) (ht : (pc : Int) + off = (tgt : Int)) (k1 : Sm p l e R s m args below meth c G nL Q cells slots tgt lv st P1) (k2 : Sm p l e R s m args below meth c G nL Q cells slots (pc + 3) lv st P2) : Sm p l e R s m args below meth c G nL Q cells slots pc lv (.int y :: .int x :: st) (if y ≤ x then P1 else P2) := by
  intro σ r σ' hP H locs ls hH hL hl
  refine lv_icmp_ge h.1 h.2.1 hd ht (fun hq => ?_) (fun hq => ?_)
  · rw [if_pos hq] at hP
    exact k1 σ r σ' hP H locs ls hH hL hl
  · rw [if_neg hq] at hP
    exact k2 σ r σ' hP H locs ls hH hL hl
theorem sm_if_gt (h : c_Ok p s m c cc nL own G) {x : Int32} {off : Int} {tgt : Nat} {P1 P2 : MM α} (hd : decode cc pc = .ok (.ifCond .gt off, 3)) (ht : (pc : Int) + off = (tgt : Int)) (k1 : Sm p l e R s m args below meth c G nL Q cells slots tgt lv st P1) (k2 : Sm p l e R s m args below meth c G nL Q cells slots (pc + 3) lv st P2) : Sm p l e R s m args below meth c G nL Q cells slots pc lv (.int x :: st) (if 0 < x then P1 else P2) := by
  intro σ r σ' hP H locs ls hH hL hl
  refine lv_if_gt h.1 h.2.1 hd ht (fun hq => ?_) (fun hq => ?_)
  · rw [if_pos hq] at hP
    exact k1 σ r σ' hP H locs ls hH hL hl
  · rw [if_neg hq] at hP
    exact k2 σ r σ' hP H locs ls hH hL hl
theorem sm_icmp_gt (h : c_Ok p s m c cc nL own G) {x y : Int32} {off : Int} {tgt : Nat} {P1 P2 : MM α} (hd : decode cc pc = .ok (.if_icmp .gt off, 3)) (ht : (pc : Int) + off = (tgt : Int)) (k1 : Sm p l e R s m args below meth c G nL Q cells slots tgt lv st P1) (k2 : Sm p l e R s m args below meth c G nL Q cells slots (pc + 3) lv st P2) : Sm p l e R s m args below meth c G nL Q cells slots pc lv (.int y :: .int x :: st) (if y < x then P1 else P2) := by
  intro σ r σ' hP H locs ls hH hL hl
  refine lv_icmp_gt h.1 h.2.1 hd ht (fun hq => ?_) (fun hq => ?_)
  · rw [if_pos hq] at hP
    exact k1 σ r σ' hP H locs ls hH hL hl
  · rw [if_neg hq] at hP
    exact k2 σ r σ' hP H locs ls hH hL hl
theorem sm_if_le (h : c_Ok p s m c cc nL own G) {x : Int32} {off : Int} {tgt : Nat} {P1 P2 : MM α} (hd : decode cc pc = .ok (.ifCond .le off, 3)) (ht : (pc : Int) + off = (tgt : Int)) (k1 : Sm p l e R s m args below meth c G nL Q cells slots tgt lv st P1) (k2 : Sm p l e R s m args below meth c G nL Q cells slots (pc + 3) lv st P2) : Sm p l e R s m args below meth c G nL Q cells slots pc lv (.int x :: st) (if x ≤ 0 then P1 else P2) := by
  intro σ r σ' hP H locs ls hH hL hl
  refine lv_if_le h.1 h.2.1 hd ht (fun hq => ?_) (fun hq => ?_)
  · rw [if_pos hq] at hP
    exact k1 σ r σ' hP H locs ls hH hL hl
  · rw [if_neg hq] at hP
    exact k2 σ r σ' hP H locs ls hH hL hl
theorem sm_icmp_le (h : c_Ok p s m c cc nL own G) {x y : Int32} {off : Int} {tgt : Nat} {P1 P2 : MM α} (hd : decode cc pc = .ok (.if_icmp .le off, 3)) (ht : (pc : Int) + off = (tgt : Int)) (k1 : Sm p l e R s m args below meth c G nL Q cells slots tgt lv st P1) (k2 : Sm p l e R s m args below meth c G nL Q cells slots (pc + 3) lv st P2) : Sm p l e R s m args below meth c G nL Q cells slots pc lv (.int y :: .int x :: st) (if x ≤ y then P1 else P2) := by
  intro σ r σ' hP H locs ls hH hL hl
  refine lv_icmp_le h.1 h.2.1 hd ht (fun hq => ?_) (fun hq => ?_)
  · rw [if_pos hq] at hP
    exact k1 σ r σ' hP H locs ls hH hL hl
  · rw [if_neg hq] at hP
    exact k2 σ r σ' hP H locs ls hH hL hl
theorem sm_tabIn (h : c_Ok p s m c cc nL own G) {dflt lo hi : Int} {offs : Array Int} {len : Nat} {x y : Int32} {off : Int} {tgt : Nat} (hd : decode cc pc = .ok (.tableswitch dflt lo hi offs, len)) (hx : x = y) (h1 : ¬ y.toInt < lo) (h2 : ¬ hi < y.toInt) (ho : offs[(y.toInt - lo).toNat]? = some off) (ht : (pc : Int) + off = (tgt : Int)) (k : Sm p l e R s m args below meth c G nL Q cells slots tgt lv st P) : Sm p l e R s m args below meth c G nL Q cells slots pc lv (.int x :: st) P := by
  subst hx
  exact fun σ r σ' hP H locs ls hH hL hl => lv_tableIn h.1 h.2.1 hd h1 h2 ho ht (k σ r σ' hP H locs ls hH hL hl)
theorem sm_tabOut (h : c_Ok p s m c cc nL own G) {dflt lo hi : Int} {offs : Array Int} {len : Nat} {x : Int32} {tgt : Nat} (hd : decode cc pc = .ok (.tableswitch dflt lo hi offs, len)) (hx : x.toInt < lo ∨ hi < x.toInt) (ht : (pc : Int) + dflt = (tgt : Int)) (k : Sm p l e R s m args below meth c G nL Q cells slots tgt lv st P) : Sm p l e R s m args below meth c G nL Q cells slots pc lv (.int x :: st) P :=
  fun σ r σ' hP H locs ls hH hL hl => lv_tableOut h.1 h.2.1 hd hx ht (k σ r σ' hP H locs ls hH hL hl)
theorem sm_lookup (h : c_Ok p s m c cc nL own G) {dflt : Int} {ps : Array (Int × Int)} {len : Nat} {x : Int32} {off : Int} {tgt : Nat} (hd : decode cc pc = .ok (.lookupswitch dflt ps, len)) (hp : (ps.toList.zip (ps.toList.drop 1)).all (fun (a, next) => a.1 < next.1) = true) (ho : Op.lookupswitch.offset ps.toList dflt x.toInt = off) (ht : (pc : Int) + off = (tgt : Int)) (k : Sm p l e R s m args below meth c G nL Q cells slots tgt lv st P) : Sm p l e R s m args below meth c G nL Q cells slots pc lv (.int x :: st) P :=
  fun σ r σ' hP H locs ls hH hL hl => lv_lookup h.1 h.2.1 hd hp ho ht (k σ r σ' hP H locs ls hH hL hl)
end SM
theorem c_ne_lo {x : Int32} {n : Nat} (hn : n < 2 ^ 31) (h : ∀ k : Nat, k < n → ¬ x = nI k) : x.toInt < 0 ∨ (n : Int) - 1 < x.toInt := by
  rcases Int.lt_or_le x.toInt 0 with h0 | h0
  · exact Or.inl h0
  · refine Or.inr (Int.not_le.mp fun z => ?_)
    have hk : x.toInt.toNat < n := by omega
    refine h _ hk (Int32.toInt_inj.mp ?_)
    rw [nI_toInt (by omega)]
    omega
end
section
/-! what a program's step says when it answers -/
theorem m_gi_inv {α : Type} {a ci k : Nat} {K : Int32 → MM α} {σ : cH} {q : α × cH} (h : m_gi a ci k K σ = some q) : ∃ (fs : List Value) (x : Int32), σ.2 a = .inr (ci, fs) ∧ fs[k]? = some (.int x) ∧ K x σ = some q := by
  unfold m_gi at h
  rcases ha : σ.2 a with z | ⟨c, fs⟩
  · rw [ha] at h; cases h
  · rw [ha] at h
    dsimp only at h
    by_cases hc : c = ci
    · rw [if_pos hc] at h
      subst hc
      rcases hk : fs[k]? with _ | v
      · rw [hk] at h; cases h
      · rw [hk] at h
        cases v <;> first | exact ⟨fs, _, rfl, hk, h⟩ | cases h
    · rw [if_neg hc] at h; cases h
theorem m_gr_inv {α : Type} {a ci k : Nat} {K : Nat → MM α} {σ : cH} {q : α × cH} (h : m_gr a ci k K σ = some q) : ∃ (fs : List Value) (x : Nat), σ.2 a = .inr (ci, fs) ∧ fs[k]? = some (.ref x) ∧ K x σ = some q := by
  unfold m_gr at h
  rcases ha : σ.2 a with z | ⟨c, fs⟩
  · rw [ha] at h; cases h
  · rw [ha] at h
    dsimp only at h
    by_cases hc : c = ci
    · rw [if_pos hc] at h
      subst hc
      rcases hk : fs[k]? with _ | v
      · rw [hk] at h; cases h
      · rw [hk] at h
        cases v <;> first | exact ⟨fs, _, rfl, hk, h⟩ | cases h
    · rw [if_neg hc] at h; cases h
theorem m_pv_inv {α : Type} {a ci k : Nat} {v : Value} {K : MM α} {σ : cH} {q : α × cH} (h : m_pv a ci k v K σ = some q) : ∃ fs : List Value, σ.2 a = .inr (ci, fs) ∧ k < fs.length ∧ K (σ.1, c_up σ.2 a (.inr (ci, fs.set k v))) = some q := by
  unfold m_pv at h
  rcases ha : σ.2 a with z | ⟨c, fs⟩
  · rw [ha] at h; cases h
  · rw [ha] at h
    dsimp only at h
    by_cases hc : c = ci ∧ k < fs.length
    · rw [if_pos hc] at h
      obtain ⟨rfl, hl⟩ := hc
      exact ⟨fs, rfl, hl, h⟩
    · rw [if_neg hc] at h; cases h
theorem m_li_inv {α : Type} {t a : Nat} {i : Int32} {K : Int32 → MM α} {σ : cH} {q : α × cH} (h : m_li t a i K σ = some q) : ∃ (N : Nat) (f : Nat → Int32), σ.2 a = .inl (t, N, .inl f) ∧ ¬ (i < 0 ∨ N ≤ i.toNatClampNeg) ∧ K (f i.toNatClampNeg) σ = some q := by
  unfold m_li at h
  rcases ha : σ.2 a with ⟨t', N, f | f⟩ | z
  · rw [ha] at h
    dsimp only at h
    by_cases hc : t' = t ∧ ¬ (i < 0 ∨ N ≤ i.toNatClampNeg)
    · rw [if_pos hc] at h
      obtain ⟨rfl, hl⟩ := hc
      exact ⟨N, f, rfl, hl, h⟩
    · rw [if_neg hc] at h; cases h
  · rw [ha] at h; cases h
  · rw [ha] at h; cases h
theorem m_si_inv {α : Type} {a : Nat} {i x : Int32} {K : MM α} {σ : cH} {q : α × cH} (h : m_si a i x K σ = some q) : ∃ (N : Nat) (f : Nat → Int32), σ.2 a = .inl (0, N, .inl f) ∧ 3 ≤ a ∧ ¬ (i < 0 ∨ N ≤ i.toNatClampNeg) ∧ K (σ.1, c_up σ.2 a (.inl (0, N, .inl (upd f i.toNatClampNeg x)))) = some q := by
  unfold m_si at h
  rcases ha : σ.2 a with ⟨t', N, f | f⟩ | z
  · rw [ha] at h
    dsimp only at h
    by_cases hc : t' = 0 ∧ 3 ≤ a ∧ ¬ (i < 0 ∨ N ≤ i.toNatClampNeg)
    · rw [if_pos hc] at h
      obtain ⟨rfl, h3, hl⟩ := hc
      exact ⟨N, f, rfl, h3, hl, h⟩
    · rw [if_neg hc] at h; cases h
  · rw [ha] at h; cases h
  · rw [ha] at h; cases h
theorem m_sz_inv {α : Type} {a : Nat} {i x : Int32} {K : MM α} {σ : cH} {q : α × cH} (h : m_sz a i x K σ = some q) : ∃ (N : Nat) (f : Nat → Int32), σ.2 a = .inl (1, N, .inl f) ∧ 3 ≤ a ∧ ¬ (i < 0 ∨ N ≤ i.toNatClampNeg) ∧ x &&& 1 = x ∧ K (σ.1, c_up σ.2 a (.inl (1, N, .inl (upd f i.toNatClampNeg x)))) = some q := by
  unfold m_sz at h
  rcases ha : σ.2 a with ⟨t', N, f | f⟩ | z
  · rw [ha] at h
    dsimp only at h
    by_cases hc : t' = 1 ∧ 3 ≤ a ∧ ¬ (i < 0 ∨ N ≤ i.toNatClampNeg) ∧ x &&& 1 = x
    · rw [if_pos hc] at h
      obtain ⟨rfl, h3, hl, hx⟩ := hc
      exact ⟨N, f, rfl, h3, hl, hx, h⟩
    · rw [if_neg hc] at h; cases h
  · rw [ha] at h; cases h
  · rw [ha] at h; cases h
theorem m_lr_inv {α : Type} {t a : Nat} {i : Int32} {K : Nat → MM α} {σ : cH} {q : α × cH} (h : m_lr t a i K σ = some q) : ∃ (N : Nat) (f : Nat → Option Nat) (y : Nat), σ.2 a = .inl (t, N, .inr f) ∧ ¬ (i < 0 ∨ N ≤ i.toNatClampNeg) ∧ f i.toNatClampNeg = some y ∧ K y σ = some q := by
  unfold m_lr at h
  rcases ha : σ.2 a with ⟨t', N, f | f⟩ | z
  · rw [ha] at h; cases h
  · rw [ha] at h
    dsimp only at h
    by_cases hc : t' = t ∧ ¬ (i < 0 ∨ N ≤ i.toNatClampNeg)
    · rw [if_pos hc] at h
      obtain ⟨rfl, hl⟩ := hc
      rcases hy : f i.toNatClampNeg with _ | y
      · rw [hy] at h; cases h
      · rw [hy] at h
        exact ⟨N, f, y, rfl, hl, hy, h⟩
    · rw [if_neg hc] at h; cases h
  · rw [ha] at h; cases h
theorem m_sr_inv {α : Type} {t a : Nat} {i : Int32} {v ci : Nat} {K : MM α} {σ : cH} {q : α × cH} (h : m_sr t a i v ci K σ = some q) : ∃ (N : Nat) (f : Nat → Option Nat) (fs : List Value), σ.2 a = .inl (t, N, .inr f) ∧ σ.2 v = .inr (ci, fs) ∧ ¬ (i < 0 ∨ N ≤ i.toNatClampNeg) ∧ K (σ.1, c_up σ.2 a (.inl (t, N, .inr (va_up f i.toNatClampNeg (some v))))) = some q := by
  unfold m_sr at h
  rcases ha : σ.2 a with ⟨t', N, f | f⟩ | z
  · rw [ha] at h; cases h
  · rw [ha] at h
    rcases hv : σ.2 v with z | ⟨c, fs⟩
    · rw [hv] at h; cases h
    · rw [hv] at h
      dsimp only at h
      by_cases hc : t' = t ∧ c = ci ∧ ¬ (i < 0 ∨ N ≤ i.toNatClampNeg)
      · rw [if_pos hc] at h
        obtain ⟨rfl, rfl, hl⟩ := hc
        exact ⟨N, f, fs, rfl, rfl, hl, h⟩
      · rw [if_neg hc] at h; cases h
  · rw [ha] at h; cases h
theorem m_len_inv {α : Type} {a : Nat} {K : Int32 → MM α} {σ : cH} {q : α × cH} (h : m_len a K σ = some q) : ∃ (t N : Nat) (f : (Nat → Int32) ⊕ (Nat → Option Nat)), σ.2 a = .inl (t, N, f) ∧ t < 99 ∧ K (Int32.ofNat N) σ = some q := by
  unfold m_len at h
  rcases ha : σ.2 a with ⟨t', N, f⟩ | z
  · rw [ha] at h
    dsimp only at h
    by_cases hc : t' < 99
    · rw [if_pos hc] at h
      exact ⟨t', N, f, rfl, hc, h⟩
    · rw [if_neg hc] at h; cases h
  · rw [ha] at h; cases h
theorem m_cp_inv {α : Type} {a0 a1 : Nat} {n : Int32} {K : MM α} {σ : cH} {q : α × cH} (h : m_cp a0 a1 n K σ = some q) : ∃ (N0 N1 : Nat) (f g : Nat → Int32), σ.2 a0 = .inl (0, N0, .inl f) ∧ σ.2 a1 = .inl (0, N1, .inl g) ∧ 3 ≤ a0 ∧ 3 ≤ a1 ∧ ¬ n < 0 ∧ n.toNatClampNeg ≤ N0 ∧ n.toNatClampNeg ≤ N1 ∧ K (σ.1, c_up σ.2 a1 (.inl (0, N1, .inl (va_cpy f g 0 0 n.toNatClampNeg)))) = some q := by
  unfold m_cp at h
  rcases ha : σ.2 a0 with ⟨t0, N0, f | f⟩ | z
  · rw [ha] at h
    rcases hb : σ.2 a1 with ⟨t1, N1, g | g⟩ | z
    · rw [hb] at h
      dsimp only at h
      by_cases hc : t0 = 0 ∧ t1 = 0 ∧ 3 ≤ a0 ∧ 3 ≤ a1 ∧ ¬ n < 0 ∧ n.toNatClampNeg ≤ N0 ∧ n.toNatClampNeg ≤ N1
      · rw [if_pos hc] at h
        obtain ⟨rfl, rfl, h1, h2, h3, h4, h5⟩ := hc
        exact ⟨N0, N1, f, g, rfl, rfl, h1, h2, h3, h4, h5, h⟩
      · rw [if_neg hc] at h; cases h
    · rw [hb] at h; cases h
    · rw [hb] at h; cases h
  · rw [ha] at h; cases h
  · rw [ha] at h; cases h
theorem m_cv_inv {α β : Type} {a ci : Nat} {P : MM α} {K : α → MM β} {σ : cH} {q : β × cH} (h : m_cv a ci P K σ = some q) : ∃ (fs : List Value) (x : α) (σ1 : cH), σ.2 a = .inr (ci, fs) ∧ P σ = some (x, σ1) ∧ K x σ1 = some q := by
  unfold m_cv at h
  rcases ha : σ.2 a with z | ⟨c, fs⟩
  · rw [ha] at h; cases h
  · rw [ha] at h
    dsimp only at h
    by_cases hc : c = ci
    · rw [if_pos hc] at h
      subst hc
      unfold m_bind at h
      rcases hp : P σ with _ | ⟨x, σ1⟩
      · rw [hp] at h; cases h
      · rw [hp] at h
        exact ⟨fs, x, σ1, rfl, rfl, h⟩
    · rw [if_neg hc] at h; cases h
theorem m_bind_inv {α β : Type} {P : MM α} {K : α → MM β} {σ : cH} {q : β × cH} (h : m_bind P K σ = some q) : ∃ (x : α) (σ1 : cH), P σ = some (x, σ1) ∧ K x σ1 = some q := by
  unfold m_bind at h
  rcases hp : P σ with _ | ⟨x, σ1⟩
  · rw [hp] at h; cases h
  · rw [hp] at h
    exact ⟨x, σ1, rfl, h⟩
/-! fields -/
def c_Fl (own : String) (index ci k : Nat) : Prop := ∃ (C : String) (T : u_T) (N : Nat), vwCl[ci]? = some (C, T, N) ∧ k < N ∧ (∀ w ∈ u_ws C T N, w ∈ c_gw) ∧ Cond.fieldLink own index (T k).1 (T k).2.1 (T k).2.2.1 ∈ c_gw
def c_Fp (ci k : Nat) (ty : FieldType) (fin : Bool) : Prop := ∃ (C : String) (T : u_T) (N : Nat) (ty0 : Nat → FieldType), vwCl[ci]? = some (C, T, N) ∧ (∀ k, k < N → parseFieldDescriptor (T k).2.2.1 = some (ty0 k)) ∧ (∀ a, a < N → ∀ b, b < N → a ≠ b → (T a).2.1 ≠ (T b).2.1) ∧ (T k).2.2.2 = fin ∧ parseFieldDescriptor (T k).2.2.1 = some ty ∧ (T k).1 = C
section SMH
variable {α β : Type} {p : Program} {l : Launch} {e : Env} {R : Room} {s : State} {m : MethodId} {args : Array Value} {below : List Frame} {meth : Method} {c : Code} {G : cG} {nL : Nat} {Q : α → cH → State → Prop} {cells slots pc : Nat} {lv lv' : List (Nat × Value)} {st : List Value} {P : MM α} {cc : ByteArray} {own : String}
theorem c_get (h : c_Ok p s m c cc nL own G) {index a ci k : Nat} {fs : List Value} {v : Value} {H : Heap} {locs : List Loc} {ls : Array Slot} {rest : List Value} {Z : State → Prop} (hf : c_Fl own index ci k) (hd : decode cc pc = .ok (.getfield index, 3)) (ha : c_at G s H a (.inr (ci, fs))) (hv : fs[k]? = some v)
    (kk : W p l e R s m args below meth c H locs cells slots Z (F0 m (pc + 3) ls (c_v G v :: rest))) : W p l e R s m args below meth c H locs cells slots Z (F0 m pc ls (.ref (c_ad G a) :: rest)) := by
  obtain ⟨C, T, N, hc, hk, hin, hw⟩ := hf
  have hP1 : va_P G.2.2 vwCl [(c_ad G a, .inr (ci, fs.map (c_v G)))] H := by
    intro k q hq
    have hz : k < 1 := (List.getElem?_eq_some_iff.mp hq).1
    rw [show k = 0 by omega] at hq
    cases hq
    exact ha
  exact va_get h.1 h.2.1 (fun w hw => h.2.2.2.2.1 w hw args) hin h.2.2.2.1 h.2.2.2.2.2.1 hP1 0 rfl hc k hk (h.2.2.2.2.1 _ hw _) (fun _ h9 => h9) (by rw [List.getElem?_map, hv]; rfl) hd kk
theorem sm_gi (h : c_Ok p s m c cc nL own G) {index a ci k : Nat} {K : Int32 → MM α} (hf : c_Fl own index ci k) (hd : decode cc pc = .ok (.getfield index, 3)) (kk : ∀ x : Int32, Sm p l e R s m args below meth c G nL Q cells slots (pc + 3) lv (.int x :: st) (K x)) : Sm p l e R s m args below meth c G nL Q cells slots pc lv (.ref a :: st) (m_gi a ci k K) := by
  intro σ r σ' hP H locs ls hH hL hl
  obtain ⟨fs, x, h1, h2, h3⟩ := m_gi_inv hP
  exact c_get h hf hd (hH.obj h1).2.2 h2 (kk x σ r σ' h3 H locs ls hH hL hl)
theorem sm_gr (h : c_Ok p s m c cc nL own G) {index a ci k : Nat} {K : Nat → MM α} (hf : c_Fl own index ci k) (hd : decode cc pc = .ok (.getfield index, 3)) (kk : ∀ x : Nat, Sm p l e R s m args below meth c G nL Q cells slots (pc + 3) lv (.ref x :: st) (K x)) : Sm p l e R s m args below meth c G nL Q cells slots pc lv (.ref a :: st) (m_gr a ci k K) := by
  intro σ r σ' hP H locs ls hH hL hl
  obtain ⟨fs, x, h1, h2, h3⟩ := m_gr_inv hP
  exact c_get h hf hd (hH.obj h1).2.2 h2 (kk x σ r σ' h3 H locs ls hH hL hl)
theorem sm_pv (h : c_Ok p s m c cc nL own G) {index a ci k : Nat} {v : Value} {ty : FieldType} (hf : c_Fl own index ci k) (hp : c_Fp ci k ty false) (hn : narrow ty (c_v G v) = c_v G v) (hfit : fits ty (c_v G v) = true) (hd : decode cc pc = .ok (.putfield index, 3)) (kk : Sm p l e R s m args below meth c G nL Q cells slots (pc + 3) lv st P) : Sm p l e R s m args below meth c G nL Q cells slots pc lv (v :: .ref a :: st) (m_pv a ci k v P) := by
  intro σ r σ' hP H locs ls hH hL hl
  obtain ⟨fs, h1, h2, h3⟩ := m_pv_inv hP
  obtain ⟨h3a, hlt, r9, hr9, cell, q1, q2, q3, q4⟩ := hH.obj h1
  obtain ⟨C, T, N, hc, hk, hin, hw⟩ := hf
  obtain ⟨C', T', N', ty0, hc', hty, hnm, hfin, hdsc, -⟩ := hp
  cases hc.symm.trans hc'
  cases hc.symm.trans hr9
  have hts : ∀ w ∈ c_gw, w.before args s = true := fun w hw => h.2.2.2.2.1 w hw args
  have hK := h.2.2.2.2.2.1
  have hap := va_apart (own := own) hts hin ty0 hty hnm hK hc
  obtain ⟨hS, hfc, kC, hkC, hkind⟩ := hK.1 ci _ hc
  obtain ⟨cf, kf, fi, f, hi, hsl⟩ := hS k hk
  have hlay := hts _ (hin _ (u_in_lay hk))
  unfold u_lay at hlay
  rw [if_neg (by rw [hfin]; decide)] at hlay
  have hst := (u_facts hfc hkC (u_lays hts hin hk) hi).1
  have h6 := u_store hfc hkC hkind hlay hi hdsc hn hfit
  refine W.putK h.1 h.2.1 (f := f) ⟨h.2.2.2.1, h.2.2.2.2.1 _ hw _, ⟨_, _, _, hi⟩, hst⟩ (by rw [q2]; exact h6) q1 q3 (by rw [hsl]; exact k2_hasslot (q4 k hk)) rfl rfl hd fun H' e1 e2 e3 => ?_
  refine kk _ r σ' h3 H' _ ls (hH.set h3a hlt e2 e3 ⟨_, hc, ?_⟩) (fun q hq => ?_) hl
  · rw [hsl] at e1
    refine t_OB.to (V := updV (vp_V (fs.map (c_v G))) k (c_v G v)) ⟨_, e1, q2, q3, t_set q4 hap hk _⟩ (fun j _ => ?_)
    rw [vp_updV_set (by rw [List.length_map]; exact h2) (c_v G v) j, List.map_set]
  · rcases List.mem_append.mp hq with z | z
    · exact hL q z
    · rw [List.mem_singleton.mp z]
      exact c_ad_A h3a
theorem sm_pvF (h : c_Ok p s m c cc nL own G) {index a ci k : Nat} {v : Value} {ty : FieldType} (hin2 : meth.name = "<init>") (hf : c_Fl own index ci k) (hp : c_Fp ci k ty true) (hown : ∃ T N, vwCl[ci]? = some (own, T, N)) (hn : narrow ty (c_v G v) = c_v G v) (hfit : fits ty (c_v G v) = true) (hd : decode cc pc = .ok (.putfield index, 3)) (kk : Sm p l e R s m args below meth c G nL Q cells slots (pc + 3) lv st P) : Sm p l e R s m args below meth c G nL Q cells slots pc lv (v :: .ref a :: st) (m_pv a ci k v P) := by
  intro σ r σ' hP H locs ls hH hL hl
  obtain ⟨fs, h1, h2, h3⟩ := m_pv_inv hP
  obtain ⟨h3a, hlt, r9, hr9, cell, q1, q2, q3, q4⟩ := hH.obj h1
  obtain ⟨C, T, N, hc, hk, hin, hw⟩ := hf
  obtain ⟨C', T', N', ty0, hc', hty, hnm, hfin, hdsc, hdecl⟩ := hp
  obtain ⟨T2, N2, hc2⟩ := hown
  cases hc.symm.trans hc'
  cases hc.symm.trans hr9
  cases hc.symm.trans hc2
  have hts : ∀ w ∈ c_gw, w.before args s = true := fun w hw => h.2.2.2.2.1 w hw args
  have hK := h.2.2.2.2.2.1
  have hap := va_apart (own := own) hts hin ty0 hty hnm hK hc
  obtain ⟨hS, hfc, kC, hkC, hkind⟩ := hK.1 ci _ hc
  obtain ⟨cf, kf, fi, f, hi, hsl⟩ := hS k hk
  have hlay := hts _ (hin _ (u_in_lay hk))
  unfold u_lay at hlay
  rw [if_pos hfin] at hlay
  have hst := (u_facts hfc hkC (u_lays hts hin hk) hi).1
  have hcf : m.cls = cf := by
    obtain ⟨_, _, c', _, _, _, -, -, hf', -, -, -, hown2, -⟩ := Cond.laysFinal_spec hlay
    have e1 : c' = cf := by have := hi.symm.trans hf'; simp at this; exact this.1.symm
    rw [hdecl] at hown2
    rw [← e1]; exact Option.some.inj (h.2.2.2.1.symm.trans hown2)
  have h6 := u_fits hfc hkC hkind (Or.inr hlay) hi hdsc hn hfit
  refine W.putFinK h.1 h.2.1 h.2.2.2.1 (h.2.2.2.2.1 _ hw _) hi hst hcf hin2 (by rw [q2]; exact h6) q1 q3 (by rw [hsl]; exact k2_hasslot (q4 k hk)) rfl rfl hd fun H' e1 e2 e3 => ?_
  refine kk _ r σ' h3 H' _ ls (hH.set h3a hlt e2 e3 ⟨_, hc, ?_⟩) (fun q hq => ?_) hl
  · rw [hsl] at e1
    refine t_OB.to (V := updV (vp_V (fs.map (c_v G))) k (c_v G v)) ⟨_, e1, q2, q3, t_set q4 hap hk _⟩ (fun j _ => ?_)
    rw [vp_updV_set (by rw [List.length_map]; exact h2) (c_v G v) j, List.map_set]
  · rcases List.mem_append.mp hq with z | z
    · exact hL q z
    · rw [List.mem_singleton.mp z]
      exact c_ad_A h3a
/-! arrays -/
theorem sm_li (h : c_Ok p s m c cc nL own G) {a : Nat} {i : Int32} {K : Int32 → MM α} (hd : decode cc pc = .ok (.iaload, 1)) (kk : ∀ x : Int32, Sm p l e R s m args below meth c G nL Q cells slots (pc + 1) lv (.int x :: st) (K x)) : Sm p l e R s m args below meth c G nL Q cells slots pc lv (.int i :: .ref a :: st) (m_li 0 a i K) := by
  intro σ r σ' hP H locs ls hH hL hl
  obtain ⟨N, f, h1, h2, h3⟩ := m_li_inv hP
  have hlt : i.toNatClampNeg < N := Nat.not_le.mp fun q => h2 (Or.inr q)
  by_cases ha : 3 ≤ a
  · obtain ⟨-, cA, g1, g2⟩ := hH.arr h1 (by decide) ha
    exact W.iald (v := .int (f i.toNatClampNeg)) h.1 h.2.1 g1 (g2 N (fun j => .int (f j))) (fun q => by cases q) (by rw [arrV_size]; exact h2) (by rw [arrV_read _ _ hlt]) rfl rfl hd (kk _ σ r σ' h3 H locs ls hH hL hl)
  · have := hH.2.2.2.1 a (by omega)
    rw [h1] at this
    obtain ⟨-, cell, g1, g2, g3, g4, g5, g6, g7⟩ := this
    exact W.iald (v := .int (f i.toNatClampNeg)) h.1 h.2.1 g1 g2 g3 (fun q => by
      rcases q with q | q
      · exact h2 (Or.inl q)
      · omega) (g6 _ hlt) rfl rfl hd (kk _ σ r σ' h3 H locs ls hH hL hl)
theorem sm_lz (h : c_Ok p s m c cc nL own G) {a : Nat} {i : Int32} {K : Int32 → MM α} (hd : decode cc pc = .ok (.baload, 1)) (kk : ∀ x : Int32, Sm p l e R s m args below meth c G nL Q cells slots (pc + 1) lv (.int x :: st) (K x)) : Sm p l e R s m args below meth c G nL Q cells slots pc lv (.int i :: .ref a :: st) (m_li 1 a i K) := by
  intro σ r σ' hP H locs ls hH hL hl
  obtain ⟨N, f, h1, h2, h3⟩ := m_li_inv hP
  have hlt : i.toNatClampNeg < N := Nat.not_le.mp fun q => h2 (Or.inr q)
  have ha : 3 ≤ a := by
    refine Nat.not_lt.mp fun z => ?_
    have := hH.2.2.2.1 a z
    rw [h1] at this
    exact absurd this.1 (by decide)
  obtain ⟨-, cA, g1, g2⟩ := hH.arr h1 (by decide) ha
  exact W.zald (v := .int (f i.toNatClampNeg)) h.1 h.2.1 g1 (g2 N (fun j => .int (f j))) (fun q => by cases q) (by rw [arrV_size]; exact h2) (by rw [arrV_read _ _ hlt]) rfl rfl hd (kk _ σ r σ' h3 H locs ls hH hL hl)
theorem c_L1 {G : cG} {locs : List Loc} {a k : Nat} (hL : ∀ q ∈ locs, c_A G q.base) (ha : 3 ≤ a) : ∀ q ∈ locs ++ [⟨c_ad G a, k⟩], c_A G q.base := by
  intro q hq
  rcases List.mem_append.mp hq with z | z
  · exact hL q z
  · rw [List.mem_singleton.mp z]
    exact c_ad_A ha
theorem sm_si (h : c_Ok p s m c cc nL own G) {a : Nat} {i x : Int32} (hd : decode cc pc = .ok (.iastore, 1)) (kk : Sm p l e R s m args below meth c G nL Q cells slots (pc + 1) lv st P) : Sm p l e R s m args below meth c G nL Q cells slots pc lv (.int x :: .int i :: .ref a :: st) (m_si a i x P) := by
  intro σ r σ' hP H locs ls hH hL hl
  obtain ⟨N, f, h1, ha, h2, h3⟩ := m_si_inv hP
  obtain ⟨hlt, cA, g1, g2⟩ := hH.arr h1 (by decide) ha
  refine W.iast h.1 h.2.1 g1 (g2 N (fun j => .int (f j))) (fun q => by cases q) (by rw [arrV_size]; exact h2) rfl rfl hd fun H1 e z oq => ?_
  refine kk _ r σ' h3 H1 _ ls (hH.set ha hlt z oq ⟨cA, ?_, g2⟩) (c_L1 hL ha) hl
  rw [e, arrV_store]
  congr 2
  funext q
  by_cases hq : q = i.toNatClampNeg <;> simp [updV, upd, hq]
theorem sm_sz (h : c_Ok p s m c cc nL own G) {a : Nat} {i x : Int32} (hd : decode cc pc = .ok (.bastore, 1)) (kk : Sm p l e R s m args below meth c G nL Q cells slots (pc + 1) lv st P) : Sm p l e R s m args below meth c G nL Q cells slots pc lv (.int x :: .int i :: .ref a :: st) (m_sz a i x P) := by
  intro σ r σ' hP H locs ls hH hL hl
  obtain ⟨N, f, h1, ha, h2, hx, h3⟩ := m_sz_inv hP
  obtain ⟨hlt, cA, g1, g2⟩ := hH.arr h1 (by decide) ha
  refine W.zast h.1 h.2.1 g1 (g2 N (fun j => .int (f j))) (fun q => by cases q) (by rw [arrV_size]; exact h2) rfl rfl hd fun H1 e z oq => ?_
  refine kk _ r σ' h3 H1 _ ls (hH.set ha hlt z oq ⟨cA, ?_, g2⟩) (c_L1 hL ha) hl
  rw [e, arrV_store]
  congr 2
  funext q
  by_cases hq : q = i.toNatClampNeg <;> simp [updV, upd, hq, narrow, hx]
theorem sm_lr (h : c_Ok p s m c cc nL own G) {t a : Nat} {i : Int32} {K : Nat → MM α} (ht : (c_ty t).isReference = true) (hd : decode cc pc = .ok (.aaload, 1)) (h9 : 0 < t ∧ t < 99) (kk : ∀ x : Nat, Sm p l e R s m args below meth c G nL Q cells slots (pc + 1) lv (.ref x :: st) (K x)) : Sm p l e R s m args below meth c G nL Q cells slots pc lv (.int i :: .ref a :: st) (m_lr t a i K) := by
  intro σ r σ' hP H locs ls hH hL hl
  obtain ⟨N, f, y, h1, h2, hy, h3⟩ := m_lr_inv hP
  have hlt : i.toNatClampNeg < N := Nat.not_le.mp fun q => h2 (Or.inr q)
  have ha : 3 ≤ a := by
    refine Nat.not_lt.mp fun z => ?_
    have := hH.2.2.2.1 a z
    rw [h1] at this
    exact this
  obtain ⟨-, cA, g1, g2, -⟩ := hH.arr h1 h9.2 ha
  exact W.aald (v := .ref (c_ad G y)) h.1 h.2.1 g1 (g2 N _) ht (fun q => by cases q) (by rw [arrV_size]; exact h2) (by rw [arrV_read _ _ hlt, hy]; rfl) rfl rfl hd (kk _ σ r σ' h3 H locs ls hH hL hl)
theorem sm_len (h : c_Ok p s m c cc nL own G) {a : Nat} {K : Int32 → MM α} (hd : decode cc pc = .ok (.arraylength, 1)) (kk : ∀ x : Int32, Sm p l e R s m args below meth c G nL Q cells slots (pc + 1) lv (.int x :: st) (K x)) : Sm p l e R s m args below meth c G nL Q cells slots pc lv (.ref a :: st) (m_len a K) := by
  intro σ r σ' hP H locs ls hH hL hl
  obtain ⟨t, N, f, h1, h2, h3⟩ := m_len_inv hP
  by_cases ha : 3 ≤ a
  · rcases f with f | f
    · obtain ⟨-, cA, g1, g2⟩ := hH.arr h1 h2 ha
      exact W.alen (n := Int32.ofNat N) h.1 h.2.1 g1 (g2 N _) (by rw [arrV_size] <;> rfl) rfl rfl hd (kk _ σ r σ' h3 H locs ls hH hL hl)
    · obtain ⟨-, cA, g1, g2, -⟩ := hH.arr h1 h2 ha
      exact W.alen (n := Int32.ofNat N) h.1 h.2.1 g1 (g2 N _) (by rw [arrV_size] <;> rfl) rfl rfl hd (kk _ σ r σ' h3 H locs ls hH hL hl)
  · have := hH.2.2.2.1 a (by omega)
    rw [h1] at this
    rcases f with f | f
    · obtain ⟨-, cell, g1, g2, g3, g4, g5, g6, g7⟩ := this
      exact W.alen (n := Int32.ofNat N) h.1 h.2.1 g1 g2 g5 rfl rfl hd (kk _ σ r σ' h3 H locs ls hH hL hl)
    · exact this.elim
end SMH
end
section
/-! cells made, arrays copied, statics, calls, returns -/
section SMN
variable {α β : Type} {p : Program} {l : Launch} {e : Env} {R : Room} {s : State} {m : MethodId} {args : Array Value} {below : List Frame} {meth : Method} {c : Code} {G : cG} {nL : Nat} {Q : α → cH → State → Prop} {cells slots pc : Nat} {lv lv' : List (Nat × Value)} {st : List Value} {P : MM α} {cc : ByteArray} {own : String}
def c_Cn (own : String) (index ci n : Nat) (fs : List Value) : Prop := ∃ (C : String) (T : u_T) (ty : Nat → FieldType), vwCl[ci]? = some (C, T, n) ∧ (∀ k, k < n → parseFieldDescriptor (T k).2.2.1 = some (ty k)) ∧ (∀ w ∈ u_ws C T n, w ∈ c_gw) ∧ Cond.classLink own index C ∈ c_gw ∧ Cond.instantiable C n ∈ c_gw ∧ Cond.initialized C ∈ c_gw ∧ (∀ j, j < n → defaultValue (ty j) = vp_V fs j) ∧ (∀ G : cG, fs.map (c_v G) = fs)
theorem sm_new (h : c_Ok p s m c cc nL own G) {index ci n : Nat} {fs : List Value} {K : Nat → MM α} (hn : c_Cn own index ci n fs) (hcells : cells + 1 ≤ R.cells) (hslots : slots + n ≤ R.slots) (hd : decode cc pc = .ok (.new index, 3)) (kk : ∀ a : Nat, Sm p l e R s m args below meth c G nL Q (cells + 1) (slots + n) (pc + 3) lv (.ref a :: st) (K a)) : Sm p l e R s m args below meth c G nL Q cells slots pc lv st (m_new ci fs K) := by
  intro σ r σ' hP H locs ls hH hL hl
  obtain ⟨C, T, ty, hc, hty, hin, w1, w2, w3, hfs, hcl⟩ := hn
  have hts : ∀ w ∈ c_gw, w.before args s = true := fun w hw => h.2.2.2.2.1 w hw args
  have hKn := h.2.2.2.2.2.1.1 ci _ hc
  refine W.newcK h.1 h.2.1 h.2.2.2.1 (hts _ w1) (hts _ w2) (hts _ w3) rfl hd hcells hslots hKn.2.1 hH.new fun H1 kC hkC e1 z1 o1 => ?_
  refine kk σ.1 _ r σ' hP H1 locs ls (hH.push (by rw [z1, hH.new]) (fun q hq => o1 q (by rw [← hH.new]; exact hq)) ⟨_, hc, ?_⟩) hL hl
  rw [hcl]
  exact (u_born ty hts hin hKn hkC e1 hty).to hfs
theorem sm_na (h : c_Ok p s m c cc nL own G) {t n : Nat} {N : Int32} {atype : ArrayType} {K : Nat → MM α} (ht : newarray.typeOf atype = c_ty t) (hdv : defaultValue (newarray.typeOf atype) = .int 0) (hw : Cond.arrayClass (newarray.typeOf atype) ∈ c_gw) (hN0 : ¬ N < 0) (hN : N.toNatClampNeg = n) (hb : n * componentBytes (newarray.typeOf atype) ≤ 536870912) (hcells : cells + 1 ≤ R.cells) (hslots : slots + n ≤ R.slots) (hd : decode cc pc = .ok (.newarray atype, 2)) (kk : ∀ a : Nat, Sm p l e R s m args below meth c G nL Q (cells + 1) (slots + n) (pc + 2) lv (.ref a :: st) (K a)) : Sm p l e R s m args below meth c G nL Q cells slots pc lv (.int N :: st) (m_na t n K) := by
  intro σ r σ' hP H locs ls hH hL hl
  refine W.newaK h.1 h.2.1 (h.2.2.2.2.1 _ hw _) rfl hd rfl hN0 hN hb hcells hslots hH.new fun H1 cA e1 z1 o1 hA => ?_
  refine kk σ.1 _ r σ' hP H1 locs ls (hH.push (by rw [z1, hH.new]) (fun q hq => o1 q (by rw [← hH.new]; exact hq)) ⟨cA, ?_, ht ▸ hA⟩) hL hl
  rw [e1, hdv]
theorem sm_nr (h : c_Ok p s m c cc nL own G) {t n index : Nat} {N : Int32} {C : String} {K : Nat → MM α} (ht : c_ty t = .object C) (hover : va_AO C s) (hw : Cond.classLink own index C ∈ c_gw) (hN0 : ¬ N < 0) (hN : N.toNatClampNeg = n) (hb : n * 4 ≤ 536870912) (hcells : cells + 1 ≤ R.cells) (hslots : slots + n ≤ R.slots) (hd : decode cc pc = .ok (.anewarray index, 3)) (kk : ∀ a : Nat, Sm p l e R s m args below meth c G nL Q (cells + 1) (slots + n) (pc + 3) lv (.ref a :: st) (K a)) : Sm p l e R s m args below meth c G nL Q cells slots pc lv (.int N :: st) (m_nr t n K) := by
  intro σ r σ' hP H locs ls hH hL hl
  subst hN
  refine W.anew h.1 h.2.1 h.2.2.2.1 (h.2.2.2.2.1 _ hw _) (va_AO.use hover) rfl hd rfl hN0 hb hcells hslots fun cA kA comp h1 h2 h3 h4 => ?_
  rw [show (Value.ref H.size) = c_v G (.ref σ.1) by show _ = Value.ref _; rw [hH.new]]
  refine kk σ.1 _ r σ' hP _ locs ls (hH.push (by simp) (fun q hq => by rw [Array.getElem?_push, if_neg (Nat.ne_of_lt hq)]) ⟨cA, ?_, ?_, ?_⟩) hL hl
  · rw [← hH.new, arrV_new, Array.getElem?_push, if_pos rfl]
    rfl
  · rw [ht]
    exact fun n z => ⟨fun k h => (by cases h), kA, h2, comp, h3⟩
  · rw [ht]
    exact ⟨kA, comp, h2, h3, h4, h1⟩
theorem sm_sr (h : c_Ok p s m c cc nL own G) {t a : Nat} {i : Int32} {v ci : Nat} {C : String} {T : u_T} {n : Nat} (ht : c_ty t = .object C) (h9 : t < 99) (hc : vwCl[ci]? = some (C, T, n)) (hd : decode cc pc = .ok (.aastore, 1)) (kk : Sm p l e R s m args below meth c G nL Q cells slots (pc + 1) lv st P) : Sm p l e R s m args below meth c G nL Q cells slots pc lv (.ref v :: .int i :: .ref a :: st) (m_sr t a i v ci P) := by
  intro σ r σ' hP H locs ls hH hL hl
  obtain ⟨N, f, fs, h1, hv, h2, h3⟩ := m_sr_inv hP
  have ha : 3 ≤ a := by
    refine Nat.not_lt.mp fun z => ?_
    have := hH.2.2.2.1 a z
    rw [h1] at this
    exact this
  have hlt : i.toNatClampNeg < N := Nat.not_le.mp fun q => h2 (Or.inr q)
  have h0 : ¬ i < 0 := fun q => h2 (Or.inl q)
  obtain ⟨hlt9, cA, g1, g2, g3⟩ := hH.arr h1 h9 ha
  obtain ⟨-, -, r', hr', cellV, k1, k2, k3, -⟩ := hH.obj hv
  cases hc.symm.trans hr'
  have hcls := (h.2.2.2.2.2.1.1 ci _ hc).2
  have g4 := g3
  rw [ht] at g3
  obtain ⟨kA, comp, j1, j2, j3, -⟩ := g3
  have hcomp : comp = G.2.2.1 ci := Option.some.inj (j3.symm.trans hcls.1)
  subst hcomp
  obtain ⟨kC, hkC, -⟩ := hcls.2
  refine W.aast h.1 h.2.1 g1 (fun q h => by cases h) (fun h => by cases h) j1 j2 rfl hkC ⟨h0, by rw [arrV_size]; exact hlt⟩ k1 (fun q h => by rw [k3] at h; cases h) (by rw [k2]; exact hkC) (by rw [k2]; exact va_assign hcls) rfl rfl hd fun H1 e z oq => ?_
  refine kk _ r σ' h3 H1 _ ls (hH.set ha hlt9 z oq ⟨cA, ?_, g2, g4⟩) (c_L1 hL ha) hl
  rw [e, arrV_store]
  congr 2
  funext q
  by_cases hq : q = i.toNatClampNeg <;> simp [updV, va_up, va_rf, hq]
theorem sm_cp (h : c_Ok p s m c cc nL own G) {index a0 a1 : Nat} {n : Int32} (w1 : Cond.methodLink own index arraycopyName ∈ c_gw) (w2 : Cond.native arraycopyName ∈ c_gw) (w3 : Cond.static arraycopyName ∈ c_gw) (w4 : Cond.initialized "java/lang/System" ∈ c_gw) (hframes : 1 ≤ R.frames) (hlocals : (st.map fun v => v.category).sum + (nativeFrameWords "java/lang/System" "arraycopy" 5 + 11) ≤ R.locals) (hd : decode cc pc = .ok (.invokestatic index, 3)) (kk : Sm p l e R s m args below meth c G nL Q cells slots (pc + 3) lv st P) : Sm p l e R s m args below meth c G nL Q cells slots pc lv (.int n :: .int 0 :: .ref a1 :: .int 0 :: .ref a0 :: st) (m_cp a0 a1 n P) := by
  intro σ r σ' hP H locs ls hH hL hl T hT X
  obtain ⟨N0, N1, f, g, h1, h2, h3, h4, h5, h6, h7, h8⟩ := m_cp_inv hP
  have nn : ∀ z : Int32, ¬ z < 0 → z.toInt = (z.toNatClampNeg : Int) := by
    intro z hz
    have hz0 : (0 : Int) ≤ z.toInt := by
      have := Int32.not_lt.mp hz
      simpa using Int32.le_iff_toInt_le.mp this
    show z.toInt = ((z.toInt.toNat : Nat) : Int)
    omega
  obtain ⟨-, c0, hc0, hA0⟩ := hH.arr h1 (by decide) h3
  obtain ⟨hlt1, c1, hc1, hA1⟩ := hH.arr h2 (by decide) h4
  obtain ⟨-, k0, hk0, cm0, hkk0⟩ := hA0 N0 (fun j => .int (f j))
  obtain ⟨-, k1, hk1, cm1, hkk1⟩ := hA1 N1 (fun j => .int (g j))
  have hs : ((st.map (c_v G)).map fun v => v.category).sum = (st.map fun v => v.category).sum := by
    rw [List.map_map]
    congr 2
    funext v
    exact c_cat G v
  obtain ⟨vm', X', step⟩ := X.arraycopy h.1 h.2.2.2.1 (h.2.2.2.2.1 _ w1 _) (h.2.2.2.2.1 _ w2 _) (h.2.2.2.2.1 _ w3 _) (h.2.2.2.2.1 _ w4 _) (src := c_ad G a0) (dst := c_ad G a1) (cs := arrV c0 N0 (fun j => .int (f j))) (cd := arrV c1 N1 (fun j => .int (g j))) (srcPos := 0) (destPos := 0) (n := n) (by rw [hT]; exact hc0) (by rw [hT]; exact hc1)
    (fun _ h => by cases h) (fun _ h => by cases h) (fun h => by cases h) (fun h => by cases h) hk0 hk1 hkk0 hkk1 (by simp [c_ty, refKind]) (by decide) (by decide) h5
    (by rw [nn n h5, arrV_size]; show ¬ (0 : Int) + _ > _; omega)
    (by rw [nn n h5, arrV_size]; show ¬ (0 : Int) + _ > _; omega)
    (fun vm₁ _ i hi => by
      have e : (arrV c0 N0 (fun j => .int (f j))).slots.getD ((0 : Int32).toNatClampNeg + i) .null = .int (f ((0 : Int32).toNatClampNeg + i)) := by
        rw [Array.getD_eq_getD_getElem?, arrV_read _ _ (by show 0 + i < N0; omega)]
        rfl
      refine ⟨?_, ?_⟩
      · rw [e]
        rfl
      · rw [e]
        exact trivial)
    (g := F0 m pc ls (.int n :: .int 0 :: .ref (c_ad G a1) :: .int 0 :: .ref (c_ad G a0) :: st.map (c_v G))) rfl (by rw [h.2.2.1]; exact hl.1) (rest := st.map (c_v G)) rfl (by rw [h.2.1]; exact hd) hframes (by show 2 * 0 + _ + _ ≤ _; rw [hs]; omega)
  have e1 : copied (arrV c0 N0 (fun j => .int (f j))) (arrV c1 N1 (fun j => .int (g j))) 0 0 n = arrV c1 N1 (fun j => .int (va_cpy f g 0 0 n.toNatClampNeg j)) := va_copied (fun z => .int z) c0 c1 (sp := 0) (dp := 0) f g (by omega)
  rw [e1] at X' step
  have hlH : c_ad G a1 < H.size := (Array.getElem?_eq_some_iff.mp hc1).1
  have hheap : ((T.setVm vm').setCell (c_ad G a1) (arrV c1 N1 (fun j => .int (va_cpy f g 0 0 n.toNatClampNeg j)))).heap = H.setIfInBounds (c_ad G a1) (arrV c1 N1 (fun j => .int (va_cpy f g 0 0 n.toNatClampNeg j))) := by rw [← hT]; rfl
  obtain ⟨t, a9, b9⟩ := kk _ r σ' h8 _ _ ls (hH.set h4 hlt1 (H1 := H.setIfInBounds (c_ad G a1) (arrV c1 N1 (fun j => .int (va_cpy f g 0 0 n.toNatClampNeg j)))) (by simp) (fun q hq => by simp [Array.getElem?_setIfInBounds, Ne.symm hq]) ⟨c1, by simp [Array.getElem?_setIfInBounds, hlH], hA1⟩) (fun q hq => by
      rcases List.mem_append.mp hq with z | z
      · exact hL q z
      · obtain ⟨z9, -, hz9⟩ := List.mem_map.mp z
        rw [← hz9]
        exact c_ad_A h4) hl _ hheap X'
  exact ⟨t, step t a9, b9⟩
theorem sm_gets (h : c_Ok p s m c cc nL own G) {index : Nat} {n : String} (k : Nat) (hk : (k = 0 ∧ n = "FACTORIAL") ∨ (k = 1 ∧ n = "LIKING_PLACE")) (hw : Cond.fieldLink own index RX4 n "[I" ∈ c_gw) (hd : decode cc pc = .ok (.getstatic index, 3)) (kk : Sm p l e R s m args below meth c G nL Q cells slots (pc + 3) lv (.ref k :: st) P) : Sm p l e R s m args below meth c G nL Q cells slots pc lv st P := by
  intro σ r σ' hP H locs ls hH hL hl
  have key : va_Z RX4 n "[I" (.ref (G.2.1 k)) (c_A G) s H := by
    rcases hk with ⟨rfl, rfl⟩ | ⟨rfl, rfl⟩
    · exact hH.2.2.2.2.2.1
    · exact hH.2.2.2.2.2.2
  obtain ⟨cf, kf, fi, f, a, cell, h1, h2, h3, h4, h5, h6, h7, h8⟩ := key
  have e1 : c_ad G k = G.2.1 k := if_pos (by omega)
  refine W.gets h.1 h.2.1 h.2.2.2.1 (h.2.2.2.2.1 _ hw _) h1 h2 h3 h4 h5 (fun e => by rw [e] at h6; cases h6) h7 rfl hd ?_
  have := kk σ r σ' hP H locs ls hH hL hl
  rw [← e1]
  exact this
theorem sm_objInit (h : c_Ok p s m c cc nL own G) {index a : Nat} (w1 : Cond.methodLink own index Lib.objectInit ∈ c_gw) (w2 : Cond.instanceMethod Lib.objectInit ∈ c_gw) (w3 : Cond.code Lib.objectInit ⟨#[0xb1]⟩ 1 none ∈ c_gw) (hframes : 1 ≤ R.frames) (hlocals : (st.map fun v => v.category).sum + 12 ≤ R.locals) (hd : decode cc pc = .ok (.invokespecial index, 3)) (kk : Sm p l e R s m args below meth c G nL Q cells slots (pc + 3) lv st P) : Sm p l e R s m args below meth c G nL Q cells slots pc lv (.ref a :: st) P := by
  intro σ r σ' hP H locs ls hH hL hl
  have hs : ((st.map (c_v G)).map fun v => v.category).sum = (st.map fun v => v.category).sum := by
    rw [List.map_map]
    congr 2
    funext v
    exact c_cat G v
  exact W.objInit h.1 h.2.1 h.2.2.2.1 (h.2.2.2.2.1 _ w1 _) (h.2.2.2.2.1 _ w2 _) (h.2.2.2.2.1 _ w3 _) rfl (by rw [h.2.2.1]; exact hl.1) rfl hd hframes (by show 2 * 0 + _ + 12 ≤ _; rw [hs]; omega) (kk σ r σ' hP H locs ls hH hL hl)
end SMN
end
section
/-! calls: a method's contract (Ct) says that the machine follows its program; a call binds it -/
def c_Pc (G : cG) (vs : List Value) (σ : cH) : Array Value → State → Prop := va_Pc (vs.map (c_v G)) (fun U => c_Hd G σ U U.heap ∧ c_Cx G U)
def c_Qc {α : Type} (G : cG) (cv : α → Option Value) (r : α) (σ' : cH) : Array Value → State → Outcome → State → Prop := fun _ _ o t => o = .returned (cv r) ∧ c_Hd G σ' t t.heap
def c_vi : Int32 → Option Value := fun x => some (.int x)
def c_vv : Unit → Option Value := fun _ => none
def Ct {α : Type} (l : Launch) (G : cG) (y : MethodName) (cc : ByteArray) (maxL : Nat) (ret : Option FieldType) (fr lo mc ms : Nat) (vs : List Value) (cv : α → Option Value) (P : MM α) : Prop :=
  ∀ (σ : cH) (r : α) (σ' : cH), P σ = some (r, σ') → Met l y [.code y cc maxL ret] { frames := fr, cells := mc, slots := ms, locals := lo } (c_Pc G vs σ) (c_Qc G cv r σ') mc ms (c_A G)
theorem c_blind {G : cG} {vs : List Value} {σ : cH} : FrameBlind (c_Pc G vs σ) := fun a U g mk q =>
  ⟨q.1, c_Hd.moved (u := U) (U := U.calling g mk a) (Vm.Alike.refl U.vm) q.2.1, c_Cx.moved (s := U) (U := U.calling g mk a) (State.WarmedH.refl U) q.2.2⟩
/-- the words of a call -/
def c_Cw (own : String) (index : Nat) (y : MethodName) (bytes : ByteArray) (maxL : Nat) (ret : Option FieldType) (n : Nat) : Prop :=
  Cond.methodLink own index y ∈ c_gw ∧ Cond.code y bytes maxL ret ∈ c_gw ∧ Cond.initialized y.cls ∈ c_gw ∧ (y.cls ≠ "java/lang/invoke/MethodHandle" ∧ y.cls ≠ "java/lang/invoke/VarHandle") ∧ (parseMethodDescriptor y.desc).map (fun d => d.parameters.length) = some n
def c_Cv (ci : Nat) (y : MethodName) : Prop := Cond.instanceMethod y ∈ c_gw ∧ Cond.selects y.cls y y ∈ c_gw ∧ ∃ (T : u_T) (N : Nat), vwCl[ci]? = some (y.cls, T, N)
section SMC
variable {α β : Type} {p : Program} {l : Launch} {e : Env} {R : Room} {s : State} {m : MethodId} {args : Array Value} {below : List Frame} {meth : Method} {c : Code} {G : cG} {nL : Nat} {Q : α → cH → State → Prop} {cells slots pc : Nat} {lv lv' : List (Nat × Value)} {st : List Value} {P : MM α} {cc : ByteArray} {own : String}
theorem c_callB (h : c_Ok p s m c cc nL own G) {index maxL n fr lo mc ms : Nat} {y : MethodName} {bytes : ByteArray} {ret : Option FieldType} (hw : c_Cw own index y bytes maxL ret n) (hR : fr + 1 ≤ R.frames ∧ 8 + (maxL + 11) + lo ≤ R.locals) : CallB R s args own index y bytes maxL ret [.code y bytes maxL ret] { frames := fr, cells := mc, slots := ms, locals := lo } mc ms n := by
  obtain ⟨w1, w2, w3, hy, hn⟩ := hw
  refine ⟨rfl, rfl, hR.1, hR.2, fun w hw a' U hW => ?_, List.mem_singleton.mpr rfl, h.2.2.2.2.1 _ w2 _, h.2.2.2.2.1 _ w3 _, hy, fun sig hs => ?_, h.2.2.2.2.1 _ w1 _⟩
  · rw [List.mem_singleton.mp hw]
    exact word_at hW (c_good w2) (h.2.2.2.2.1 _ w2 args)
  · rw [hs] at hn
    exact (Option.some.inj hn).symm
/-- behind a call: what came back, and the walk goes on -/
theorem c_back {γ : Type} {H : Heap} {locs : List Loc} {mc ms : Nat} {ls : Array Slot} {st0 rest : List Value} {cv : γ → Option Value} {x : γ} {σ1 : cH} {a : Array Value} {Z : State → Prop} (hr : va_Run p l e R s m args below meth c H locs cells slots mc ms (F0 m pc ls st0) rest (c_Qc G cv x σ1 a) (c_A G)) (hL : ∀ q ∈ locs, c_A G q.base)
    (kk : ∀ (H1 : Heap) (locs1 : List Loc), c_Hd G σ1 s H1 → (∀ q ∈ locs1, c_A G q.base) → W p l e R s m args below meth c H1 locs1 (cells + mc) (slots + ms) Z (F0 m (pc + 3) ls ((cv x).toList ++ rest))) : W p l e R s m args below meth c H locs cells slots Z (F0 m pc ls st0) := by
  intro T hT X
  obtain ⟨v, st₀, t, T', L, h0, X', hLL, e1, e2, ⟨hv, hH⟩, step⟩ := hr T hT X
  have ev : v = cv x := Outcome.returned.inj hv
  subst ev
  have hal : t.vm.Alike s.vm := by rw [← e2]; exact X'.warmed.alike.symm
  obtain ⟨t2, a1, b1⟩ := kk T'.heap (locs ++ L) (by rw [e1]; exact hH.moved hal) (fun q hq => by
    rcases List.mem_append.mp hq with z | z
    · exact hL q z
    · exact hLL q z) T' rfl X'
  exact ⟨t2, step t2 a1, b1⟩
theorem c_sum (st : List Value) : ((st.map (c_v G)).map fun v => v.category).sum = (st.map fun v => v.category).sum := by
  rw [List.map_map]
  congr 2
  funext v
  exact c_cat G v
theorem c_vs (vs st : List Value) : (vs.reverse ++ st).map (c_v G) = (vs.map (c_v G)).reverse ++ st.map (c_v G) := by
  rw [List.map_append, List.map_reverse]
/-- invokevirtual (own, package-visible or private of the same class) -/
theorem sm_cv {γ : Type} (h : c_Ok p s m c cc nL own G) {index a ci maxL n fr lo mc ms : Nat} {y : MethodName} {bytes : ByteArray} {ret : Option FieldType} {As st0 : List Value} {cv : γ → Option Value} {F : MM γ} {K : γ → MM α} (hM : Ct l G y bytes maxL ret fr lo mc ms (.ref a :: As) cv F) (hw : c_Cw own index y bytes maxL ret n) (hv : c_Cv ci y) (hst : st0 = As.reverse ++ .ref a :: st) (hn : As.length = n) (hR : fr + 1 ≤ R.frames ∧ 8 + (maxL + 11) + lo ≤ R.locals) (hf : cells + mc ≤ R.cells ∧ slots + ms ≤ R.slots) (h8 : (st.map fun v => v.category).sum ≤ 8) (hd : decode cc pc = .ok (.invokevirtual index, 3)) (kk : ∀ x : γ, Sm p l e R s m args below meth c G nL Q (cells + mc) (slots + ms) (pc + 3) lv ((cv x).toList ++ st) (K x)) (hcv : ∀ x, (cv x).toList.map (c_v G) = (cv x).toList) : Sm p l e R s m args below meth c G nL Q cells slots pc lv st0 (m_cv a ci F K) := by
  intro σ r σ' hP H locs ls hH hL hl
  subst hst
  obtain ⟨fs, x, σ1, h1, h2, h3⟩ := m_cv_inv hP
  obtain ⟨-, -, r9, hr9, cell, q1, q2, q3, -⟩ := hH.obj h1
  obtain ⟨w1, w2, T, N, hc⟩ := hv
  cases hc.symm.trans hr9
  have hcl := (h.2.2.2.2.2.1.1 ci _ hc).2.1
  refine c_back (va_runV (As := As.map (c_v G)) (b := c_ad G a) (C := y.cls) (Ts := []) ⟨h.1, h.2.1, h.2.2.1, h.2.2.2.1, fun w hw => absurd hw List.not_mem_nil⟩ (hM σ x σ1 h2) ⟨c_callB h hw hR, h.2.2.2.2.1 _ w1 _, h.2.2.2.2.1 _ w2 _⟩ ⟨c_blind, ⟨cell, q1, by rw [q3]; rfl, by rw [q2]; exact hcl⟩, fun U hU hW => ⟨rfl, by rw [hU]; exact hH.moved hW.alike, h.2.2.2.2.moved hW⟩⟩ rfl (by rw [List.length_map]; exact hn) hl.1 (rest := st.map (c_v G)) ?_ (lv_room (by rw [c_sum]; exact h8)) hd hf) hL (fun H1 locs1 hH1 hL1 => ?_)
  · show (As.reverse ++ .ref a :: st).map (c_v G) = _
    rw [List.map_append, List.map_reverse]
    rfl
  · have := kk x σ1 r σ' h3 H1 locs1 ls hH1 hL1 hl
    rw [List.map_append, hcv] at this
    exact this
/-- invokestatic -/
theorem sm_cs {γ : Type} (h : c_Ok p s m c cc nL own G) {index maxL n fr lo mc ms : Nat} {y : MethodName} {bytes : ByteArray} {ret : Option FieldType} {As st0 : List Value} {cv : γ → Option Value} {F : MM γ} {K : γ → MM α} (hM : Ct l G y bytes maxL ret fr lo mc ms As cv F) (hw : c_Cw own index y bytes maxL ret n) (hv : Cond.static y ∈ c_gw) (hst : st0 = As.reverse ++ st) (hn : As.length = n) (hR : fr + 1 ≤ R.frames ∧ 8 + (maxL + 11) + lo ≤ R.locals) (hf : cells + mc ≤ R.cells ∧ slots + ms ≤ R.slots) (h8 : (st.map fun v => v.category).sum ≤ 8) (hd : decode cc pc = .ok (.invokestatic index, 3)) (kk : ∀ x : γ, Sm p l e R s m args below meth c G nL Q (cells + mc) (slots + ms) (pc + 3) lv ((cv x).toList ++ st) (K x)) (hcv : ∀ x, (cv x).toList.map (c_v G) = (cv x).toList) : Sm p l e R s m args below meth c G nL Q cells slots pc lv st0 (m_bind F K) := by
  intro σ r σ' hP H locs ls hH hL hl
  subst hst
  obtain ⟨x, σ1, h2, h3⟩ := m_bind_inv hP
  refine c_back (va_runS (As := As.map (c_v G)) (Ts := []) ⟨h.1, h.2.1, h.2.2.1, h.2.2.2.1, fun w hw => absurd hw List.not_mem_nil⟩ (hM σ x σ1 h2) ⟨c_callB h hw hR, h.2.2.2.2.1 _ hv _⟩ ⟨c_blind, fun U hU hW => ⟨rfl, by rw [hU]; exact hH.moved hW.alike, h.2.2.2.2.moved hW⟩⟩ rfl (by rw [List.length_map]; exact hn) hl.1 (rest := st.map (c_v G)) ?_ (lv_room (by rw [c_sum]; exact h8)) hd hf) hL (fun H1 locs1 hH1 hL1 => ?_)
  · show (As.reverse ++ st).map (c_v G) = _
    rw [List.map_append, List.map_reverse]
  · have := kk x σ1 r σ' h3 H1 locs1 ls hH1 hL1 hl
    rw [List.map_append, hcv] at this
    exact this
/-- a constructor's call -/
theorem sm_ci (h : c_Ok p s m c cc nL own G) {index a maxL n fr lo mc ms : Nat} {y : MethodName} {bytes : ByteArray} {As st0 : List Value} {F : MM Unit} {K : Unit → MM α} (hM : Ct l G y bytes maxL none fr lo mc ms (.ref a :: As) c_vv F) (hw : c_Cw own index y bytes maxL none n) (hv : Cond.instanceMethod y ∈ c_gw) (hi : y.name = "<init>") (hst : st0 = As.reverse ++ .ref a :: st) (hn : As.length = n) (hR : fr + 1 ≤ R.frames ∧ 8 + (maxL + 11) + lo ≤ R.locals) (hf : cells + mc ≤ R.cells ∧ slots + ms ≤ R.slots) (h8 : (st.map fun v => v.category).sum ≤ 8) (hd : decode cc pc = .ok (.invokespecial index, 3)) (kk : Sm p l e R s m args below meth c G nL Q (cells + mc) (slots + ms) (pc + 3) lv st (K ())) : Sm p l e R s m args below meth c G nL Q cells slots pc lv st0 (m_bind F K) := by
  intro σ r σ' hP H locs ls hH hL hl
  subst hst
  obtain ⟨x, σ1, h2, h3⟩ := m_bind_inv hP
  refine c_back (va_runI (As := As.map (c_v G)) (b := c_ad G a) (Ts := []) ⟨h.1, h.2.1, h.2.2.1, h.2.2.2.1, fun w hw => absurd hw List.not_mem_nil⟩ (hM σ x σ1 h2) ⟨c_callB h hw hR, hi, h.2.2.2.2.1 _ hv _⟩ ⟨c_blind, fun U hU hW => ⟨rfl, by rw [hU]; exact hH.moved hW.alike, h.2.2.2.2.moved hW⟩⟩ rfl (by rw [List.length_map]; exact hn) hl.1 (rest := st.map (c_v G)) ?_ (lv_room (by rw [c_sum]; exact h8)) hd hf) hL (fun H1 locs1 hH1 hL1 => ?_)
  · show (As.reverse ++ .ref a :: st).map (c_v G) = _
    rw [List.map_append, List.map_reverse]
    rfl
  · exact kk σ1 r σ' h3 H1 locs1 ls hH1 hL1 hl
/-- a constructor's call, private of a nest mate -/
theorem sm_cn (h : c_Ok p s m c cc nL own G) {index a maxL fr lo mc ms : Nat} {y : MethodName} {bytes : ByteArray} {st0 : List Value} {F : MM Unit} {K : Unit → MM α} (hM : Ct l G y bytes maxL none fr lo mc ms [.ref a] c_vv F) (hnw : (own, index, y) ∈ c_nw) (w2 : Cond.code y bytes maxL none ∈ c_gw) (w3 : Cond.initialized y.cls ∈ c_gw) (hy : y.cls ≠ "java/lang/invoke/MethodHandle" ∧ y.cls ≠ "java/lang/invoke/VarHandle") (hpn : (parseMethodDescriptor y.desc).map (fun d => d.parameters.length) = some 0) (hv : Cond.instanceMethod y ∈ c_gw) (hi : y.name = "<init>") (hst : st0 = .ref a :: st) (hR : fr + 1 ≤ R.frames ∧ 8 + (maxL + 11) + lo ≤ R.locals) (hf : cells + mc ≤ R.cells ∧ slots + ms ≤ R.slots) (h8 : (st.map fun v => v.category).sum ≤ 8) (hd : decode cc pc = .ok (.invokespecial index, 3)) (kk : Sm p l e R s m args below meth c G nL Q (cells + mc) (slots + ms) (pc + 3) lv st (K ())) : Sm p l e R s m args below meth c G nL Q cells slots pc lv st0 (m_bind F K) := by
  intro σ r σ' hP H locs ls hH hL hl
  subst hst
  obtain ⟨x, σ1, h2, h3⟩ := m_bind_inv hP
  refine c_back (va_runIN (As := []) (b := c_ad G a) (Ts := []) (host := RX9) ⟨h.1, h.2.1, h.2.2.1, h.2.2.2.1, fun w hw => absurd hw List.not_mem_nil⟩ (hM σ x σ1 h2) ⟨⟨⟨rfl, rfl, hR.1, hR.2, fun w hw a' U hW => ?_, List.mem_singleton.mpr rfl⟩, h.2.2.2.2.1 _ w2 _, h.2.2.2.2.1 _ w3 _, hy, fun sig hs => ?_, va_Nw.use rfl (h.2.2.2.2.2.2.1 _ hnw)⟩, hi, h.2.2.2.2.1 _ hv _⟩ ⟨c_blind, fun U hU hW => ⟨rfl, by rw [hU]; exact hH.moved hW.alike, h.2.2.2.2.moved hW⟩⟩ rfl (n := 0) rfl hl.1 (rest := st.map (c_v G)) rfl (lv_room (by rw [c_sum]; exact h8)) hd hf) hL (fun H1 locs1 hH1 hL1 => ?_)
  · rw [List.mem_singleton.mp hw]
    exact word_at hW (c_good w2) (h.2.2.2.2.1 _ w2 args)
  · rw [hs] at hpn
    exact (Option.some.inj hpn).symm
  · exact kk σ1 r σ' h3 H1 locs1 ls hH1 hL1 hl
end SMC
/-! returns -/
section SMR
variable {p : Program} {l : Launch} {e : Env} {R : Room} {s : State} {m : MethodId} {args : Array Value} {below : List Frame} {meth : Method} {c : Code} {G : cG} {nL : Nat} {cells slots pc mc ms : Nat} {lv : List (Nat × Value)} {cc : ByteArray} {own : String}
def c_Q {α : Type} (G : cG) (cv : α → Option Value) (below : List Frame) (args : Array Value) (s : State) (mc ms : Nat) : α → cH → State → Prop := fun r σ' => MQ below (c_Qc G cv r σ') args s mc ms (c_A G)
theorem sm_iret (h : c_Ok p s m c cc nL own G) {x : Int32} (hr : meth.sig.returnType = some .int) (hlocks : meth.locks = false) (h1 : cells ≤ mc) (h2 : slots ≤ ms) (hd : decode cc pc = .ok (.ireturn, 1)) : Sm p l e R s m args below meth c G nL (c_Q G c_vi below args s mc ms) cells slots pc lv [.int x] (m_ret x) := by
  intro σ r σ' hP H locs ls hH hL hl
  cases hP
  refine W.widen h1 h2 ?_
  exact W.iret h.1 h.2.1 hr (fun t ht hW => ⟨rfl, by rw [ht]; exact hH.moved hW.alike⟩) hL hd
theorem sm_zret (h : c_Ok p s m c cc nL own G) {x : Int32} (hr : meth.sig.returnType = some .boolean) (hlocks : meth.locks = false) (hx : x &&& 1 = x) (h1 : cells ≤ mc) (h2 : slots ≤ ms) (hd : decode cc pc = .ok (.ireturn, 1)) : Sm p l e R s m args below meth c G nL (c_Q G c_vi below args s mc ms) cells slots pc lv [.int x] (m_ret x) := by
  intro σ r σ' hP H locs ls hH hL hl
  cases hP
  refine W.widen h1 h2 ?_
  exact W.zret h.1 h.2.1 hr (by show Value.int (x &&& 1) = _; rw [hx]) (fun t ht hW => ⟨rfl, by rw [ht]; exact hH.moved hW.alike⟩) hL hd
theorem sm_rz (h : c_Ok p s m c cc nL own G) {x : Int32} (hr : meth.sig.returnType = some .boolean) (hlocks : meth.locks = false) (h1 : cells ≤ mc) (h2 : slots ≤ ms) (hd : decode cc pc = .ok (.ireturn, 1)) : Sm p l e R s m args below meth c G nL (c_Q G c_vi below args s mc ms) cells slots pc lv [.int x] (m_rz x) := by
  intro σ r σ' hP
  unfold m_rz at hP
  by_cases hx : x &&& 1 = x
  · rw [if_pos hx] at hP
    exact sm_zret h hr hlocks hx h1 h2 hd σ r σ' hP
  · rw [if_neg hx] at hP
    cases hP
theorem sm_vret (h : c_Ok p s m c cc nL own G) (hr : meth.sig.returnType = none) (hlocks : meth.locks = false) (h1 : cells ≤ mc) (h2 : slots ≤ ms) (hd : decode cc pc = .ok (.return_, 1)) : Sm p l e R s m args below meth c G nL (c_Q G c_vv below args s mc ms) cells slots pc lv [] (m_ret ()) := by
  intro σ r σ' hP H locs ls hH hL hl
  cases hP
  refine W.widen h1 h2 ?_
  exact W.vret h.1 h.2.1 hr (fun t ht hW => ⟨rfl, by rw [ht]; exact hH.moved hW.alike⟩) hL hd
theorem sm_bad {α : Type} {Q : α → cH → State → Prop} {st : List Value} : Sm p l e R s m args below meth c G nL Q cells slots pc lv st m_bad := by
  intro σ r σ' hP
  cases hP
end SMR
/-- a method's contract out of its walk -/
theorem Ct.of {α : Type} {l : Launch} {G : cG} {y : MethodName} {cc : ByteArray} {maxL : Nat} {ret : Option FieldType} {fr lo mc ms : Nat} {vs : List Value} {cv : α → Option Value} {P : MM α} {lv : List (Nat × Value)} (hy : plainName y.cls = true) (hlen : (lg_sl (vs.map (c_v G))).length ≤ maxL) (hlv : lv_args 0 (vs.map (c_v G)) = c_lv G lv)
    (body : ∀ (p : Program) (e : Env) (s : State) (m : MethodId) (args : Array Value) (below : List Frame) (meth : Method) (c : Code), c_Ok p s m c cc maxL y.cls G → meth.sig.returnType = ret → meth.locks = false → meth.name = y.name → Sm p l e { frames := fr, cells := mc, slots := ms, locals := lo } s m args below meth c G maxL (c_Q G cv below args s mc ms) 0 0 0 lv [] P) : Ct l G y cc maxL ret fr lo mc ms vs cv P := by
  intro σ r σ' hP
  refine Met.ofW (cc := cc) (maxL := maxL) (ret := ret) hy rfl ?_
  intro p e s m args below meth c s₁ B hml hv
  obtain ⟨rfl, hH, hC⟩ := hv
  have hl := lv_entry (vs.map (c_v G)) (n := maxL) hlen
  rw [lg_entry_eq]
  generalize (lg_sl (vs.map (c_v G)) ++ List.replicate (maxL - (lg_sl (vs.map (c_v G))).length) Slot.unset).toArray = ls at hl ⊢
  exact body p e s m _ below meth c ⟨B.exec, B.bytes, hml, findClass_of_methodNamed B.named, hC⟩ B.returns B.notSynchronized (name_of_methodNamed B.named B.method).1 σ r σ' hP s.heap [] ls hH (fun q hq => absurd hq List.not_mem_nil) (hlv ▸ hl)
end
section
/-! new int[n][k] -/
theorem c_outer (c : ClassId) (N h0 : Nat) : ∀ i : Nat, Jvm.Free.Multi.outerC c N h0 i = arrV c N (fun j => va_rf (if j < i then some (h0 + 1 + j) else none))
  | 0 => by
    show ({ cls := c, slots := Array.replicate N .null, vm := .none } : Cell) = _
    rw [arrV_new]
    refine congrArg (arrV c N) (funext fun j => ?_)
    simp [va_rf]
  | i + 1 => by
    show (Jvm.Free.Multi.outerC c N h0 i).setSlot i (.ref (h0 + 1 + i)) = _
    rw [c_outer c N h0 i, arrV_store]
    refine congrArg (arrV c N) (funext fun j => ?_)
    by_cases e : j = i
    · subst e
      simp [updV, va_rf]
    · by_cases h : j < i
      · simp [updV, e, h, Nat.lt_succ_of_lt h]
      · simp [updV, e, h, show ¬ j < i + 1 by omega]
section SMG
variable {α : Type} {p : Program} {l : Launch} {e : Env} {R : Room} {s : State} {m : MethodId} {args : Array Value} {below : List Frame} {meth : Method} {c : Code} {G : cG} {nL : Nat} {Q : α → cH → State → Prop} {cells slots pc : Nat} {lv lv' : List (Nat × Value)} {st : List Value} {P : MM α} {cc : ByteArray} {own : String}
theorem sm_nm (h : c_Ok p s m c cc nL own G) {index n k : Nat} {N M : Int32} {K : Nat → MM α} (w1 : Cond.classLink own index ("[" ++ (FieldType.array .int).toString) ∈ c_gw) (w2 : Cond.arrayClass .int ∈ c_gw) (hN0 : ¬ N < 0) (hM0 : ¬ M < 0) (hN : N.toNatClampNeg = n) (hM : M.toNatClampNeg = k) (hb1 : n * 4 ≤ 536870912) (hb2 : k * 4 ≤ 536870912) (hcells : cells + (1 + n) ≤ R.cells) (hslots : slots + (n + n * k) ≤ R.slots) (hd : decode cc pc = .ok (.multianewarray index 2, 4)) (kk : ∀ a : Nat, Sm p l e R s m args below meth c G nL Q (cells + 1 + n) (slots + n + n * k) (pc + 4) lv (.ref a :: st) (K a)) : Sm p l e R s m args below meth c G nL Q cells slots pc lv (.int M :: .int N :: st) (m_nm n k K) := by
  intro σ r σ' hP H locs ls hH hL hl T hT X
  subst hN
  subst hM
  obtain ⟨vm₁, cA, comp, -, fA, fC, hO, hI, X', step⟩ := X.multianewarray2F h.1 h.2.2.2.1 (h.2.2.2.2.1 _ w1 _) (over_moved (Vm.Alike.refl s.vm) h.2.2.2.2.2.2.2.2.2) (h.2.2.2.2.1 _ w2 _) (g := F0 m pc ls (.int M :: .int N :: st.map (c_v G))) rfl (by rw [h.2.1]; exact hd) rfl hN0 hM0 hb1 hb2 (by omega) rfl rfl hcells hslots
  generalize hF : Jvm.Free.Multi.fill (T.setVm vm₁) cA comp N.toNatClampNeg M.toNatClampNeg (defaultValue .int) N.toNatClampNeg = F at X' step
  have hTh : (T.setVm vm₁).heap = H := hT
  obtain ⟨f1, f2, -, -⟩ := Jvm.Free.Multi.fill_facts (T.setVm vm₁) cA comp N.toNatClampNeg M.toNatClampNeg (defaultValue .int) N.toNatClampNeg
  rw [hF, hTh] at f1 f2
  have hold : ∀ x : Nat, x < H.size → F.heap[x]? = H[x]? := fun x hx => by
    have := Jvm.Free.Multi.fill_old (T.setVm vm₁) cA comp N.toNatClampNeg M.toNatClampNeg (defaultValue .int) (a := x) (by rw [hTh]; exact hx) N.toNatClampNeg
    rw [hF, hTh] at this
    exact this
  have hrow : ∀ j : Nat, j < N.toNatClampNeg → F.heap[H.size + 1 + j]? = some (arrV comp M.toNatClampNeg (fun _ => .int 0)) := fun j hj => by
    have := Jvm.Free.Multi.fill_inner (T.setVm vm₁) cA comp N.toNatClampNeg M.toNatClampNeg (defaultValue .int) N.toNatClampNeg j hj
    rw [hF, hTh] at this
    rw [this]
    show some ({ cls := comp, slots := Array.replicate M.toNatClampNeg (.int 0), vm := .none } : Cell) = _
    rw [arrV_new]
  rw [c_outer] at f2
  have hAo : ArrOfT s cA (.array .int) := fun N9 z9 => by
    obtain ⟨-, k9, hk9, cm9, hkk9⟩ := (hO 0 0 0).1
    exact ⟨(fun q hq => by cases hq), k9, hk9, cm9, hkk9⟩
  have hAi : ArrOfT s comp .int := fun N9 z9 => by
    obtain ⟨-, k9, hk9, cm9, hkk9⟩ := (hI 0 (.int 0)).1
    exact ⟨(fun q hq => by cases hq), k9, hk9, cm9, hkk9⟩
  have hHn := hH.new
  obtain ⟨h1, h2, h3, h4, h5, h6⟩ := hH
  have old : ∀ q : Nat, q < H.size → ¬ c_A G q → F.heap[q]? = H[q]? := fun q hq _ => hold q hq
  have hH2 : c_Hd G (σ.1 + 1 + N.toNatClampNeg, c_nm σ N.toNatClampNeg M.toNatClampNeg) s F.heap := by
    refine ⟨by show 3 ≤ σ.1 + 1 + _; omega, ?_, fun j hj hl2 => ?_, fun j hj => ?_, fun j hj => ?_, va_Z.kept h6.1 old, va_Z.kept h6.2 old⟩
    · rw [f1, h2]
      show _ = G.1 + (σ.1 + 1 + _ - 3)
      omega
    · show c_at G s F.heap j (c_nm σ N.toNatClampNeg M.toNatClampNeg j)
      have hl3 : j < σ.1 + 1 + N.toNatClampNeg := hl2
      unfold c_nm
      by_cases e1 : j = σ.1
      · rw [if_pos e1, e1]
        refine ⟨cA, ?_, hAo, fA⟩
        rw [← hHn, f2]
        refine congrArg some (congrArg (arrV cA _) (funext fun i => ?_))
        by_cases hi : i < N.toNatClampNeg
        · dsimp only
          rw [if_pos hi, if_pos hi]
          show Value.ref _ = Value.ref _
          rw [c_ad_ge (by omega), h2]
          refine congrArg Value.ref ?_
          show (G.1 + (σ.1 - 3) + 1 + i : Nat) = G.1 + (σ.1 + 1 + i - 3)
          omega
        · dsimp only
          rw [if_neg hi, if_neg hi]
          rfl
      · rw [if_neg e1]
        by_cases e2 : σ.1 < j ∧ j ≤ σ.1 + N.toNatClampNeg
        · rw [if_pos e2]
          refine ⟨comp, ?_, hAi⟩
          have := hrow (j - σ.1 - 1) (by omega)
          rw [← this]
          congr 1
          rw [c_ad_ge hj, h2]
          omega
        · rw [if_neg e2]
          exact (h3 j hj (by omega)).kept (hold _ (by rw [c_ad_ge hj, h2]; omega))
    · show c_sp G s F.heap j (c_nm σ N.toNatClampNeg M.toNatClampNeg j)
      unfold c_nm
      rw [if_neg (by omega), if_neg (by omega)]
      exact (h4 j hj).kept old
    · show c_nm σ N.toNatClampNeg M.toNatClampNeg j = cJ
      have hj2 : σ.1 + 1 + N.toNatClampNeg ≤ j := hj
      unfold c_nm
      rw [if_neg (by omega), if_neg (by omega)]
      exact h5 j (by omega)
  have hT2 : T.heap.size = c_ad G σ.1 := by rw [hT]; exact hHn
  obtain ⟨t, a9, b9⟩ := kk σ.1 _ r σ' hP F.heap locs ls hH2 hL hl F rfl X'
  refine ⟨t, step t ?_, b9⟩
  rw [hT2]
  exact a9
end SMG
end
section
theorem i_vc : Claimed_1_1 ∧ Claimed_1_2 := sorry
end
