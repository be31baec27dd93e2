section
-- ===== PART A: goes FIRST, ahead of the names: the tables' words, and 'selects' of the private methods out of them =====
/-- a private method of a class that the tables say can be made, by its rows of tables_1 -/
def lw_okq (q : MethodName × Nat) : Prop := (q.1.cls ≠ "java/lang/invoke/MethodHandle" ∧ q.1.cls ≠ "java/lang/invoke/VarHandle") ∧ Cond.instantiable q.1.cls q.2 ∈ tables_1 ∧ Cond.privateMethod q.1 ∈ tables_1 ∧ Cond.instanceMethod q.1 ∈ tables_1
theorem lw_p0 : lw_okq (⟨"WarpDesk$Reader", "begin", "()V"⟩, 13) := ⟨⟨by decide +kernel, by decide +kernel⟩, List.mem_of_getElem? (i := 62) (by decide +kernel), List.mem_of_getElem? (i := 437) (by decide +kernel), List.mem_of_getElem? (i := 438) (by decide +kernel)⟩
theorem lw_p1 : lw_okq (⟨"WarpDesk$Tape", "behindBlanks", "(I)I"⟩, 7) := ⟨⟨by decide +kernel, by decide +kernel⟩, List.mem_of_getElem? (i := 28) (by decide +kernel), List.mem_of_getElem? (i := 461) (by decide +kernel), List.mem_of_getElem? (i := 462) (by decide +kernel)⟩
theorem lw_p2 : lw_okq (⟨"WarpDesk$Tape", "byteAt", "(I)I"⟩, 7) := ⟨⟨by decide +kernel, by decide +kernel⟩, List.mem_of_getElem? (i := 28) (by decide +kernel), List.mem_of_getElem? (i := 465) (by decide +kernel), List.mem_of_getElem? (i := 466) (by decide +kernel)⟩
theorem lw_p3 : lw_okq (⟨"WarpDesk$Tape", "takeLetters", "()V"⟩, 7) := ⟨⟨by decide +kernel, by decide +kernel⟩, List.mem_of_getElem? (i := 28) (by decide +kernel), List.mem_of_getElem? (i := 472) (by decide +kernel), List.mem_of_getElem? (i := 473) (by decide +kernel)⟩
theorem lw_p4 : lw_okq (⟨"WarpDesk$Tape", "takeDigits", "()V"⟩, 7) := ⟨⟨by decide +kernel, by decide +kernel⟩, List.mem_of_getElem? (i := 28) (by decide +kernel), List.mem_of_getElem? (i := 479) (by decide +kernel), List.mem_of_getElem? (i := 480) (by decide +kernel)⟩
theorem lw_p5 : lw_okq (⟨"WarpDesk$Reader", "mayStand", "()Z"⟩, 13) := ⟨⟨by decide +kernel, by decide +kernel⟩, List.mem_of_getElem? (i := 62) (by decide +kernel), List.mem_of_getElem? (i := 483) (by decide +kernel), List.mem_of_getElem? (i := 484) (by decide +kernel)⟩
theorem lw_p6 : lw_okq (⟨"WarpDesk$Reader", "tellAtHand", "()I"⟩, 13) := ⟨⟨by decide +kernel, by decide +kernel⟩, List.mem_of_getElem? (i := 62) (by decide +kernel), List.mem_of_getElem? (i := 487) (by decide +kernel), List.mem_of_getElem? (i := 488) (by decide +kernel)⟩
theorem lw_p7 : lw_okq (⟨"WarpDesk$Reader", "mayStandInRow", "()Z"⟩, 13) := ⟨⟨by decide +kernel, by decide +kernel⟩, List.mem_of_getElem? (i := 62) (by decide +kernel), List.mem_of_getElem? (i := 553) (by decide +kernel), List.mem_of_getElem? (i := 554) (by decide +kernel)⟩
theorem lw_p8 : lw_okq (⟨"WarpDesk$Reader", "isNameAtHand", "()Z"⟩, 13) := ⟨⟨by decide +kernel, by decide +kernel⟩, List.mem_of_getElem? (i := 62) (by decide +kernel), List.mem_of_getElem? (i := 558) (by decide +kernel), List.mem_of_getElem? (i := 559) (by decide +kernel)⟩
theorem lw_p9 : lw_okq (⟨"WarpDesk$Reader", "levelAtHand", "()I"⟩, 13) := ⟨⟨by decide +kernel, by decide +kernel⟩, List.mem_of_getElem? (i := 62) (by decide +kernel), List.mem_of_getElem? (i := 562) (by decide +kernel), List.mem_of_getElem? (i := 563) (by decide +kernel)⟩
theorem lw_p10 : lw_okq (⟨"WarpDesk$Reader", "costAtHand", "()I"⟩, 13) := ⟨⟨by decide +kernel, by decide +kernel⟩, List.mem_of_getElem? (i := 62) (by decide +kernel), List.mem_of_getElem? (i := 570) (by decide +kernel), List.mem_of_getElem? (i := 571) (by decide +kernel)⟩
theorem lw_p11 : lw_okq (⟨"WarpDesk$Reader", "choiceAtHand", "()I"⟩, 13) := ⟨⟨by decide +kernel, by decide +kernel⟩, List.mem_of_getElem? (i := 62) (by decide +kernel), List.mem_of_getElem? (i := 576) (by decide +kernel), List.mem_of_getElem? (i := 577) (by decide +kernel)⟩
theorem lw_p12 : lw_okq (⟨"WarpDesk$Reader", "stop", "(I)V"⟩, 13) := ⟨⟨by decide +kernel, by decide +kernel⟩, List.mem_of_getElem? (i := 62) (by decide +kernel), List.mem_of_getElem? (i := 580) (by decide +kernel), List.mem_of_getElem? (i := 581) (by decide +kernel)⟩
theorem lw_p13 : lw_okq (⟨"WarpDesk$Reader", "keepFault", "(I)V"⟩, 13) := ⟨⟨by decide +kernel, by decide +kernel⟩, List.mem_of_getElem? (i := 62) (by decide +kernel), List.mem_of_getElem? (i := 584) (by decide +kernel), List.mem_of_getElem? (i := 585) (by decide +kernel)⟩
theorem lw_p14 : lw_okq (⟨"WarpDesk$Reader", "hasRoom", "()Z"⟩, 13) := ⟨⟨by decide +kernel, by decide +kernel⟩, List.mem_of_getElem? (i := 62) (by decide +kernel), List.mem_of_getElem? (i := 588) (by decide +kernel), List.mem_of_getElem? (i := 589) (by decide +kernel)⟩
theorem lw_p15 : lw_okq (⟨"WarpDesk$Reader", "accept", "()V"⟩, 13) := ⟨⟨by decide +kernel, by decide +kernel⟩, List.mem_of_getElem? (i := 62) (by decide +kernel), List.mem_of_getElem? (i := 592) (by decide +kernel), List.mem_of_getElem? (i := 593) (by decide +kernel)⟩
def lw_privs_1 : List (MethodName × Nat) := [(⟨"WarpDesk$Reader", "begin", "()V"⟩, 13), (⟨"WarpDesk$Tape", "behindBlanks", "(I)I"⟩, 7), (⟨"WarpDesk$Tape", "byteAt", "(I)I"⟩, 7), (⟨"WarpDesk$Tape", "takeLetters", "()V"⟩, 7), (⟨"WarpDesk$Tape", "takeDigits", "()V"⟩, 7), (⟨"WarpDesk$Reader", "mayStand", "()Z"⟩, 13), (⟨"WarpDesk$Reader", "tellAtHand", "()I"⟩, 13), (⟨"WarpDesk$Reader", "mayStandInRow", "()Z"⟩, 13), (⟨"WarpDesk$Reader", "isNameAtHand", "()Z"⟩, 13), (⟨"WarpDesk$Reader", "levelAtHand", "()I"⟩, 13), (⟨"WarpDesk$Reader", "costAtHand", "()I"⟩, 13), (⟨"WarpDesk$Reader", "choiceAtHand", "()I"⟩, 13), (⟨"WarpDesk$Reader", "stop", "(I)V"⟩, 13), (⟨"WarpDesk$Reader", "keepFault", "(I)V"⟩, 13), (⟨"WarpDesk$Reader", "hasRoom", "()Z"⟩, 13), (⟨"WarpDesk$Reader", "accept", "()V"⟩, 13)]
theorem lw_r1 : ∀ q ∈ lw_privs_1, lw_okq q := List.forall_mem_cons.mpr ⟨lw_p0, List.forall_mem_cons.mpr ⟨lw_p1, List.forall_mem_cons.mpr ⟨lw_p2, List.forall_mem_cons.mpr ⟨lw_p3, List.forall_mem_cons.mpr ⟨lw_p4, List.forall_mem_cons.mpr ⟨lw_p5, List.forall_mem_cons.mpr ⟨lw_p6, List.forall_mem_cons.mpr ⟨lw_p7, List.forall_mem_cons.mpr ⟨lw_p8, List.forall_mem_cons.mpr ⟨lw_p9, List.forall_mem_cons.mpr ⟨lw_p10, List.forall_mem_cons.mpr ⟨lw_p11, List.forall_mem_cons.mpr ⟨lw_p12, List.forall_mem_cons.mpr ⟨lw_p13, List.forall_mem_cons.mpr ⟨lw_p14, List.forall_mem_cons.mpr ⟨lw_p15, fun _ h => absurd h List.not_mem_nil⟩⟩⟩⟩⟩⟩⟩⟩⟩⟩⟩⟩⟩⟩⟩⟩
theorem lw_p16 : lw_okq (⟨"WarpDesk$Reader", "beginTell", "()V"⟩, 13) := ⟨⟨by decide +kernel, by decide +kernel⟩, List.mem_of_getElem? (i := 62) (by decide +kernel), List.mem_of_getElem? (i := 596) (by decide +kernel), List.mem_of_getElem? (i := 597) (by decide +kernel)⟩
theorem lw_p17 : lw_okq (⟨"WarpDesk$Reader", "acceptName", "()V"⟩, 13) := ⟨⟨by decide +kernel, by decide +kernel⟩, List.mem_of_getElem? (i := 62) (by decide +kernel), List.mem_of_getElem? (i := 600) (by decide +kernel), List.mem_of_getElem? (i := 601) (by decide +kernel)⟩
theorem lw_p18 : lw_okq (⟨"WarpDesk$Reader", "mark", "(I)V"⟩, 13) := ⟨⟨by decide +kernel, by decide +kernel⟩, List.mem_of_getElem? (i := 62) (by decide +kernel), List.mem_of_getElem? (i := 608) (by decide +kernel), List.mem_of_getElem? (i := 609) (by decide +kernel)⟩
theorem lw_p19 : lw_okq (⟨"WarpDesk$Reader", "acceptNumber", "()V"⟩, 13) := ⟨⟨by decide +kernel, by decide +kernel⟩, List.mem_of_getElem? (i := 62) (by decide +kernel), List.mem_of_getElem? (i := 617) (by decide +kernel), List.mem_of_getElem? (i := 618) (by decide +kernel)⟩
theorem lw_p20 : lw_okq (⟨"WarpDesk$Reader", "acceptInRow", "()V"⟩, 13) := ⟨⟨by decide +kernel, by decide +kernel⟩, List.mem_of_getElem? (i := 62) (by decide +kernel), List.mem_of_getElem? (i := 629) (by decide +kernel), List.mem_of_getElem? (i := 630) (by decide +kernel)⟩
theorem lw_p21 : lw_okq (⟨"WarpDesk$Reader", "keepInRow", "(I)V"⟩, 13) := ⟨⟨by decide +kernel, by decide +kernel⟩, List.mem_of_getElem? (i := 62) (by decide +kernel), List.mem_of_getElem? (i := 633) (by decide +kernel), List.mem_of_getElem? (i := 634) (by decide +kernel)⟩
theorem lw_p22 : lw_okq (⟨"WarpDesk", "goOnFrom", "(LWarpDesk$Stand;)V"⟩, 10) := ⟨⟨by decide +kernel, by decide +kernel⟩, List.mem_of_getElem? (i := 20) (by decide +kernel), List.mem_of_getElem? (i := 664) (by decide +kernel), List.mem_of_getElem? (i := 665) (by decide +kernel)⟩
theorem lw_p23 : lw_okq (⟨"WarpDesk", "appendPlace", "(I)I"⟩, 10) := ⟨⟨by decide +kernel, by decide +kernel⟩, List.mem_of_getElem? (i := 20) (by decide +kernel), List.mem_of_getElem? (i := 718) (by decide +kernel), List.mem_of_getElem? (i := 719) (by decide +kernel)⟩
theorem lw_p24 : lw_okq (⟨"WarpDesk$Bench", "begin", "(II)V"⟩, 5) := ⟨⟨by decide +kernel, by decide +kernel⟩, List.mem_of_getElem? (i := 221) (by decide +kernel), List.mem_of_getElem? (i := 833) (by decide +kernel), List.mem_of_getElem? (i := 834) (by decide +kernel)⟩
theorem lw_p25 : lw_okq (⟨"WarpDesk$Fit", "sumOf", "([I)I"⟩, 10) := ⟨⟨by decide +kernel, by decide +kernel⟩, List.mem_of_getElem? (i := 227) (by decide +kernel), List.mem_of_getElem? (i := 851) (by decide +kernel), List.mem_of_getElem? (i := 852) (by decide +kernel)⟩
theorem lw_p26 : lw_okq (⟨"WarpDesk$Fit", "lessenAll", "([II)V"⟩, 10) := ⟨⟨by decide +kernel, by decide +kernel⟩, List.mem_of_getElem? (i := 227) (by decide +kernel), List.mem_of_getElem? (i := 856) (by decide +kernel), List.mem_of_getElem? (i := 857) (by decide +kernel)⟩
theorem lw_p27 : lw_okq (⟨"WarpDesk$Fit", "spreadAll", "([I)V"⟩, 10) := ⟨⟨by decide +kernel, by decide +kernel⟩, List.mem_of_getElem? (i := 227) (by decide +kernel), List.mem_of_getElem? (i := 860) (by decide +kernel), List.mem_of_getElem? (i := 861) (by decide +kernel)⟩
theorem lw_p28 : lw_okq (⟨"WarpDesk$Fit", "layTable", "(I)V"⟩, 10) := ⟨⟨by decide +kernel, by decide +kernel⟩, List.mem_of_getElem? (i := 227) (by decide +kernel), List.mem_of_getElem? (i := 896) (by decide +kernel), List.mem_of_getElem? (i := 897) (by decide +kernel)⟩
theorem lw_p29 : lw_okq (⟨"WarpDesk$Fit", "layRow", "(I)I"⟩, 10) := ⟨⟨by decide +kernel, by decide +kernel⟩, List.mem_of_getElem? (i := 227) (by decide +kernel), List.mem_of_getElem? (i := 900) (by decide +kernel), List.mem_of_getElem? (i := 901) (by decide +kernel)⟩
theorem lw_p30 : lw_okq (⟨"WarpDesk$Fit", "costOf", "(II)I"⟩, 10) := ⟨⟨by decide +kernel, by decide +kernel⟩, List.mem_of_getElem? (i := 227) (by decide +kernel), List.mem_of_getElem? (i := 904) (by decide +kernel), List.mem_of_getElem? (i := 905) (by decide +kernel)⟩
theorem lw_p31 : lw_okq (⟨"WarpDesk$Fit", "leastAhead", "(II)I"⟩, 10) := ⟨⟨by decide +kernel, by decide +kernel⟩, List.mem_of_getElem? (i := 227) (by decide +kernel), List.mem_of_getElem? (i := 908) (by decide +kernel), List.mem_of_getElem? (i := 909) (by decide +kernel)⟩
def lw_privs_2 : List (MethodName × Nat) := [(⟨"WarpDesk$Reader", "beginTell", "()V"⟩, 13), (⟨"WarpDesk$Reader", "acceptName", "()V"⟩, 13), (⟨"WarpDesk$Reader", "mark", "(I)V"⟩, 13), (⟨"WarpDesk$Reader", "acceptNumber", "()V"⟩, 13), (⟨"WarpDesk$Reader", "acceptInRow", "()V"⟩, 13), (⟨"WarpDesk$Reader", "keepInRow", "(I)V"⟩, 13), (⟨"WarpDesk", "goOnFrom", "(LWarpDesk$Stand;)V"⟩, 10), (⟨"WarpDesk", "appendPlace", "(I)I"⟩, 10), (⟨"WarpDesk$Bench", "begin", "(II)V"⟩, 5), (⟨"WarpDesk$Fit", "sumOf", "([I)I"⟩, 10), (⟨"WarpDesk$Fit", "lessenAll", "([II)V"⟩, 10), (⟨"WarpDesk$Fit", "spreadAll", "([I)V"⟩, 10), (⟨"WarpDesk$Fit", "layTable", "(I)V"⟩, 10), (⟨"WarpDesk$Fit", "layRow", "(I)I"⟩, 10), (⟨"WarpDesk$Fit", "costOf", "(II)I"⟩, 10), (⟨"WarpDesk$Fit", "leastAhead", "(II)I"⟩, 10)]
theorem lw_r2 : ∀ q ∈ lw_privs_2, lw_okq q := List.forall_mem_cons.mpr ⟨lw_p16, List.forall_mem_cons.mpr ⟨lw_p17, List.forall_mem_cons.mpr ⟨lw_p18, List.forall_mem_cons.mpr ⟨lw_p19, List.forall_mem_cons.mpr ⟨lw_p20, List.forall_mem_cons.mpr ⟨lw_p21, List.forall_mem_cons.mpr ⟨lw_p22, List.forall_mem_cons.mpr ⟨lw_p23, List.forall_mem_cons.mpr ⟨lw_p24, List.forall_mem_cons.mpr ⟨lw_p25, List.forall_mem_cons.mpr ⟨lw_p26, List.forall_mem_cons.mpr ⟨lw_p27, List.forall_mem_cons.mpr ⟨lw_p28, List.forall_mem_cons.mpr ⟨lw_p29, List.forall_mem_cons.mpr ⟨lw_p30, List.forall_mem_cons.mpr ⟨lw_p31, fun _ h => absurd h List.not_mem_nil⟩⟩⟩⟩⟩⟩⟩⟩⟩⟩⟩⟩⟩⟩⟩⟩
theorem lw_p32 : lw_okq (⟨"WarpDesk$Fit", "envelopeBound", "([I[I)I"⟩, 10) := ⟨⟨by decide +kernel, by decide +kernel⟩, List.mem_of_getElem? (i := 227) (by decide +kernel), List.mem_of_getElem? (i := 928) (by decide +kernel), List.mem_of_getElem? (i := 929) (by decide +kernel)⟩
theorem lw_p33 : lw_okq (⟨"WarpDesk$Fit", "outsideCost", "(I[II)I"⟩, 10) := ⟨⟨by decide +kernel, by decide +kernel⟩, List.mem_of_getElem? (i := 227) (by decide +kernel), List.mem_of_getElem? (i := 932) (by decide +kernel), List.mem_of_getElem? (i := 933) (by decide +kernel)⟩
theorem lw_p34 : lw_okq (⟨"WarpDesk$Fit", "cellAt", "(II)I"⟩, 10) := ⟨⟨by decide +kernel, by decide +kernel⟩, List.mem_of_getElem? (i := 227) (by decide +kernel), List.mem_of_getElem? (i := 957) (by decide +kernel), List.mem_of_getElem? (i := 958) (by decide +kernel)⟩
theorem lw_p35 : lw_okq (⟨"WarpDesk$Finder", "addToTally", "(I)V"⟩, 11) := ⟨⟨by decide +kernel, by decide +kernel⟩, List.mem_of_getElem? (i := 295) (by decide +kernel), List.mem_of_getElem? (i := 1038) (by decide +kernel), List.mem_of_getElem? (i := 1039) (by decide +kernel)⟩
theorem lw_p36 : lw_okq (⟨"WarpDesk$Finder", "leastScanned", "()I"⟩, 11) := ⟨⟨by decide +kernel, by decide +kernel⟩, List.mem_of_getElem? (i := 295) (by decide +kernel), List.mem_of_getElem? (i := 1054) (by decide +kernel), List.mem_of_getElem? (i := 1055) (by decide +kernel)⟩
theorem lw_p37 : lw_okq (⟨"WarpDesk$Finder", "passOverAround", "(I)V"⟩, 11) := ⟨⟨by decide +kernel, by decide +kernel⟩, List.mem_of_getElem? (i := 295) (by decide +kernel), List.mem_of_getElem? (i := 1058) (by decide +kernel), List.mem_of_getElem? (i := 1059) (by decide +kernel)⟩
theorem lw_p38 : lw_okq (⟨"WarpDesk$Finder", "coverFrom", "(II)V"⟩, 11) := ⟨⟨by decide +kernel, by decide +kernel⟩, List.mem_of_getElem? (i := 295) (by decide +kernel), List.mem_of_getElem? (i := 1089) (by decide +kernel), List.mem_of_getElem? (i := 1090) (by decide +kernel)⟩
theorem lw_p39 : lw_okq (⟨"WarpDesk$Stretches", "bringAll", "(I)V"⟩, 11) := ⟨⟨by decide +kernel, by decide +kernel⟩, List.mem_of_getElem? (i := 339) (by decide +kernel), List.mem_of_getElem? (i := 1154) (by decide +kernel), List.mem_of_getElem? (i := 1155) (by decide +kernel)⟩
theorem lw_p40 : lw_okq (⟨"WarpDesk$Fit", "copyRow", "([II[II)V"⟩, 10) := ⟨⟨by decide +kernel, by decide +kernel⟩, List.mem_of_getElem? (i := 227) (by decide +kernel), List.mem_of_getElem? (i := 1164) (by decide +kernel), List.mem_of_getElem? (i := 1165) (by decide +kernel)⟩
theorem lw_p41 : lw_okq (⟨"WarpDesk$Stretches", "findNearest", "(III)V"⟩, 11) := ⟨⟨by decide +kernel, by decide +kernel⟩, List.mem_of_getElem? (i := 339) (by decide +kernel), List.mem_of_getElem? (i := 1168) (by decide +kernel), List.mem_of_getElem? (i := 1169) (by decide +kernel)⟩
theorem lw_p42 : lw_okq (⟨"WarpDesk$Stretches", "seekPairOf", "(II)V"⟩, 11) := ⟨⟨by decide +kernel, by decide +kernel⟩, List.mem_of_getElem? (i := 339) (by decide +kernel), List.mem_of_getElem? (i := 1192) (by decide +kernel), List.mem_of_getElem? (i := 1193) (by decide +kernel)⟩
theorem lw_p43 : lw_okq (⟨"WarpDesk", "slotsHeld", "()I"⟩, 10) := ⟨⟨by decide +kernel, by decide +kernel⟩, List.mem_of_getElem? (i := 20) (by decide +kernel), List.mem_of_getElem? (i := 1250) (by decide +kernel), List.mem_of_getElem? (i := 1251) (by decide +kernel)⟩
theorem lw_p44 : lw_okq (⟨"WarpDeskModel", "plain", "(I)V"⟩, 55) := ⟨⟨by decide +kernel, by decide +kernel⟩, List.mem_of_getElem? (i := 1254) (by decide +kernel), List.mem_of_getElem? (i := 1260) (by decide +kernel), List.mem_of_getElem? (i := 1261) (by decide +kernel)⟩
theorem lw_p45 : lw_okq (⟨"WarpDeskModel", "begins", "()V"⟩, 55) := ⟨⟨by decide +kernel, by decide +kernel⟩, List.mem_of_getElem? (i := 1254) (by decide +kernel), List.mem_of_getElem? (i := 1271) (by decide +kernel), List.mem_of_getElem? (i := 1272) (by decide +kernel)⟩
theorem lw_p46 : lw_okq (⟨"WarpDeskModel", "keepsRow", "()V"⟩, 55) := ⟨⟨by decide +kernel, by decide +kernel⟩, List.mem_of_getElem? (i := 1254) (by decide +kernel), List.mem_of_getElem? (i := 1275) (by decide +kernel), List.mem_of_getElem? (i := 1276) (by decide +kernel)⟩
theorem lw_p47 : lw_okq (⟨"WarpDeskModel", "lays", "(I)V"⟩, 55) := ⟨⟨by decide +kernel, by decide +kernel⟩, List.mem_of_getElem? (i := 1254) (by decide +kernel), List.mem_of_getElem? (i := 1448) (by decide +kernel), List.mem_of_getElem? (i := 1449) (by decide +kernel)⟩
def lw_privs_3 : List (MethodName × Nat) := [(⟨"WarpDesk$Fit", "envelopeBound", "([I[I)I"⟩, 10), (⟨"WarpDesk$Fit", "outsideCost", "(I[II)I"⟩, 10), (⟨"WarpDesk$Fit", "cellAt", "(II)I"⟩, 10), (⟨"WarpDesk$Finder", "addToTally", "(I)V"⟩, 11), (⟨"WarpDesk$Finder", "leastScanned", "()I"⟩, 11), (⟨"WarpDesk$Finder", "passOverAround", "(I)V"⟩, 11), (⟨"WarpDesk$Finder", "coverFrom", "(II)V"⟩, 11), (⟨"WarpDesk$Stretches", "bringAll", "(I)V"⟩, 11), (⟨"WarpDesk$Fit", "copyRow", "([II[II)V"⟩, 10), (⟨"WarpDesk$Stretches", "findNearest", "(III)V"⟩, 11), (⟨"WarpDesk$Stretches", "seekPairOf", "(II)V"⟩, 11), (⟨"WarpDesk", "slotsHeld", "()I"⟩, 10), (⟨"WarpDeskModel", "plain", "(I)V"⟩, 55), (⟨"WarpDeskModel", "begins", "()V"⟩, 55), (⟨"WarpDeskModel", "keepsRow", "()V"⟩, 55), (⟨"WarpDeskModel", "lays", "(I)V"⟩, 55)]
theorem lw_r3 : ∀ q ∈ lw_privs_3, lw_okq q := List.forall_mem_cons.mpr ⟨lw_p32, List.forall_mem_cons.mpr ⟨lw_p33, List.forall_mem_cons.mpr ⟨lw_p34, List.forall_mem_cons.mpr ⟨lw_p35, List.forall_mem_cons.mpr ⟨lw_p36, List.forall_mem_cons.mpr ⟨lw_p37, List.forall_mem_cons.mpr ⟨lw_p38, List.forall_mem_cons.mpr ⟨lw_p39, List.forall_mem_cons.mpr ⟨lw_p40, List.forall_mem_cons.mpr ⟨lw_p41, List.forall_mem_cons.mpr ⟨lw_p42, List.forall_mem_cons.mpr ⟨lw_p43, List.forall_mem_cons.mpr ⟨lw_p44, List.forall_mem_cons.mpr ⟨lw_p45, List.forall_mem_cons.mpr ⟨lw_p46, List.forall_mem_cons.mpr ⟨lw_p47, fun _ h => absurd h List.not_mem_nil⟩⟩⟩⟩⟩⟩⟩⟩⟩⟩⟩⟩⟩⟩⟩⟩
theorem lw_p48 : lw_okq (⟨"WarpDeskModel", "cut", "()V"⟩, 55) := ⟨⟨by decide +kernel, by decide +kernel⟩, List.mem_of_getElem? (i := 1254) (by decide +kernel), List.mem_of_getElem? (i := 1460) (by decide +kernel), List.mem_of_getElem? (i := 1461) (by decide +kernel)⟩
theorem lw_p49 : lw_okq (⟨"WarpDeskModel", "byteAt", "(I)I"⟩, 55) := ⟨⟨by decide +kernel, by decide +kernel⟩, List.mem_of_getElem? (i := 1254) (by decide +kernel), List.mem_of_getElem? (i := 1464) (by decide +kernel), List.mem_of_getElem? (i := 1465) (by decide +kernel)⟩
theorem lw_p50 : lw_okq (⟨"WarpDeskModel", "token", "(IIIJ)V"⟩, 55) := ⟨⟨by decide +kernel, by decide +kernel⟩, List.mem_of_getElem? (i := 1254) (by decide +kernel), List.mem_of_getElem? (i := 1468) (by decide +kernel), List.mem_of_getElem? (i := 1469) (by decide +kernel)⟩
theorem lw_p51 : lw_okq (⟨"WarpDeskModel", "sign", "(III)I"⟩, 55) := ⟨⟨by decide +kernel, by decide +kernel⟩, List.mem_of_getElem? (i := 1254) (by decide +kernel), List.mem_of_getElem? (i := 1478) (by decide +kernel), List.mem_of_getElem? (i := 1479) (by decide +kernel)⟩
theorem lw_p52 : lw_okq (⟨"WarpDeskModel", "is", "(I)Z"⟩, 55) := ⟨⟨by decide +kernel, by decide +kernel⟩, List.mem_of_getElem? (i := 1254) (by decide +kernel), List.mem_of_getElem? (i := 1482) (by decide +kernel), List.mem_of_getElem? (i := 1483) (by decide +kernel)⟩
theorem lw_p53 : lw_okq (⟨"WarpDeskModel", "tellOne", "()V"⟩, 55) := ⟨⟨by decide +kernel, by decide +kernel⟩, List.mem_of_getElem? (i := 1254) (by decide +kernel), List.mem_of_getElem? (i := 1486) (by decide +kernel), List.mem_of_getElem? (i := 1487) (by decide +kernel)⟩
theorem lw_p54 : lw_okq (⟨"WarpDeskModel", "goesOn", "()V"⟩, 55) := ⟨⟨by decide +kernel, by decide +kernel⟩, List.mem_of_getElem? (i := 1254) (by decide +kernel), List.mem_of_getElem? (i := 1490) (by decide +kernel), List.mem_of_getElem? (i := 1491) (by decide +kernel)⟩
theorem lw_p55 : lw_okq (⟨"WarpDeskModel", "fail", "(I)V"⟩, 55) := ⟨⟨by decide +kernel, by decide +kernel⟩, List.mem_of_getElem? (i := 1254) (by decide +kernel), List.mem_of_getElem? (i := 1494) (by decide +kernel), List.mem_of_getElem? (i := 1495) (by decide +kernel)⟩
theorem lw_p56 : lw_okq (⟨"WarpDeskModel", "tellSeries", "()V"⟩, 55) := ⟨⟨by decide +kernel, by decide +kernel⟩, List.mem_of_getElem? (i := 1254) (by decide +kernel), List.mem_of_getElem? (i := 1498) (by decide +kernel), List.mem_of_getElem? (i := 1499) (by decide +kernel)⟩
theorem lw_p57 : lw_okq (⟨"WarpDeskModel", "isReading", "()Z"⟩, 55) := ⟨⟨by decide +kernel, by decide +kernel⟩, List.mem_of_getElem? (i := 1254) (by decide +kernel), List.mem_of_getElem? (i := 1502) (by decide +kernel), List.mem_of_getElem? (i := 1503) (by decide +kernel)⟩
theorem lw_p58 : lw_okq (⟨"WarpDeskModel", "readingTold", "()I"⟩, 55) := ⟨⟨by decide +kernel, by decide +kernel⟩, List.mem_of_getElem? (i := 1254) (by decide +kernel), List.mem_of_getElem? (i := 1507) (by decide +kernel), List.mem_of_getElem? (i := 1508) (by decide +kernel)⟩
theorem lw_p59 : lw_okq (⟨"WarpDeskModel", "bounded", "(II)I"⟩, 55) := ⟨⟨by decide +kernel, by decide +kernel⟩, List.mem_of_getElem? (i := 1254) (by decide +kernel), List.mem_of_getElem? (i := 1511) (by decide +kernel), List.mem_of_getElem? (i := 1512) (by decide +kernel)⟩
theorem lw_p60 : lw_okq (⟨"WarpDeskModel", "wrong", "(II)V"⟩, 55) := ⟨⟨by decide +kernel, by decide +kernel⟩, List.mem_of_getElem? (i := 1254) (by decide +kernel), List.mem_of_getElem? (i := 1515) (by decide +kernel), List.mem_of_getElem? (i := 1516) (by decide +kernel)⟩
theorem lw_p61 : lw_okq (⟨"WarpDeskModel", "must", "(I)V"⟩, 55) := ⟨⟨by decide +kernel, by decide +kernel⟩, List.mem_of_getElem? (i := 1254) (by decide +kernel), List.mem_of_getElem? (i := 1519) (by decide +kernel), List.mem_of_getElem? (i := 1520) (by decide +kernel)⟩
theorem lw_p62 : lw_okq (⟨"WarpDeskModel", "tellQuery", "()V"⟩, 55) := ⟨⟨by decide +kernel, by decide +kernel⟩, List.mem_of_getElem? (i := 1254) (by decide +kernel), List.mem_of_getElem? (i := 1523) (by decide +kernel), List.mem_of_getElem? (i := 1524) (by decide +kernel)⟩
theorem lw_p63 : lw_okq (⟨"WarpDeskModel", "toldInt", "(II)I"⟩, 55) := ⟨⟨by decide +kernel, by decide +kernel⟩, List.mem_of_getElem? (i := 1254) (by decide +kernel), List.mem_of_getElem? (i := 1527) (by decide +kernel), List.mem_of_getElem? (i := 1528) (by decide +kernel)⟩
def lw_privs_4 : List (MethodName × Nat) := [(⟨"WarpDeskModel", "cut", "()V"⟩, 55), (⟨"WarpDeskModel", "byteAt", "(I)I"⟩, 55), (⟨"WarpDeskModel", "token", "(IIIJ)V"⟩, 55), (⟨"WarpDeskModel", "sign", "(III)I"⟩, 55), (⟨"WarpDeskModel", "is", "(I)Z"⟩, 55), (⟨"WarpDeskModel", "tellOne", "()V"⟩, 55), (⟨"WarpDeskModel", "goesOn", "()V"⟩, 55), (⟨"WarpDeskModel", "fail", "(I)V"⟩, 55), (⟨"WarpDeskModel", "tellSeries", "()V"⟩, 55), (⟨"WarpDeskModel", "isReading", "()Z"⟩, 55), (⟨"WarpDeskModel", "readingTold", "()I"⟩, 55), (⟨"WarpDeskModel", "bounded", "(II)I"⟩, 55), (⟨"WarpDeskModel", "wrong", "(II)V"⟩, 55), (⟨"WarpDeskModel", "must", "(I)V"⟩, 55), (⟨"WarpDeskModel", "tellQuery", "()V"⟩, 55), (⟨"WarpDeskModel", "toldInt", "(II)I"⟩, 55)]
theorem lw_r4 : ∀ q ∈ lw_privs_4, lw_okq q := List.forall_mem_cons.mpr ⟨lw_p48, List.forall_mem_cons.mpr ⟨lw_p49, List.forall_mem_cons.mpr ⟨lw_p50, List.forall_mem_cons.mpr ⟨lw_p51, List.forall_mem_cons.mpr ⟨lw_p52, List.forall_mem_cons.mpr ⟨lw_p53, List.forall_mem_cons.mpr ⟨lw_p54, List.forall_mem_cons.mpr ⟨lw_p55, List.forall_mem_cons.mpr ⟨lw_p56, List.forall_mem_cons.mpr ⟨lw_p57, List.forall_mem_cons.mpr ⟨lw_p58, List.forall_mem_cons.mpr ⟨lw_p59, List.forall_mem_cons.mpr ⟨lw_p60, List.forall_mem_cons.mpr ⟨lw_p61, List.forall_mem_cons.mpr ⟨lw_p62, List.forall_mem_cons.mpr ⟨lw_p63, fun _ h => absurd h List.not_mem_nil⟩⟩⟩⟩⟩⟩⟩⟩⟩⟩⟩⟩⟩⟩⟩⟩
theorem lw_p64 : lw_okq (⟨"WarpDeskModel", "toldWord", "(II)I"⟩, 55) := ⟨⟨by decide +kernel, by decide +kernel⟩, List.mem_of_getElem? (i := 1254) (by decide +kernel), List.mem_of_getElem? (i := 1531) (by decide +kernel), List.mem_of_getElem? (i := 1532) (by decide +kernel)⟩
theorem lw_p65 : lw_okq (⟨"WarpDeskModel", "isThere", "(I)Z"⟩, 55) := ⟨⟨by decide +kernel, by decide +kernel⟩, List.mem_of_getElem? (i := 1254) (by decide +kernel), List.mem_of_getElem? (i := 1547) (by decide +kernel), List.mem_of_getElem? (i := 1548) (by decide +kernel)⟩
theorem lw_p66 : lw_okq (⟨"WarpDeskModel", "isPlace", "(I)Z"⟩, 55) := ⟨⟨by decide +kernel, by decide +kernel⟩, List.mem_of_getElem? (i := 1254) (by decide +kernel), List.mem_of_getElem? (i := 1551) (by decide +kernel), List.mem_of_getElem? (i := 1552) (by decide +kernel)⟩
theorem lw_p67 : lw_okq (⟨"WarpDeskModel", "isQuery", "(I)Z"⟩, 55) := ⟨⟨by decide +kernel, by decide +kernel⟩, List.mem_of_getElem? (i := 1254) (by decide +kernel), List.mem_of_getElem? (i := 1562) (by decide +kernel), List.mem_of_getElem? (i := 1563) (by decide +kernel)⟩
theorem lw_p68 : lw_okq (⟨"WarpDeskModel", "wideOf", "(I)I"⟩, 55) := ⟨⟨by decide +kernel, by decide +kernel⟩, List.mem_of_getElem? (i := 1254) (by decide +kernel), List.mem_of_getElem? (i := 1566) (by decide +kernel), List.mem_of_getElem? (i := 1567) (by decide +kernel)⟩
theorem lw_p69 : lw_okq (⟨"WarpDeskModel", "comes", "(I)I"⟩, 55) := ⟨⟨by decide +kernel, by decide +kernel⟩, List.mem_of_getElem? (i := 1254) (by decide +kernel), List.mem_of_getElem? (i := 1574) (by decide +kernel), List.mem_of_getElem? (i := 1575) (by decide +kernel)⟩
theorem lw_p70 : lw_okq (⟨"WarpDeskModel", "copies", "()V"⟩, 55) := ⟨⟨by decide +kernel, by decide +kernel⟩, List.mem_of_getElem? (i := 1254) (by decide +kernel), List.mem_of_getElem? (i := 1578) (by decide +kernel), List.mem_of_getElem? (i := 1579) (by decide +kernel)⟩
theorem lw_p71 : lw_okq (⟨"WarpDeskModel", "records", "()V"⟩, 55) := ⟨⟨by decide +kernel, by decide +kernel⟩, List.mem_of_getElem? (i := 1254) (by decide +kernel), List.mem_of_getElem? (i := 1582) (by decide +kernel), List.mem_of_getElem? (i := 1583) (by decide +kernel)⟩
theorem lw_p72 : lw_okq (⟨"WarpDeskModel", "isWindow", "(II)Z"⟩, 55) := ⟨⟨by decide +kernel, by decide +kernel⟩, List.mem_of_getElem? (i := 1254) (by decide +kernel), List.mem_of_getElem? (i := 1613) (by decide +kernel), List.mem_of_getElem? (i := 1614) (by decide +kernel)⟩
theorem lw_p73 : lw_okq (⟨"WarpDeskModel", "sumOf", "(II)I"⟩, 55) := ⟨⟨by decide +kernel, by decide +kernel⟩, List.mem_of_getElem? (i := 1254) (by decide +kernel), List.mem_of_getElem? (i := 1618) (by decide +kernel), List.mem_of_getElem? (i := 1619) (by decide +kernel)⟩
theorem lw_p74 : lw_okq (⟨"WarpDeskModel", "leastOf", "(II)I"⟩, 55) := ⟨⟨by decide +kernel, by decide +kernel⟩, List.mem_of_getElem? (i := 1254) (by decide +kernel), List.mem_of_getElem? (i := 1622) (by decide +kernel), List.mem_of_getElem? (i := 1623) (by decide +kernel)⟩
theorem lw_p75 : lw_okq (⟨"WarpDeskModel", "mostOf", "(II)I"⟩, 55) := ⟨⟨by decide +kernel, by decide +kernel⟩, List.mem_of_getElem? (i := 1254) (by decide +kernel), List.mem_of_getElem? (i := 1626) (by decide +kernel), List.mem_of_getElem? (i := 1627) (by decide +kernel)⟩
theorem lw_p76 : lw_okq (⟨"WarpDeskModel", "laysWindow", "(II)V"⟩, 55) := ⟨⟨by decide +kernel, by decide +kernel⟩, List.mem_of_getElem? (i := 1254) (by decide +kernel), List.mem_of_getElem? (i := 1634) (by decide +kernel), List.mem_of_getElem? (i := 1635) (by decide +kernel)⟩
theorem lw_p77 : lw_okq (⟨"WarpDeskModel", "levelsFirst", "(I)V"⟩, 55) := ⟨⟨by decide +kernel, by decide +kernel⟩, List.mem_of_getElem? (i := 1254) (by decide +kernel), List.mem_of_getElem? (i := 1638) (by decide +kernel), List.mem_of_getElem? (i := 1639) (by decide +kernel)⟩
theorem lw_p78 : lw_okq (⟨"WarpDeskModel", "isOf", "(II)Z"⟩, 55) := ⟨⟨by decide +kernel, by decide +kernel⟩, List.mem_of_getElem? (i := 1254) (by decide +kernel), List.mem_of_getElem? (i := 1654) (by decide +kernel), List.mem_of_getElem? (i := 1655) (by decide +kernel)⟩
theorem lw_p79 : lw_okq (⟨"WarpDeskModel", "distanceOf", "(II)I"⟩, 55) := ⟨⟨by decide +kernel, by decide +kernel⟩, List.mem_of_getElem? (i := 1254) (by decide +kernel), List.mem_of_getElem? (i := 1658) (by decide +kernel), List.mem_of_getElem? (i := 1659) (by decide +kernel)⟩
def lw_privs_5 : List (MethodName × Nat) := [(⟨"WarpDeskModel", "toldWord", "(II)I"⟩, 55), (⟨"WarpDeskModel", "isThere", "(I)Z"⟩, 55), (⟨"WarpDeskModel", "isPlace", "(I)Z"⟩, 55), (⟨"WarpDeskModel", "isQuery", "(I)Z"⟩, 55), (⟨"WarpDeskModel", "wideOf", "(I)I"⟩, 55), (⟨"WarpDeskModel", "comes", "(I)I"⟩, 55), (⟨"WarpDeskModel", "copies", "()V"⟩, 55), (⟨"WarpDeskModel", "records", "()V"⟩, 55), (⟨"WarpDeskModel", "isWindow", "(II)Z"⟩, 55), (⟨"WarpDeskModel", "sumOf", "(II)I"⟩, 55), (⟨"WarpDeskModel", "leastOf", "(II)I"⟩, 55), (⟨"WarpDeskModel", "mostOf", "(II)I"⟩, 55), (⟨"WarpDeskModel", "laysWindow", "(II)V"⟩, 55), (⟨"WarpDeskModel", "levelsFirst", "(I)V"⟩, 55), (⟨"WarpDeskModel", "isOf", "(II)Z"⟩, 55), (⟨"WarpDeskModel", "distanceOf", "(II)I"⟩, 55)]
theorem lw_r5 : ∀ q ∈ lw_privs_5, lw_okq q := List.forall_mem_cons.mpr ⟨lw_p64, List.forall_mem_cons.mpr ⟨lw_p65, List.forall_mem_cons.mpr ⟨lw_p66, List.forall_mem_cons.mpr ⟨lw_p67, List.forall_mem_cons.mpr ⟨lw_p68, List.forall_mem_cons.mpr ⟨lw_p69, List.forall_mem_cons.mpr ⟨lw_p70, List.forall_mem_cons.mpr ⟨lw_p71, List.forall_mem_cons.mpr ⟨lw_p72, List.forall_mem_cons.mpr ⟨lw_p73, List.forall_mem_cons.mpr ⟨lw_p74, List.forall_mem_cons.mpr ⟨lw_p75, List.forall_mem_cons.mpr ⟨lw_p76, List.forall_mem_cons.mpr ⟨lw_p77, List.forall_mem_cons.mpr ⟨lw_p78, List.forall_mem_cons.mpr ⟨lw_p79, fun _ h => absurd h List.not_mem_nil⟩⟩⟩⟩⟩⟩⟩⟩⟩⟩⟩⟩⟩⟩⟩⟩
theorem lw_p80 : lw_okq (⟨"WarpDeskModel", "laysBoth", "(II)V"⟩, 55) := ⟨⟨by decide +kernel, by decide +kernel⟩, List.mem_of_getElem? (i := 1254) (by decide +kernel), List.mem_of_getElem? (i := 1662) (by decide +kernel), List.mem_of_getElem? (i := 1663) (by decide +kernel)⟩
theorem lw_p81 : lw_okq (⟨"WarpDeskModel", "changesBoth", "(I)V"⟩, 55) := ⟨⟨by decide +kernel, by decide +kernel⟩, List.mem_of_getElem? (i := 1254) (by decide +kernel), List.mem_of_getElem? (i := 1666) (by decide +kernel), List.mem_of_getElem? (i := 1667) (by decide +kernel)⟩
theorem lw_p82 : lw_okq (⟨"WarpDeskModel", "laysQuery", "(I)V"⟩, 55) := ⟨⟨by decide +kernel, by decide +kernel⟩, List.mem_of_getElem? (i := 1254) (by decide +kernel), List.mem_of_getElem? (i := 1670) (by decide +kernel), List.mem_of_getElem? (i := 1671) (by decide +kernel)⟩
theorem lw_p83 : lw_okq (⟨"WarpDeskModel", "laysTable", "(I)I"⟩, 55) := ⟨⟨by decide +kernel, by decide +kernel⟩, List.mem_of_getElem? (i := 1254) (by decide +kernel), List.mem_of_getElem? (i := 1675) (by decide +kernel), List.mem_of_getElem? (i := 1676) (by decide +kernel)⟩
theorem lw_p84 : lw_okq (⟨"WarpDeskModel", "laysRow", "(I)I"⟩, 55) := ⟨⟨by decide +kernel, by decide +kernel⟩, List.mem_of_getElem? (i := 1254) (by decide +kernel), List.mem_of_getElem? (i := 1679) (by decide +kernel), List.mem_of_getElem? (i := 1680) (by decide +kernel)⟩
theorem lw_p85 : lw_okq (⟨"WarpDeskModel", "isBand", "(II)Z"⟩, 55) := ⟨⟨by decide +kernel, by decide +kernel⟩, List.mem_of_getElem? (i := 1254) (by decide +kernel), List.mem_of_getElem? (i := 1683) (by decide +kernel), List.mem_of_getElem? (i := 1684) (by decide +kernel)⟩
theorem lw_p86 : lw_okq (⟨"WarpDeskModel", "atTable", "(II)I"⟩, 55) := ⟨⟨by decide +kernel, by decide +kernel⟩, List.mem_of_getElem? (i := 1254) (by decide +kernel), List.mem_of_getElem? (i := 1687) (by decide +kernel), List.mem_of_getElem? (i := 1688) (by decide +kernel)⟩
theorem lw_p87 : lw_okq (⟨"WarpDeskModel", "costOf", "(II)I"⟩, 55) := ⟨⟨by decide +kernel, by decide +kernel⟩, List.mem_of_getElem? (i := 1254) (by decide +kernel), List.mem_of_getElem? (i := 1694) (by decide +kernel), List.mem_of_getElem? (i := 1695) (by decide +kernel)⟩
theorem lw_p88 : lw_okq (⟨"WarpDeskModel", "endsOf", "()I"⟩, 55) := ⟨⟨by decide +kernel, by decide +kernel⟩, List.mem_of_getElem? (i := 1254) (by decide +kernel), List.mem_of_getElem? (i := 1702) (by decide +kernel), List.mem_of_getElem? (i := 1703) (by decide +kernel)⟩
theorem lw_p89 : lw_okq (⟨"WarpDeskModel", "overOf", "()I"⟩, 55) := ⟨⟨by decide +kernel, by decide +kernel⟩, List.mem_of_getElem? (i := 1254) (by decide +kernel), List.mem_of_getElem? (i := 1706) (by decide +kernel), List.mem_of_getElem? (i := 1707) (by decide +kernel)⟩
theorem lw_p90 : lw_okq (⟨"WarpDeskModel", "backOf", "()I"⟩, 55) := ⟨⟨by decide +kernel, by decide +kernel⟩, List.mem_of_getElem? (i := 1254) (by decide +kernel), List.mem_of_getElem? (i := 1711) (by decide +kernel), List.mem_of_getElem? (i := 1712) (by decide +kernel)⟩
theorem lw_p91 : lw_okq (⟨"WarpDeskModel", "passes", "(III)I"⟩, 55) := ⟨⟨by decide +kernel, by decide +kernel⟩, List.mem_of_getElem? (i := 1254) (by decide +kernel), List.mem_of_getElem? (i := 1719) (by decide +kernel), List.mem_of_getElem? (i := 1720) (by decide +kernel)⟩
theorem lw_p92 : lw_okq (⟨"WarpDeskModel", "fillsWay", "()V"⟩, 55) := ⟨⟨by decide +kernel, by decide +kernel⟩, List.mem_of_getElem? (i := 1254) (by decide +kernel), List.mem_of_getElem? (i := 1731) (by decide +kernel), List.mem_of_getElem? (i := 1732) (by decide +kernel)⟩
theorem lw_p93 : lw_okq (⟨"WarpDeskModel", "fillsFar", "(I)V"⟩, 55) := ⟨⟨by decide +kernel, by decide +kernel⟩, List.mem_of_getElem? (i := 1254) (by decide +kernel), List.mem_of_getElem? (i := 1743) (by decide +kernel), List.mem_of_getElem? (i := 1744) (by decide +kernel)⟩
theorem lw_p94 : lw_okq (⟨"WarpDeskModel", "bestWindow", "()I"⟩, 55) := ⟨⟨by decide +kernel, by decide +kernel⟩, List.mem_of_getElem? (i := 1254) (by decide +kernel), List.mem_of_getElem? (i := 1747) (by decide +kernel), List.mem_of_getElem? (i := 1748) (by decide +kernel)⟩
theorem lw_p95 : lw_okq (⟨"WarpDeskModel", "fillsSearch", "(I)V"⟩, 55) := ⟨⟨by decide +kernel, by decide +kernel⟩, List.mem_of_getElem? (i := 1254) (by decide +kernel), List.mem_of_getElem? (i := 1759) (by decide +kernel), List.mem_of_getElem? (i := 1760) (by decide +kernel)⟩
def lw_privs_6 : List (MethodName × Nat) := [(⟨"WarpDeskModel", "laysBoth", "(II)V"⟩, 55), (⟨"WarpDeskModel", "changesBoth", "(I)V"⟩, 55), (⟨"WarpDeskModel", "laysQuery", "(I)V"⟩, 55), (⟨"WarpDeskModel", "laysTable", "(I)I"⟩, 55), (⟨"WarpDeskModel", "laysRow", "(I)I"⟩, 55), (⟨"WarpDeskModel", "isBand", "(II)Z"⟩, 55), (⟨"WarpDeskModel", "atTable", "(II)I"⟩, 55), (⟨"WarpDeskModel", "costOf", "(II)I"⟩, 55), (⟨"WarpDeskModel", "endsOf", "()I"⟩, 55), (⟨"WarpDeskModel", "overOf", "()I"⟩, 55), (⟨"WarpDeskModel", "backOf", "()I"⟩, 55), (⟨"WarpDeskModel", "passes", "(III)I"⟩, 55), (⟨"WarpDeskModel", "fillsWay", "()V"⟩, 55), (⟨"WarpDeskModel", "fillsFar", "(I)V"⟩, 55), (⟨"WarpDeskModel", "bestWindow", "()I"⟩, 55), (⟨"WarpDeskModel", "fillsSearch", "(I)V"⟩, 55)]
theorem lw_r6 : ∀ q ∈ lw_privs_6, lw_okq q := List.forall_mem_cons.mpr ⟨lw_p80, List.forall_mem_cons.mpr ⟨lw_p81, List.forall_mem_cons.mpr ⟨lw_p82, List.forall_mem_cons.mpr ⟨lw_p83, List.forall_mem_cons.mpr ⟨lw_p84, List.forall_mem_cons.mpr ⟨lw_p85, List.forall_mem_cons.mpr ⟨lw_p86, List.forall_mem_cons.mpr ⟨lw_p87, List.forall_mem_cons.mpr ⟨lw_p88, List.forall_mem_cons.mpr ⟨lw_p89, List.forall_mem_cons.mpr ⟨lw_p90, List.forall_mem_cons.mpr ⟨lw_p91, List.forall_mem_cons.mpr ⟨lw_p92, List.forall_mem_cons.mpr ⟨lw_p93, List.forall_mem_cons.mpr ⟨lw_p94, List.forall_mem_cons.mpr ⟨lw_p95, fun _ h => absurd h List.not_mem_nil⟩⟩⟩⟩⟩⟩⟩⟩⟩⟩⟩⟩⟩⟩⟩⟩
theorem lw_p96 : lw_okq (⟨"WarpDeskModel", "fillsMatches", "(I)V"⟩, 55) := ⟨⟨by decide +kernel, by decide +kernel⟩, List.mem_of_getElem? (i := 1254) (by decide +kernel), List.mem_of_getElem? (i := 1767) (by decide +kernel), List.mem_of_getElem? (i := 1768) (by decide +kernel)⟩
theorem lw_p97 : lw_okq (⟨"WarpDeskModel", "isApart", "(I)Z"⟩, 55) := ⟨⟨by decide +kernel, by decide +kernel⟩, List.mem_of_getElem? (i := 1254) (by decide +kernel), List.mem_of_getElem? (i := 1771) (by decide +kernel), List.mem_of_getElem? (i := 1772) (by decide +kernel)⟩
theorem lw_p98 : lw_okq (⟨"WarpDeskModel", "rankOf", "(I)I"⟩, 55) := ⟨⟨by decide +kernel, by decide +kernel⟩, List.mem_of_getElem? (i := 1254) (by decide +kernel), List.mem_of_getElem? (i := 1787) (by decide +kernel), List.mem_of_getElem? (i := 1788) (by decide +kernel)⟩
theorem lw_p99 : lw_okq (⟨"WarpDeskModel", "nearOf", "(II)I"⟩, 55) := ⟨⟨by decide +kernel, by decide +kernel⟩, List.mem_of_getElem? (i := 1254) (by decide +kernel), List.mem_of_getElem? (i := 1818) (by decide +kernel), List.mem_of_getElem? (i := 1819) (by decide +kernel)⟩
theorem lw_p100 : lw_okq (⟨"WarpDeskModel", "laysWindows", "(III)V"⟩, 55) := ⟨⟨by decide +kernel, by decide +kernel⟩, List.mem_of_getElem? (i := 1254) (by decide +kernel), List.mem_of_getElem? (i := 1822) (by decide +kernel), List.mem_of_getElem? (i := 1823) (by decide +kernel)⟩
theorem lw_p101 : lw_okq (⟨"WarpDeskModel", "gaps", "()I"⟩, 55) := ⟨⟨by decide +kernel, by decide +kernel⟩, List.mem_of_getElem? (i := 1254) (by decide +kernel), List.mem_of_getElem? (i := 1846) (by decide +kernel), List.mem_of_getElem? (i := 1847) (by decide +kernel)⟩
def lw_privs_7 : List (MethodName × Nat) := [(⟨"WarpDeskModel", "fillsMatches", "(I)V"⟩, 55), (⟨"WarpDeskModel", "isApart", "(I)Z"⟩, 55), (⟨"WarpDeskModel", "rankOf", "(I)I"⟩, 55), (⟨"WarpDeskModel", "nearOf", "(II)I"⟩, 55), (⟨"WarpDeskModel", "laysWindows", "(III)V"⟩, 55), (⟨"WarpDeskModel", "gaps", "()I"⟩, 55)]
theorem lw_r7 : ∀ q ∈ lw_privs_7, lw_okq q := List.forall_mem_cons.mpr ⟨lw_p96, List.forall_mem_cons.mpr ⟨lw_p97, List.forall_mem_cons.mpr ⟨lw_p98, List.forall_mem_cons.mpr ⟨lw_p99, List.forall_mem_cons.mpr ⟨lw_p100, List.forall_mem_cons.mpr ⟨lw_p101, fun _ h => absurd h List.not_mem_nil⟩⟩⟩⟩⟩⟩
def lw_privs : List (MethodName × Nat) := lw_privs_1 ++ (lw_privs_2 ++ (lw_privs_3 ++ (lw_privs_4 ++ (lw_privs_5 ++ (lw_privs_6 ++ (lw_privs_7))))))
def lw_tbl : List Cond := k2_sels lw_privs ++ tables_1
theorem lw_privs_ok : ∀ q ∈ lw_privs, lw_okq q := by
  show ∀ q ∈ lw_privs_1 ++ (lw_privs_2 ++ (lw_privs_3 ++ (lw_privs_4 ++ (lw_privs_5 ++ (lw_privs_6 ++ (lw_privs_7)))))), lw_okq q
  exact List.forall_mem_append.mpr ⟨lw_r1, List.forall_mem_append.mpr ⟨lw_r2, List.forall_mem_append.mpr ⟨lw_r3, List.forall_mem_append.mpr ⟨lw_r4, List.forall_mem_append.mpr ⟨lw_r5, List.forall_mem_append.mpr ⟨lw_r6, lw_r7⟩⟩⟩⟩⟩⟩
end
section
/-! ===== BEGIN words of one list among another's, by their places ===== -/
theorem goodIn_r {big : List Cond} (ws : List Cond) (ps : List Nat) (hp : ws = ps.filterMap (fun i => big[i]?)) (h : ws.all goodWord = true) : GoodIn big ws := by
  intro w hw
  have h1 := List.all_eq_true.mp h w hw
  rw [hp] at hw
  obtain ⟨i, -, hi⟩ := List.mem_filterMap.mp hw
  have hm : w ∈ big := by first | exact List.mem_of_getElem? hi | exact List.getElem?_mem hi
  exact ⟨hm, good_of_word h1⟩
theorem goodIn_app {big a b : List Cond} (ha : GoodIn big a) (hb : GoodIn big b) : GoodIn big (a ++ b) := fun w h => (List.mem_append.mp h).elim (ha w) (hb w)
theorem goodIn_ca {big a b : List Cond} {c : Cond} (ha : GoodIn big (c :: a)) (hb : GoodIn big b) : GoodIn big (c :: (a ++ b)) := fun w h => (List.mem_cons.mp h).elim (fun e => ha w (List.mem_cons.mpr (Or.inl e))) (fun h => (List.mem_append.mp h).elim (fun h => ha w (List.mem_cons.mpr (Or.inr h))) (hb w))
theorem goodIn_sub {big ws : List Cond} (hm : ∀ w ∈ ws, w ∈ big) (h : ws.all goodWord = true) : GoodIn big ws := fun w hw => ⟨hm w hw, good_of_word (List.all_eq_true.mp h w hw)⟩
/-! ===== END ===== -/

/-! ===== BEGIN printed: names, fields, word lists, decode rows ===== -/
def RX0 : String := "WarpDesk$Bench"
def TX0 : u_T := fun k => match k with
  | 0 => ("WarpDesk$Bench", "series", "LWarpDesk$Series;", true)
  | 1 => ("WarpDesk$Bench", "queries", "LWarpDesk$Queries;", true)
  | 2 => ("WarpDesk$Bench", "settings", "LWarpDesk$Settings;", true)
  | 3 => ("WarpDesk$Bench", "fit", "LWarpDesk$Fit;", true)
  | _ => ("WarpDesk$Bench", "length", "I", false)
def tyX0 : Nat → FieldType := fun k => match k with
  | 0 => .object "WarpDesk$Series"
  | 1 => .object "WarpDesk$Queries"
  | 2 => .object "WarpDesk$Settings"
  | 3 => .object "WarpDesk$Fit"
  | _ => .int
abbrev wsX00 : List Cond := u_ws RX0 TX0 5
theorem nmX0 : ∀ a, a < 5 → ∀ b, b < 5 → a ≠ b → (TX0 a).2.1 ≠ (TX0 b).2.1 := by decide +kernel
theorem tyX0_ok : ∀ k, k < 5 → parseFieldDescriptor (TX0 k).2.2.1 = some (tyX0 k) := by decide +kernel
abbrev cX0_init : ByteArray := prog_2_method_1_code
def yX0_init : MethodName := ⟨RX0, "<init>", "(LWarpDesk$Series;LWarpDesk$Queries;LWarpDesk$Settings;)V"⟩
abbrev cX0_hasBoth : ByteArray := prog_2_method_2_code
def yX0_hasBoth : MethodName := ⟨RX0, "hasBoth", "(II)Z"⟩
abbrev cX0_openBoth : ByteArray := prog_2_method_3_code
def yX0_openBoth : MethodName := ⟨RX0, "openBoth", "(II)Z"⟩
abbrev cX0_openQuery : ByteArray := prog_2_method_4_code
def yX0_openQuery : MethodName := ⟨RX0, "openQuery", "(II)V"⟩
abbrev cX0_openWindow : ByteArray := prog_2_method_5_code
def yX0_openWindow : MethodName := ⟨RX0, "openWindow", "(II)V"⟩
abbrev cX0_begin : ByteArray := prog_2_method_6_code
def yX0_begin : MethodName := ⟨RX0, "begin", "(II)V"⟩
abbrev cX0_laySecondWindow : ByteArray := prog_2_method_7_code
def yX0_laySecondWindow : MethodName := ⟨RX0, "laySecondWindow", "(I)V"⟩
abbrev cX0_laySecondQuery : ByteArray := prog_2_method_8_code
def yX0_laySecondQuery : MethodName := ⟨RX0, "laySecondQuery", "(I)V"⟩
def RX1 : String := "WarpDesk$Finder"
def TX1 : u_T := fun k => match k with
  | 0 => ("WarpDesk$Finder", "bench", "LWarpDesk$Bench;", true)
  | 1 => ("WarpDesk$Finder", "series", "LWarpDesk$Series;", true)
  | 2 => ("WarpDesk$Finder", "queries", "LWarpDesk$Queries;", true)
  | 3 => ("WarpDesk$Finder", "tally", "[I", true)
  | 4 => ("WarpDesk$Finder", "bestWindow", "I", false)
  | 5 => ("WarpDesk$Finder", "bestDistance", "I", false)
  | 6 => ("WarpDesk$Finder", "distances", "[I", true)
  | 7 => ("WarpDesk$Finder", "matchWindows", "[I", true)
  | 8 => ("WarpDesk$Finder", "matchDistances", "[I", true)
  | 9 => ("WarpDesk$Finder", "matches", "I", false)
  | _ => ("WarpDesk$Finder", "covered", "[Z", true)
def tyX1 : Nat → FieldType := fun k => match k with
  | 0 => .object "WarpDesk$Bench"
  | 1 => .object "WarpDesk$Series"
  | 2 => .object "WarpDesk$Queries"
  | 3 => .array .int
  | 4 => .int
  | 5 => .int
  | 6 => .array .int
  | 7 => .array .int
  | 8 => .array .int
  | 9 => .int
  | _ => .array .boolean
abbrev wsX10 : List Cond := u_ws RX1 TX1 11
theorem nmX1 : ∀ a, a < 11 → ∀ b, b < 11 → a ≠ b → (TX1 a).2.1 ≠ (TX1 b).2.1 := by decide +kernel
theorem tyX1_ok : ∀ k, k < 11 → parseFieldDescriptor (TX1 k).2.2.1 = some (tyX1 k) := by decide +kernel
abbrev cX1_init : ByteArray := prog_3_method_1_code
def yX1_init : MethodName := ⟨RX1, "<init>", "(LWarpDesk$Bench;)V"⟩
abbrev cX1_runSearch : ByteArray := prog_3_method_2_code
def yX1_runSearch : MethodName := ⟨RX1, "runSearch", "(I)V"⟩
abbrev cX1_addToTally : ByteArray := prog_3_method_3_code
def yX1_addToTally : MethodName := ⟨RX1, "addToTally", "(I)V"⟩
abbrev cX1_findBest : ByteArray := prog_3_method_4_code
def yX1_findBest : MethodName := ⟨RX1, "findBest", "(II)V"⟩
abbrev cX1_neededBand : ByteArray := prog_3_method_5_code
def yX1_neededBand : MethodName := ⟨RX1, "neededBand", "(II)I"⟩
abbrev cX1_scan : ByteArray := prog_3_method_6_code
def yX1_scan : MethodName := ⟨RX1, "scan", "(I)V"⟩
abbrev cX1_scannedDistance : ByteArray := prog_3_method_7_code
def yX1_scannedDistance : MethodName := ⟨RX1, "scannedDistance", "(I)I"⟩
abbrev cX1_leastScanned : ByteArray := prog_3_method_8_code
def yX1_leastScanned : MethodName := ⟨RX1, "leastScanned", "()I"⟩
abbrev cX1_findMatches : ByteArray := prog_3_method_9_code
def yX1_findMatches : MethodName := ⟨RX1, "findMatches", "(I)V"⟩
abbrev cX1_passOverAround : ByteArray := prog_3_method_10_code
def yX1_passOverAround : MethodName := ⟨RX1, "passOverAround", "(I)V"⟩
abbrev cX1_matchWindow : ByteArray := prog_3_method_11_code
def yX1_matchWindow : MethodName := ⟨RX1, "matchWindow", "(I)I"⟩
abbrev cX1_matchDistance : ByteArray := prog_3_method_12_code
def yX1_matchDistance : MethodName := ⟨RX1, "matchDistance", "(I)I"⟩
abbrev cX1_matchesWithin : ByteArray := prog_3_method_13_code
def yX1_matchesWithin : MethodName := ⟨RX1, "matchesWithin", "(I)I"⟩
abbrev cX1_placesWithin : ByteArray := prog_3_method_14_code
def yX1_placesWithin : MethodName := ⟨RX1, "placesWithin", "(II)I"⟩
abbrev cX1_coverFrom : ByteArray := prog_3_method_15_code
def yX1_coverFrom : MethodName := ⟨RX1, "coverFrom", "(II)V"⟩
abbrev cX1_rankOf : ByteArray := prog_3_method_16_code
def yX1_rankOf : MethodName := ⟨RX1, "rankOf", "(I)I"⟩
abbrev cX1_windowOfRank : ByteArray := prog_3_method_17_code
def yX1_windowOfRank : MethodName := ⟨RX1, "windowOfRank", "(I)I"⟩
abbrev cX1_turnCount : ByteArray := prog_3_method_18_code
def yX1_turnCount : MethodName := ⟨RX1, "turnCount", "()I"⟩
abbrev cX1_slackSum : ByteArray := prog_3_method_19_code
def yX1_slackSum : MethodName := ⟨RX1, "slackSum", "(I)I"⟩
abbrev cX1_nearestQuery : ByteArray := prog_3_method_20_code
def yX1_nearestQuery : MethodName := ⟨RX1, "nearestQuery", "(II)I"⟩
abbrev cX1_firedBits : ByteArray := prog_3_method_21_code
def yX1_firedBits : MethodName := ⟨RX1, "firedBits", "(I)I"⟩
def RX2 : String := "WarpDesk$Fit"
def TX2 : u_T := fun k => match k with
  | 0 => ("WarpDesk$Fit", "left", "[I", true)
  | 1 => ("WarpDesk$Fit", "right", "[I", true)
  | 2 => ("WarpDesk$Fit", "table", "[I", true)
  | 3 => ("WarpDesk$Fit", "steps", "[I", true)
  | 4 => ("WarpDesk$Fit", "wayLength", "I", false)
  | 5 => ("WarpDesk$Fit", "length", "I", false)
  | 6 => ("WarpDesk$Fit", "band", "I", false)
  | 7 => ("WarpDesk$Fit", "isSquare", "Z", false)
  | 8 => ("WarpDesk$Fit", "cells", "I", false)
  | _ => ("WarpDesk$Fit", "brokenRow", "I", false)
def tyX2 : Nat → FieldType := fun k => match k with
  | 0 => .array .int
  | 1 => .array .int
  | 2 => .array .int
  | 3 => .array .int
  | 4 => .int
  | 5 => .int
  | 6 => .int
  | 7 => .boolean
  | 8 => .int
  | _ => .int
abbrev wsX20 : List Cond := u_ws RX2 TX2 10
theorem nmX2 : ∀ a, a < 10 → ∀ b, b < 10 → a ≠ b → (TX2 a).2.1 ≠ (TX2 b).2.1 := by decide +kernel
theorem tyX2_ok : ∀ k, k < 10 → parseFieldDescriptor (TX2 k).2.2.1 = some (tyX2 k) := by decide +kernel
abbrev cX2_init : ByteArray := prog_4_method_1_code
def yX2_init : MethodName := ⟨RX2, "<init>", "()V"⟩
abbrev cX2_begin : ByteArray := prog_4_method_2_code
def yX2_begin : MethodName := ⟨RX2, "begin", "(III)V"⟩
abbrev cX2_takeLeft : ByteArray := prog_4_method_3_code
def yX2_takeLeft : MethodName := ⟨RX2, "takeLeft", "([II)V"⟩
abbrev cX2_takeRight : ByteArray := prog_4_method_4_code
def yX2_takeRight : MethodName := ⟨RX2, "takeRight", "([II)V"⟩
abbrev cX2_giveLeft : ByteArray := prog_4_method_5_code
def yX2_giveLeft : MethodName := ⟨RX2, "giveLeft", "([II)V"⟩
abbrev cX2_copyRow : ByteArray := prog_4_method_6_code
def yX2_copyRow : MethodName := ⟨RX2, "copyRow", "([II[II)V"⟩
abbrev cX2_bringToLevel : ByteArray := prog_4_method_7_code
def yX2_bringToLevel : MethodName := ⟨RX2, "bringToLevel", "([II)V"⟩
abbrev cX2_sumOf : ByteArray := prog_4_method_8_code
def yX2_sumOf : MethodName := ⟨RX2, "sumOf", "([I)I"⟩
abbrev cX2_lessenAll : ByteArray := prog_4_method_9_code
def yX2_lessenAll : MethodName := ⟨RX2, "lessenAll", "([II)V"⟩
abbrev cX2_spreadAll : ByteArray := prog_4_method_10_code
def yX2_spreadAll : MethodName := ⟨RX2, "spreadAll", "([I)V"⟩
abbrev cX2_costOf : ByteArray := prog_4_method_11_code
def yX2_costOf : MethodName := ⟨RX2, "costOf", "(II)I"⟩
abbrev cX2_endsBound : ByteArray := prog_4_method_12_code
def yX2_endsBound : MethodName := ⟨RX2, "endsBound", "()I"⟩
abbrev cX2_overBound : ByteArray := prog_4_method_13_code
def yX2_overBound : MethodName := ⟨RX2, "overBound", "()I"⟩
abbrev cX2_backBound : ByteArray := prog_4_method_14_code
def yX2_backBound : MethodName := ⟨RX2, "backBound", "()I"⟩
abbrev cX2_envelopeBound : ByteArray := prog_4_method_15_code
def yX2_envelopeBound : MethodName := ⟨RX2, "envelopeBound", "([I[I)I"⟩
abbrev cX2_outsideCost : ByteArray := prog_4_method_16_code
def yX2_outsideCost : MethodName := ⟨RX2, "outsideCost", "(I[II)I"⟩
abbrev cX2_lookAt : ByteArray := prog_4_method_17_code
def yX2_lookAt : MethodName := ⟨RX2, "lookAt", "(I)I"⟩
abbrev cX2_isLess : ByteArray := prog_4_method_18_code
def yX2_isLess : MethodName := ⟨RX2, "isLess", "(I)Z"⟩
abbrev cX2_wholeDistance : ByteArray := prog_4_method_19_code
def yX2_wholeDistance : MethodName := ⟨RX2, "wholeDistance", "()I"⟩
abbrev cX2_laidDistance : ByteArray := prog_4_method_20_code
def yX2_laidDistance : MethodName := ⟨RX2, "laidDistance", "()I"⟩
abbrev cX2_layTable : ByteArray := prog_4_method_21_code
def yX2_layTable : MethodName := ⟨RX2, "layTable", "(I)V"⟩
abbrev cX2_layRow : ByteArray := prog_4_method_22_code
def yX2_layRow : MethodName := ⟨RX2, "layRow", "(I)I"⟩
abbrev cX2_leastAhead : ByteArray := prog_4_method_23_code
def yX2_leastAhead : MethodName := ⟨RX2, "leastAhead", "(II)I"⟩
abbrev cX2_cellAt : ByteArray := prog_4_method_24_code
def yX2_cellAt : MethodName := ⟨RX2, "cellAt", "(II)I"⟩
abbrev cX2_traceWay : ByteArray := prog_4_method_25_code
def yX2_traceWay : MethodName := ⟨RX2, "traceWay", "()V"⟩
abbrev cX2_wayPlace : ByteArray := prog_4_method_26_code
def yX2_wayPlace : MethodName := ⟨RX2, "wayPlace", "(I)I"⟩
abbrev cX2_widestOfWay : ByteArray := prog_4_method_27_code
def yX2_widestOfWay : MethodName := ⟨RX2, "widestOfWay", "()I"⟩
abbrev cX2_stepsInBoth : ByteArray := prog_4_method_28_code
def yX2_stepsInBoth : MethodName := ⟨RX2, "stepsInBoth", "()I"⟩
def RX3 : String := "WarpDesk$Past"
def TX3 : u_T := fun k => match k with
  | 0 => ("WarpDesk$Past", "kinds", "[I", true)
  | 1 => ("WarpDesk$Past", "firsts", "[I", true)
  | 2 => ("WarpDesk$Past", "seconds", "[I", true)
  | 3 => ("WarpDesk$Past", "next", "I", false)
  | _ => ("WarpDesk$Past", "size", "I", false)
def tyX3 : Nat → FieldType := fun k => match k with
  | 0 => .array .int
  | 1 => .array .int
  | 2 => .array .int
  | 3 => .int
  | _ => .int
abbrev wsX30 : List Cond := u_ws RX3 TX3 5
theorem nmX3 : ∀ a, a < 5 → ∀ b, b < 5 → a ≠ b → (TX3 a).2.1 ≠ (TX3 b).2.1 := by decide +kernel
theorem tyX3_ok : ∀ k, k < 5 → parseFieldDescriptor (TX3 k).2.2.1 = some (tyX3 k) := by decide +kernel
abbrev cX3_init : ByteArray := prog_5_method_1_code
def yX3_init : MethodName := ⟨RX3, "<init>", "()V"⟩
abbrev cX3_forget : ByteArray := prog_5_method_2_code
def yX3_forget : MethodName := ⟨RX3, "forget", "()V"⟩
abbrev cX3_note : ByteArray := prog_5_method_3_code
def yX3_note : MethodName := ⟨RX3, "note", "(III)V"⟩
abbrev cX3_stepBack : ByteArray := prog_5_method_4_code
def yX3_stepBack : MethodName := ⟨RX3, "stepBack", "()Z"⟩
abbrev cX3_valueIn : ByteArray := prog_5_method_5_code
def yX3_valueIn : MethodName := ⟨RX3, "valueIn", "([II)I"⟩
abbrev cX3_kindOfStep : ByteArray := prog_5_method_6_code
def yX3_kindOfStep : MethodName := ⟨RX3, "kindOfStep", "()I"⟩
abbrev cX3_firstOfStep : ByteArray := prog_5_method_7_code
def yX3_firstOfStep : MethodName := ⟨RX3, "firstOfStep", "()I"⟩
abbrev cX3_secondOfStep : ByteArray := prog_5_method_8_code
def yX3_secondOfStep : MethodName := ⟨RX3, "secondOfStep", "()I"⟩
def RX4 : String := "WarpDesk$Queries"
def TX4 : u_T := fun k => match k with
  | 0 => ("WarpDesk$Queries", "readings", "[I", true)
  | 1 => ("WarpDesk$Queries", "lengths", "[I", true)
  | _ => ("WarpDesk$Queries", "size", "I", false)
def tyX4 : Nat → FieldType := fun k => match k with
  | 0 => .array .int
  | 1 => .array .int
  | _ => .int
abbrev wsX40 : List Cond := u_ws RX4 TX4 3
theorem nmX4 : ∀ a, a < 3 → ∀ b, b < 3 → a ≠ b → (TX4 a).2.1 ≠ (TX4 b).2.1 := by decide +kernel
theorem tyX4_ok : ∀ k, k < 3 → parseFieldDescriptor (TX4 k).2.2.1 = some (tyX4 k) := by decide +kernel
abbrev cX4_init : ByteArray := prog_6_method_1_code
def yX4_init : MethodName := ⟨RX4, "<init>", "()V"⟩
abbrev cX4_has : ByteArray := prog_6_method_2_code
def yX4_has : MethodName := ⟨RX4, "has", "(I)Z"⟩
abbrev cX4_lengthOf : ByteArray := prog_6_method_3_code
def yX4_lengthOf : MethodName := ⟨RX4, "lengthOf", "(I)I"⟩
abbrev cX4_valueAt : ByteArray := prog_6_method_4_code
def yX4_valueAt : MethodName := ⟨RX4, "valueAt", "(II)I"⟩
abbrev cX4_open : ByteArray := prog_6_method_5_code
def yX4_open : MethodName := ⟨RX4, "open", "()V"⟩
abbrev cX4_append : ByteArray := prog_6_method_6_code
def yX4_append : MethodName := ⟨RX4, "append", "(I)V"⟩
abbrev cX4_takeFrom : ByteArray := prog_6_method_7_code
def yX4_takeFrom : MethodName := ⟨RX4, "takeFrom", "(LWarpDesk$Queries;)V"⟩
abbrev cX4_copyQuery : ByteArray := prog_6_method_8_code
def yX4_copyQuery : MethodName := ⟨RX4, "copyQuery", "(I[I)V"⟩
def RX5 : String := "WarpDesk$Reader"
def TX5 : u_T := fun k => match k with
  | 0 => ("WarpDesk$Reader", "tape", "LWarpDesk$Tape;", true)
  | 1 => ("WarpDesk$Reader", "draft", "LWarpDesk$Stand;", true)
  | 2 => ("WarpDesk$Reader", "queries", "LWarpDesk$Queries;", true)
  | 3 => ("WarpDesk$Reader", "nameStarts", "[I", true)
  | 4 => ("WarpDesk$Reader", "nameLengths", "[I", true)
  | 5 => ("WarpDesk$Reader", "state", "I", false)
  | 6 => ("WarpDesk$Reader", "tell", "I", false)
  | 7 => ("WarpDesk$Reader", "isNegative", "Z", false)
  | 8 => ("WarpDesk$Reader", "told", "I", false)
  | 9 => ("WarpDesk$Reader", "isStopped", "Z", false)
  | 10 => ("WarpDesk$Reader", "fault", "I", false)
  | 11 => ("WarpDesk$Reader", "faultPlace", "I", false)
  | _ => ("WarpDesk$Reader", "faultCause", "I", false)
def tyX5 : Nat → FieldType := fun k => match k with
  | 0 => .object "WarpDesk$Tape"
  | 1 => .object "WarpDesk$Stand"
  | 2 => .object "WarpDesk$Queries"
  | 3 => .array .int
  | 4 => .array .int
  | 5 => .int
  | 6 => .int
  | 7 => .boolean
  | 8 => .int
  | 9 => .boolean
  | 10 => .int
  | 11 => .int
  | _ => .int
abbrev wsX50 : List Cond := u_ws RX5 TX5 13
theorem nmX5 : ∀ a, a < 13 → ∀ b, b < 13 → a ≠ b → (TX5 a).2.1 ≠ (TX5 b).2.1 := by decide +kernel
theorem tyX5_ok : ∀ k, k < 13 → parseFieldDescriptor (TX5 k).2.2.1 = some (tyX5 k) := by decide +kernel
abbrev cX5_init : ByteArray := prog_7_method_1_code
def yX5_init : MethodName := ⟨RX5, "<init>", "(LWarpDesk$Tape;)V"⟩
abbrev cX5_readText : ByteArray := prog_7_method_2_code
def yX5_readText : MethodName := ⟨RX5, "readText", "()I"⟩
abbrev cX5_begin : ByteArray := prog_7_method_3_code
def yX5_begin : MethodName := ⟨RX5, "begin", "()V"⟩
abbrev cX5_stop : ByteArray := prog_7_method_4_code
def yX5_stop : MethodName := ⟨RX5, "stop", "(I)V"⟩
abbrev cX5_mark : ByteArray := prog_7_method_5_code
def yX5_mark : MethodName := ⟨RX5, "mark", "(I)V"⟩
abbrev cX5_keepFault : ByteArray := prog_7_method_6_code
def yX5_keepFault : MethodName := ⟨RX5, "keepFault", "(I)V"⟩
abbrev cX5_mayStand : ByteArray := prog_7_method_7_code
def yX5_mayStand : MethodName := ⟨RX5, "mayStand", "()Z"⟩
abbrev cX5_isNameAtHand : ByteArray := prog_7_method_8_code
def yX5_isNameAtHand : MethodName := ⟨RX5, "isNameAtHand", "()Z"⟩
abbrev cX5_mayStandInRow : ByteArray := prog_7_method_9_code
def yX5_mayStandInRow : MethodName := ⟨RX5, "mayStandInRow", "()Z"⟩
abbrev cX5_hasRoom : ByteArray := prog_7_method_10_code
def yX5_hasRoom : MethodName := ⟨RX5, "hasRoom", "()Z"⟩
abbrev cX5_accept : ByteArray := prog_7_method_11_code
def yX5_accept : MethodName := ⟨RX5, "accept", "()V"⟩
abbrev cX5_tellAtHand : ByteArray := prog_7_method_12_code
def yX5_tellAtHand : MethodName := ⟨RX5, "tellAtHand", "()I"⟩
abbrev cX5_choiceAtHand : ByteArray := prog_7_method_13_code
def yX5_choiceAtHand : MethodName := ⟨RX5, "choiceAtHand", "()I"⟩
abbrev cX5_levelAtHand : ByteArray := prog_7_method_14_code
def yX5_levelAtHand : MethodName := ⟨RX5, "levelAtHand", "()I"⟩
abbrev cX5_costAtHand : ByteArray := prog_7_method_15_code
def yX5_costAtHand : MethodName := ⟨RX5, "costAtHand", "()I"⟩
abbrev cX5_beginTell : ByteArray := prog_7_method_16_code
def yX5_beginTell : MethodName := ⟨RX5, "beginTell", "()V"⟩
abbrev cX5_acceptName : ByteArray := prog_7_method_17_code
def yX5_acceptName : MethodName := ⟨RX5, "acceptName", "()V"⟩
abbrev cX5_acceptNumber : ByteArray := prog_7_method_18_code
def yX5_acceptNumber : MethodName := ⟨RX5, "acceptNumber", "()V"⟩
abbrev cX5_acceptInRow : ByteArray := prog_7_method_19_code
def yX5_acceptInRow : MethodName := ⟨RX5, "acceptInRow", "()V"⟩
abbrev cX5_keepInRow : ByteArray := prog_7_method_20_code
def yX5_keepInRow : MethodName := ⟨RX5, "keepInRow", "(I)V"⟩
def RX6 : String := "WarpDesk$Series"
def TX6 : u_T := fun k => match k with
  | 0 => ("WarpDesk$Series", "ring", "[I", true)
  | 1 => ("WarpDesk$Series", "first", "I", false)
  | _ => ("WarpDesk$Series", "size", "I", false)
def tyX6 : Nat → FieldType := fun k => match k with
  | 0 => .array .int
  | 1 => .int
  | _ => .int
abbrev wsX60 : List Cond := u_ws RX6 TX6 3
theorem nmX6 : ∀ a, a < 3 → ∀ b, b < 3 → a ≠ b → (TX6 a).2.1 ≠ (TX6 b).2.1 := by decide +kernel
theorem tyX6_ok : ∀ k, k < 3 → parseFieldDescriptor (TX6 k).2.2.1 = some (tyX6 k) := by decide +kernel
abbrev cX6_init : ByteArray := prog_8_method_1_code
def yX6_init : MethodName := ⟨RX6, "<init>", "()V"⟩
abbrev cX6_takeFrom : ByteArray := prog_8_method_2_code
def yX6_takeFrom : MethodName := ⟨RX6, "takeFrom", "(LWarpDesk$Stand;)V"⟩
abbrev cX6_copyInto : ByteArray := prog_8_method_3_code
def yX6_copyInto : MethodName := ⟨RX6, "copyInto", "(LWarpDesk$Stand;)V"⟩
abbrev cX6_valueAt : ByteArray := prog_8_method_4_code
def yX6_valueAt : MethodName := ⟨RX6, "valueAt", "(I)I"⟩
abbrev cX6_putAt : ByteArray := prog_8_method_5_code
def yX6_putAt : MethodName := ⟨RX6, "putAt", "(II)V"⟩
abbrev cX6_append : ByteArray := prog_8_method_6_code
def yX6_append : MethodName := ⟨RX6, "append", "(I)Z"⟩
abbrev cX6_cutLast : ByteArray := prog_8_method_7_code
def yX6_cutLast : MethodName := ⟨RX6, "cutLast", "()V"⟩
abbrev cX6_cutFirst : ByteArray := prog_8_method_8_code
def yX6_cutFirst : MethodName := ⟨RX6, "cutFirst", "(I)Z"⟩
abbrev cX6_bringBackFirst : ByteArray := prog_8_method_9_code
def yX6_bringBackFirst : MethodName := ⟨RX6, "bringBackFirst", "(I)V"⟩
abbrev cX6_hasReading : ByteArray := prog_8_method_10_code
def yX6_hasReading : MethodName := ⟨RX6, "hasReading", "(I)Z"⟩
abbrev cX6_hasWindow : ByteArray := prog_8_method_11_code
def yX6_hasWindow : MethodName := ⟨RX6, "hasWindow", "(II)Z"⟩
abbrev cX6_copyWindow : ByteArray := prog_8_method_12_code
def yX6_copyWindow : MethodName := ⟨RX6, "copyWindow", "(II[I)V"⟩
abbrev cX6_sumOf : ByteArray := prog_8_method_13_code
def yX6_sumOf : MethodName := ⟨RX6, "sumOf", "(II)I"⟩
abbrev cX6_leastOf : ByteArray := prog_8_method_14_code
def yX6_leastOf : MethodName := ⟨RX6, "leastOf", "(II)I"⟩
abbrev cX6_greatestOf : ByteArray := prog_8_method_15_code
def yX6_greatestOf : MethodName := ⟨RX6, "greatestOf", "(II)I"⟩
abbrev cX6_gapCount : ByteArray := prog_8_method_16_code
def yX6_gapCount : MethodName := ⟨RX6, "gapCount", "()I"⟩
abbrev cX6_runFrom : ByteArray := prog_8_method_17_code
def yX6_runFrom : MethodName := ⟨RX6, "runFrom", "(I)I"⟩
abbrev cX6_readingsAtEnd : ByteArray := prog_8_method_18_code
def yX6_readingsAtEnd : MethodName := ⟨RX6, "readingsAtEnd", "()I"⟩
abbrev cX6_longestRunFirst : ByteArray := prog_8_method_19_code
def yX6_longestRunFirst : MethodName := ⟨RX6, "longestRunFirst", "()I"⟩
abbrev cX6_flatWindows : ByteArray := prog_8_method_20_code
def yX6_flatWindows : MethodName := ⟨RX6, "flatWindows", "(I)I"⟩
def RX7 : String := "WarpDesk$Settings"
def TX7 : u_T := fun k => match k with
  | _ => ("WarpDesk$Settings", "values", "[I", true)
def tyX7 : Nat → FieldType := fun k => match k with
  | _ => .array .int
abbrev wsX70 : List Cond := u_ws RX7 TX7 1
theorem nmX7 : ∀ a, a < 1 → ∀ b, b < 1 → a ≠ b → (TX7 a).2.1 ≠ (TX7 b).2.1 := by decide +kernel
theorem tyX7_ok : ∀ k, k < 1 → parseFieldDescriptor (TX7 k).2.2.1 = some (tyX7 k) := by decide +kernel
abbrev cX7_init : ByteArray := prog_9_method_1_code
def yX7_init : MethodName := ⟨RX7, "<init>", "()V"⟩
abbrev cX7_allows : ByteArray := prog_9_method_2_code
def yX7_allows : MethodName := ⟨RX7, "allows", "(II)Z"⟩
abbrev cX7_valueOf : ByteArray := prog_9_method_3_code
def yX7_valueOf : MethodName := ⟨RX7, "valueOf", "(I)I"⟩
abbrev cX7_put : ByteArray := prog_9_method_4_code
def yX7_put : MethodName := ⟨RX7, "put", "(II)V"⟩
abbrev cX7_clear : ByteArray := prog_9_method_5_code
def yX7_clear : MethodName := ⟨RX7, "clear", "()V"⟩
abbrev cX7_takeFrom : ByteArray := prog_9_method_6_code
def yX7_takeFrom : MethodName := ⟨RX7, "takeFrom", "(LWarpDesk$Settings;)V"⟩
def RX8 : String := "WarpDesk$Stand"
def TX8 : u_T := fun k => match k with
  | 0 => ("WarpDesk$Stand", "places", "[I", true)
  | 1 => ("WarpDesk$Stand", "size", "I", false)
  | 2 => ("WarpDesk$Stand", "settings", "LWarpDesk$Settings;", true)
  | _ => ("WarpDesk$Stand", "held", "Z", false)
def tyX8 : Nat → FieldType := fun k => match k with
  | 0 => .array .int
  | 1 => .int
  | 2 => .object "WarpDesk$Settings"
  | _ => .boolean
abbrev wsX80 : List Cond := u_ws RX8 TX8 4
theorem nmX8 : ∀ a, a < 4 → ∀ b, b < 4 → a ≠ b → (TX8 a).2.1 ≠ (TX8 b).2.1 := by decide +kernel
theorem tyX8_ok : ∀ k, k < 4 → parseFieldDescriptor (TX8 k).2.2.1 = some (tyX8 k) := by decide +kernel
abbrev cX8_init : ByteArray := prog_10_method_1_code
def yX8_init : MethodName := ⟨RX8, "<init>", "()V"⟩
abbrev cX8_clear : ByteArray := prog_10_method_2_code
def yX8_clear : MethodName := ⟨RX8, "clear", "()V"⟩
abbrev cX8_append : ByteArray := prog_10_method_3_code
def yX8_append : MethodName := ⟨RX8, "append", "(I)V"⟩
abbrev cX8_valueAt : ByteArray := prog_10_method_4_code
def yX8_valueAt : MethodName := ⟨RX8, "valueAt", "(I)I"⟩
def RX9 : String := "WarpDesk$Stretches"
def TX9 : u_T := fun k => match k with
  | 0 => ("WarpDesk$Stretches", "bench", "LWarpDesk$Bench;", true)
  | 1 => ("WarpDesk$Stretches", "fit", "LWarpDesk$Fit;", true)
  | 2 => ("WarpDesk$Stretches", "rows", "[I", true)
  | 3 => ("WarpDesk$Stretches", "isThere", "[Z", true)
  | 4 => ("WarpDesk$Stretches", "nearest", "I", false)
  | 5 => ("WarpDesk$Stretches", "nearestDistance", "I", false)
  | 6 => ("WarpDesk$Stretches", "pairLesser", "I", false)
  | 7 => ("WarpDesk$Stretches", "pairGreater", "I", false)
  | 8 => ("WarpDesk$Stretches", "pairDistance", "I", false)
  | 9 => ("WarpDesk$Stretches", "oddWindow", "I", false)
  | _ => ("WarpDesk$Stretches", "oddDistance", "I", false)
def tyX9 : Nat → FieldType := fun k => match k with
  | 0 => .object "WarpDesk$Bench"
  | 1 => .object "WarpDesk$Fit"
  | 2 => .array .int
  | 3 => .array .boolean
  | 4 => .int
  | 5 => .int
  | 6 => .int
  | 7 => .int
  | 8 => .int
  | 9 => .int
  | _ => .int
abbrev wsX90 : List Cond := u_ws RX9 TX9 11
theorem nmX9 : ∀ a, a < 11 → ∀ b, b < 11 → a ≠ b → (TX9 a).2.1 ≠ (TX9 b).2.1 := by decide +kernel
theorem tyX9_ok : ∀ k, k < 11 → parseFieldDescriptor (TX9 k).2.2.1 = some (tyX9 k) := by decide +kernel
abbrev cX9_init : ByteArray := prog_11_method_1_code
def yX9_init : MethodName := ⟨RX9, "<init>", "(LWarpDesk$Bench;)V"⟩
abbrev cX9_bringAll : ByteArray := prog_11_method_2_code
def yX9_bringAll : MethodName := ⟨RX9, "bringAll", "(I)V"⟩
abbrev cX9_findNear : ByteArray := prog_11_method_3_code
def yX9_findNear : MethodName := ⟨RX9, "findNear", "(II)V"⟩
abbrev cX9_findNearest : ByteArray := prog_11_method_4_code
def yX9_findNearest : MethodName := ⟨RX9, "findNearest", "(III)V"⟩
abbrev cX9_findPair : ByteArray := prog_11_method_5_code
def yX9_findPair : MethodName := ⟨RX9, "findPair", "(I)V"⟩
abbrev cX9_seekPairOf : ByteArray := prog_11_method_6_code
def yX9_seekPairOf : MethodName := ⟨RX9, "seekPairOf", "(II)V"⟩
abbrev cX9_findOdd : ByteArray := prog_11_method_7_code
def yX9_findOdd : MethodName := ⟨RX9, "findOdd", "(I)V"⟩
def RX10 : String := "WarpDesk$Tape"
def TX10 : u_T := fun k => match k with
  | 0 => ("WarpDesk$Tape", "bytes", "[I", true)
  | 1 => ("WarpDesk$Tape", "size", "I", false)
  | 2 => ("WarpDesk$Tape", "kind", "I", false)
  | 3 => ("WarpDesk$Tape", "start", "I", false)
  | 4 => ("WarpDesk$Tape", "value", "I", false)
  | 5 => ("WarpDesk$Tape", "number", "I", false)
  | _ => ("WarpDesk$Tape", "behind", "I", false)
def tyX10 : Nat → FieldType := fun k => match k with
  | 0 => .array .int
  | 1 => .int
  | 2 => .int
  | 3 => .int
  | 4 => .int
  | 5 => .int
  | _ => .int
abbrev wsX100 : List Cond := u_ws RX10 TX10 7
theorem nmX10 : ∀ a, a < 7 → ∀ b, b < 7 → a ≠ b → (TX10 a).2.1 ≠ (TX10 b).2.1 := by decide +kernel
theorem tyX10_ok : ∀ k, k < 7 → parseFieldDescriptor (TX10 k).2.2.1 = some (tyX10 k) := by decide +kernel
abbrev cX10_init : ByteArray := prog_12_method_1_code
def yX10_init : MethodName := ⟨RX10, "<init>", "()V"⟩
abbrev cX10_addFour : ByteArray := prog_12_method_2_code
def yX10_addFour : MethodName := ⟨RX10, "addFour", "(I)V"⟩
abbrev cX10_byteAt : ByteArray := prog_12_method_3_code
def yX10_byteAt : MethodName := ⟨RX10, "byteAt", "(I)I"⟩
abbrev cX10_toFirstToken : ByteArray := prog_12_method_4_code
def yX10_toFirstToken : MethodName := ⟨RX10, "toFirstToken", "()V"⟩
abbrev cX10_toNextToken : ByteArray := prog_12_method_5_code
def yX10_toNextToken : MethodName := ⟨RX10, "toNextToken", "()V"⟩
abbrev cX10_behindBlanks : ByteArray := prog_12_method_6_code
def yX10_behindBlanks : MethodName := ⟨RX10, "behindBlanks", "(I)I"⟩
abbrev cX10_isLetter : ByteArray := prog_12_method_7_code
def yX10_isLetter : MethodName := ⟨RX10, "isLetter", "(I)Z"⟩
abbrev cX10_isDigit : ByteArray := prog_12_method_8_code
def yX10_isDigit : MethodName := ⟨RX10, "isDigit", "(I)Z"⟩
abbrev cX10_takeLetters : ByteArray := prog_12_method_9_code
def yX10_takeLetters : MethodName := ⟨RX10, "takeLetters", "()V"⟩
abbrev cX10_takeDigits : ByteArray := prog_12_method_10_code
def yX10_takeDigits : MethodName := ⟨RX10, "takeDigits", "()V"⟩
abbrev cX10_lengthAtHand : ByteArray := prog_12_method_11_code
def yX10_lengthAtHand : MethodName := ⟨RX10, "lengthAtHand", "()I"⟩
abbrev cX10_isWord : ByteArray := prog_12_method_12_code
def yX10_isWord : MethodName := ⟨RX10, "isWord", "(Ljava/lang/String;)Z"⟩
abbrev cX10_isSameAsAt : ByteArray := prog_12_method_13_code
def yX10_isSameAsAt : MethodName := ⟨RX10, "isSameAsAt", "(II)Z"⟩
def RX11 : String := "WarpDesk"
def TX11 : u_T := fun k => match k with
  | 0 => ("WarpDesk", "tape", "LWarpDesk$Tape;", true)
  | 1 => ("WarpDesk", "reader", "LWarpDesk$Reader;", true)
  | 2 => ("WarpDesk", "series", "LWarpDesk$Series;", true)
  | 3 => ("WarpDesk", "queries", "LWarpDesk$Queries;", true)
  | 4 => ("WarpDesk", "settings", "LWarpDesk$Settings;", true)
  | 5 => ("WarpDesk", "past", "LWarpDesk$Past;", true)
  | 6 => ("WarpDesk", "slots", "[LWarpDesk$Stand;", true)
  | 7 => ("WarpDesk", "bench", "LWarpDesk$Bench;", true)
  | 8 => ("WarpDesk", "finder", "LWarpDesk$Finder;", true)
  | _ => ("WarpDesk", "stretches", "LWarpDesk$Stretches;", true)
def tyX11 : Nat → FieldType := fun k => match k with
  | 0 => .object "WarpDesk$Tape"
  | 1 => .object "WarpDesk$Reader"
  | 2 => .object "WarpDesk$Series"
  | 3 => .object "WarpDesk$Queries"
  | 4 => .object "WarpDesk$Settings"
  | 5 => .object "WarpDesk$Past"
  | 6 => .array (.object "WarpDesk$Stand")
  | 7 => .object "WarpDesk$Bench"
  | 8 => .object "WarpDesk$Finder"
  | _ => .object "WarpDesk$Stretches"
abbrev wsX110 : List Cond := u_ws RX11 TX11 10
theorem nmX11 : ∀ a, a < 10 → ∀ b, b < 10 → a ≠ b → (TX11 a).2.1 ≠ (TX11 b).2.1 := by decide +kernel
theorem tyX11_ok : ∀ k, k < 10 → parseFieldDescriptor (TX11 k).2.2.1 = some (tyX11 k) := by decide +kernel
abbrev cX11_init : ByteArray := prog_1_method_1_code
def yX11_init : MethodName := ⟨RX11, "<init>", "()V"⟩
abbrev cX11_feed : ByteArray := prog_1_method_2_code
def yX11_feed : MethodName := ⟨RX11, "feed", "(IIIII)I"⟩
abbrev cX11_back : ByteArray := prog_1_method_3_code
def yX11_back : MethodName := ⟨RX11, "back", "(I)I"⟩
abbrev cX11_read : ByteArray := prog_1_method_4_code
def yX11_read : MethodName := ⟨RX11, "read", "()I"⟩
abbrev cX11_place : ByteArray := prog_1_method_5_code
def yX11_place : MethodName := ⟨RX11, "place", "()I"⟩
abbrev cX11_cause : ByteArray := prog_1_method_6_code
def yX11_cause : MethodName := ⟨RX11, "cause", "()I"⟩
abbrev cX11_at : ByteArray := prog_1_method_7_code
def yX11_at : MethodName := ⟨RX11, "at", "(I)I"⟩
abbrev cX11_query : ByteArray := prog_1_method_8_code
def yX11_query : MethodName := ⟨RX11, "query", "(II)I"⟩
abbrev cX11_push : ByteArray := prog_1_method_9_code
def yX11_push : MethodName := ⟨RX11, "push", "(I)I"⟩
abbrev cX11_gap : ByteArray := prog_1_method_10_code
def yX11_gap : MethodName := ⟨RX11, "gap", "()I"⟩
abbrev cX11_appendPlace : ByteArray := prog_1_method_11_code
def yX11_appendPlace : MethodName := ⟨RX11, "appendPlace", "(I)I"⟩
abbrev cX11_mend : ByteArray := prog_1_method_12_code
def yX11_mend : MethodName := ⟨RX11, "mend", "(I)I"⟩
abbrev cX11_drop : ByteArray := prog_1_method_13_code
def yX11_drop : MethodName := ⟨RX11, "drop", "(I)Z"⟩
abbrev cX11_set : ByteArray := prog_1_method_14_code
def yX11_set : MethodName := ⟨RX11, "set", "(II)Z"⟩
abbrev cX11_undo : ByteArray := prog_1_method_15_code
def yX11_undo : MethodName := ⟨RX11, "undo", "()Z"⟩
abbrev cX11_window : ByteArray := prog_1_method_16_code
def yX11_window : MethodName := ⟨RX11, "window", "(III)I"⟩
abbrev cX11_level : ByteArray := prog_1_method_17_code
def yX11_level : MethodName := ⟨RX11, "level", "(III)I"⟩
abbrev cX11_distance : ByteArray := prog_1_method_18_code
def yX11_distance : MethodName := ⟨RX11, "distance", "(II)I"⟩
abbrev cX11_bound : ByteArray := prog_1_method_19_code
def yX11_bound : MethodName := ⟨RX11, "bound", "(III)I"⟩
abbrev cX11_look : ByteArray := prog_1_method_20_code
def yX11_look : MethodName := ⟨RX11, "look", "(IIII)I"⟩
abbrev cX11_way : ByteArray := prog_1_method_21_code
def yX11_way : MethodName := ⟨RX11, "way", "(III)I"⟩
abbrev cX11_lean : ByteArray := prog_1_method_22_code
def yX11_lean : MethodName := ⟨RX11, "lean", "(III)I"⟩
abbrev cX11_alike : ByteArray := prog_1_method_23_code
def yX11_alike : MethodName := ⟨RX11, "alike", "(II)I"⟩
abbrev cX11_whose : ByteArray := prog_1_method_24_code
def yX11_whose : MethodName := ⟨RX11, "whose", "(II)I"⟩
abbrev cX11_fired : ByteArray := prog_1_method_25_code
def yX11_fired : MethodName := ⟨RX11, "fired", "(I)I"⟩
abbrev cX11_best : ByteArray := prog_1_method_26_code
def yX11_best : MethodName := ⟨RX11, "best", "(II)I"⟩
abbrev cX11_search : ByteArray := prog_1_method_27_code
def yX11_search : MethodName := ⟨RX11, "search", "(II)I"⟩
abbrev cX11_match : ByteArray := prog_1_method_28_code
def yX11_match : MethodName := ⟨RX11, "match", "(III)I"⟩
abbrev cX11_within : ByteArray := prog_1_method_29_code
def yX11_within : MethodName := ⟨RX11, "within", "(II)I"⟩
abbrev cX11_cover : ByteArray := prog_1_method_30_code
def yX11_cover : MethodName := ⟨RX11, "cover", "(II)I"⟩
abbrev cX11_needs : ByteArray := prog_1_method_31_code
def yX11_needs : MethodName := ⟨RX11, "needs", "(II)I"⟩
abbrev cX11_rank : ByteArray := prog_1_method_32_code
def yX11_rank : MethodName := ⟨RX11, "rank", "(II)I"⟩
abbrev cX11_kth : ByteArray := prog_1_method_33_code
def yX11_kth : MethodName := ⟨RX11, "kth", "(III)I"⟩
abbrev cX11_slack : ByteArray := prog_1_method_34_code
def yX11_slack : MethodName := ⟨RX11, "slack", "(I)I"⟩
abbrev cX11_turns : ByteArray := prog_1_method_35_code
def yX11_turns : MethodName := ⟨RX11, "turns", "(I)I"⟩
abbrev cX11_isStretch : ByteArray := prog_1_method_36_code
def yX11_isStretch : MethodName := ⟨RX11, "isStretch", "(I)Z"⟩
abbrev cX11_near : ByteArray := prog_1_method_37_code
def yX11_near : MethodName := ⟨RX11, "near", "(III)I"⟩
abbrev cX11_pair : ByteArray := prog_1_method_38_code
def yX11_pair : MethodName := ⟨RX11, "pair", "(II)I"⟩
abbrev cX11_odd : ByteArray := prog_1_method_39_code
def yX11_odd : MethodName := ⟨RX11, "odd", "(II)I"⟩
abbrev cX11_flat : ByteArray := prog_1_method_40_code
def yX11_flat : MethodName := ⟨RX11, "flat", "(I)I"⟩
abbrev cX11_whole : ByteArray := prog_1_method_41_code
def yX11_whole : MethodName := ⟨RX11, "whole", "(I)I"⟩
abbrev cX11_hold : ByteArray := prog_1_method_42_code
def yX11_hold : MethodName := ⟨RX11, "hold", "(I)Z"⟩
abbrev cX11_restore : ByteArray := prog_1_method_43_code
def yX11_restore : MethodName := ⟨RX11, "restore", "(I)Z"⟩
abbrev cX11_goOnFrom : ByteArray := prog_1_method_44_code
def yX11_goOnFrom : MethodName := ⟨RX11, "goOnFrom", "(LWarpDesk$Stand;)V"⟩
abbrev cX11_slotsHeld : ByteArray := prog_1_method_45_code
def yX11_slotsHeld : MethodName := ⟨RX11, "slotsHeld", "()I"⟩
abbrev cX11_count : ByteArray := prog_1_method_46_code
def yX11_count : MethodName := ⟨RX11, "count", "(I)I"⟩
def RX12 : String := "WarpDeskModel"
def TX12 : u_T := fun k => match k with
  | 0 => ("WarpDeskModel", "thrown", "I", false)
  | 1 => ("WarpDeskModel", "tape", "[B", true)
  | 2 => ("WarpDeskModel", "taped", "I", false)
  | 3 => ("WarpDeskModel", "text", "[B", true)
  | 4 => ("WarpDeskModel", "size", "I", false)
  | 5 => ("WarpDeskModel", "tKind", "[I", true)
  | 6 => ("WarpDeskModel", "tPlace", "[I", true)
  | 7 => ("WarpDeskModel", "tValue", "[I", true)
  | 8 => ("WarpDeskModel", "tName", "[J", true)
  | 9 => ("WarpDeskModel", "keys", "[J", true)
  | 10 => ("WarpDeskModel", "tokens", "I", false)
  | 11 => ("WarpDeskModel", "t", "I", false)
  | 12 => ("WarpDeskModel", "open", "I", false)
  | 13 => ("WarpDeskModel", "fault", "I", false)
  | 14 => ("WarpDeskModel", "faultPlace", "I", false)
  | 15 => ("WarpDeskModel", "worst", "I", false)
  | 16 => ("WarpDeskModel", "worstPlace", "I", false)
  | 17 => ("WarpDeskModel", "place", "I", false)
  | 18 => ("WarpDeskModel", "here", "I", false)
  | 19 => ("WarpDeskModel", "faultCause", "I", false)
  | 20 => ("WarpDeskModel", "worstCause", "I", false)
  | 21 => ("WarpDeskModel", "cause", "I", false)
  | 22 => ("WarpDeskModel", "live", "I", false)
  | 23 => ("WarpDeskModel", "side", "I", false)
  | 24 => ("WarpDeskModel", "names", "I", false)
  | 25 => ("WarpDeskModel", "nameOf", "[J", true)
  | 26 => ("WarpDeskModel", "placesTold", "[I", true)
  | 27 => ("WarpDeskModel", "seriesTold", "[I", true)
  | 28 => ("WarpDeskModel", "queries", "[I", true)
  | 29 => ("WarpDeskModel", "queryMany", "[I", true)
  | 30 => ("WarpDeskModel", "queryAt", "[I", true)
  | 31 => ("WarpDeskModel", "bandTold", "[I", true)
  | 32 => ("WarpDeskModel", "levelTold", "[I", true)
  | 33 => ("WarpDeskModel", "costTold", "[I", true)
  | 34 => ("WarpDeskModel", "apartTold", "[I", true)
  | 35 => ("WarpDeskModel", "now", "[I", true)
  | 36 => ("WarpDeskModel", "row", "[I", true)
  | 37 => ("WarpDeskModel", "wide", "I", false)
  | 38 => ("WarpDeskModel", "firstAt", "[I", true)
  | 39 => ("WarpDeskModel", "otherAt", "[I", true)
  | 40 => ("WarpDeskModel", "tableAt", "[I", true)
  | 41 => ("WarpDeskModel", "laid", "I", false)
  | 42 => ("WarpDeskModel", "brokeAt", "I", false)
  | 43 => ("WarpDeskModel", "looksAt", "I", false)
  | 44 => ("WarpDeskModel", "undos", "I", false)
  | 45 => ("WarpDeskModel", "history", "[I", true)
  | 46 => ("WarpDeskModel", "wayAt", "[I", true)
  | 47 => ("WarpDeskModel", "wayMany", "I", false)
  | 48 => ("WarpDeskModel", "farBy", "[I", true)
  | 49 => ("WarpDeskModel", "searchBy", "[I", true)
  | 50 => ("WarpDeskModel", "matchMany", "I", false)
  | 51 => ("WarpDeskModel", "matchAt", "[I", true)
  | 52 => ("WarpDeskModel", "nearFar", "I", false)
  | 53 => ("WarpDeskModel", "isHeld", "[Z", true)
  | _ => ("WarpDeskModel", "heldRows", "[I", true)
def tyX12 : Nat → FieldType := fun k => match k with
  | 0 => .int
  | 1 => .array .byte
  | 2 => .int
  | 3 => .array .byte
  | 4 => .int
  | 5 => .array .int
  | 6 => .array .int
  | 7 => .array .int
  | 8 => .array .long
  | 9 => .array .long
  | 10 => .int
  | 11 => .int
  | 12 => .int
  | 13 => .int
  | 14 => .int
  | 15 => .int
  | 16 => .int
  | 17 => .int
  | 18 => .int
  | 19 => .int
  | 20 => .int
  | 21 => .int
  | 22 => .int
  | 23 => .int
  | 24 => .int
  | 25 => .array .long
  | 26 => .array .int
  | 27 => .array .int
  | 28 => .array .int
  | 29 => .array .int
  | 30 => .array .int
  | 31 => .array .int
  | 32 => .array .int
  | 33 => .array .int
  | 34 => .array .int
  | 35 => .array .int
  | 36 => .array .int
  | 37 => .int
  | 38 => .array .int
  | 39 => .array .int
  | 40 => .array .int
  | 41 => .int
  | 42 => .int
  | 43 => .int
  | 44 => .int
  | 45 => .array .int
  | 46 => .array .int
  | 47 => .int
  | 48 => .array .int
  | 49 => .array .int
  | 50 => .int
  | 51 => .array .int
  | 52 => .int
  | 53 => .array .boolean
  | _ => .array .int
abbrev wsX120 : List Cond := u_ws RX12 TX12 55
theorem nmX12 : ∀ a, a < 55 → ∀ b, b < 55 → a ≠ b → (TX12 a).2.1 ≠ (TX12 b).2.1 := by decide +kernel
theorem tyX12_ok : ∀ k, k < 55 → parseFieldDescriptor (TX12 k).2.2.1 = some (tyX12 k) := by decide +kernel
abbrev cX12_init : ByteArray := prog_14_method_2_code
def yX12_init : MethodName := ⟨RX12, "<init>", "()V"⟩
abbrev cX12_feed : ByteArray := prog_14_method_3_code
def yX12_feed : MethodName := ⟨RX12, "feed", "(IIIII)I"⟩
abbrev cX12_lays : ByteArray := prog_14_method_4_code
def yX12_lays : MethodName := ⟨RX12, "lays", "(I)V"⟩
abbrev cX12_back : ByteArray := prog_14_method_5_code
def yX12_back : MethodName := ⟨RX12, "back", "(I)I"⟩
abbrev cX12_byteAt : ByteArray := prog_14_method_6_code
def yX12_byteAt : MethodName := ⟨RX12, "byteAt", "(I)I"⟩
abbrev cX12_isDigit : ByteArray := prog_14_method_7_code
def yX12_isDigit : MethodName := ⟨RX12, "isDigit", "(I)Z"⟩
abbrev cX12_isLetter : ByteArray := prog_14_method_8_code
def yX12_isLetter : MethodName := ⟨RX12, "isLetter", "(I)Z"⟩
abbrev cX12_appends : ByteArray := prog_14_method_9_code
def yX12_appends : MethodName := ⟨RX12, "appends", "(JI)J"⟩
abbrev cX12_letters : ByteArray := prog_14_method_10_code
def yX12_letters : MethodName := ⟨RX12, "letters", "(IIIIIII)J"⟩
abbrev cX12_token : ByteArray := prog_14_method_11_code
def yX12_token : MethodName := ⟨RX12, "token", "(IIIJ)V"⟩
abbrev cX12_cut : ByteArray := prog_14_method_12_code
def yX12_cut : MethodName := ⟨RX12, "cut", "()V"⟩
abbrev cX12_sign : ByteArray := prog_14_method_13_code
def yX12_sign : MethodName := ⟨RX12, "sign", "(III)I"⟩
abbrev cX12_is : ByteArray := prog_14_method_14_code
def yX12_is : MethodName := ⟨RX12, "is", "(I)Z"⟩
abbrev cX12_fail : ByteArray := prog_14_method_15_code
def yX12_fail : MethodName := ⟨RX12, "fail", "(I)V"⟩
abbrev cX12_wrong : ByteArray := prog_14_method_16_code
def yX12_wrong : MethodName := ⟨RX12, "wrong", "(II)V"⟩
abbrev cX12_goesOn : ByteArray := prog_14_method_17_code
def yX12_goesOn : MethodName := ⟨RX12, "goesOn", "()V"⟩
abbrev cX12_must : ByteArray := prog_14_method_18_code
def yX12_must : MethodName := ⟨RX12, "must", "(I)V"⟩
abbrev cX12_plain : ByteArray := prog_14_method_19_code
def yX12_plain : MethodName := ⟨RX12, "plain", "(I)V"⟩
abbrev cX12_read : ByteArray := prog_14_method_20_code
def yX12_read : MethodName := ⟨RX12, "read", "()I"⟩
abbrev cX12_place : ByteArray := prog_14_method_21_code
def yX12_place : MethodName := ⟨RX12, "place", "()I"⟩
abbrev cX12_cause : ByteArray := prog_14_method_22_code
def yX12_cause : MethodName := ⟨RX12, "cause", "()I"⟩
abbrev cX12_toldInt : ByteArray := prog_14_method_23_code
def yX12_toldInt : MethodName := ⟨RX12, "toldInt", "(II)I"⟩
abbrev cX12_toldWord : ByteArray := prog_14_method_24_code
def yX12_toldWord : MethodName := ⟨RX12, "toldWord", "(II)I"⟩
abbrev cX12_tellOne : ByteArray := prog_14_method_25_code
def yX12_tellOne : MethodName := ⟨RX12, "tellOne", "()V"⟩
abbrev cX12_bounded : ByteArray := prog_14_method_26_code
def yX12_bounded : MethodName := ⟨RX12, "bounded", "(II)I"⟩
abbrev cX12_isReading : ByteArray := prog_14_method_27_code
def yX12_isReading : MethodName := ⟨RX12, "isReading", "()Z"⟩
abbrev cX12_readingTold : ByteArray := prog_14_method_28_code
def yX12_readingTold : MethodName := ⟨RX12, "readingTold", "()I"⟩
abbrev cX12_tellSeries : ByteArray := prog_14_method_29_code
def yX12_tellSeries : MethodName := ⟨RX12, "tellSeries", "()V"⟩
abbrev cX12_tellQuery : ByteArray := prog_14_method_30_code
def yX12_tellQuery : MethodName := ⟨RX12, "tellQuery", "()V"⟩
abbrev cX12_in : ByteArray := prog_14_method_31_code
def yX12_in : MethodName := ⟨RX12, "in", "(III)Z"⟩
abbrev cX12_downBy : ByteArray := prog_14_method_32_code
def yX12_downBy : MethodName := ⟨RX12, "downBy", "(II)I"⟩
abbrev cX12_begins : ByteArray := prog_14_method_33_code
def yX12_begins : MethodName := ⟨RX12, "begins", "()V"⟩
abbrev cX12_keepsRow : ByteArray := prog_14_method_34_code
def yX12_keepsRow : MethodName := ⟨RX12, "keepsRow", "()V"⟩
abbrev cX12_copies : ByteArray := prog_14_method_35_code
def yX12_copies : MethodName := ⟨RX12, "copies", "()V"⟩
abbrev cX12_isPlace : ByteArray := prog_14_method_36_code
def yX12_isPlace : MethodName := ⟨RX12, "isPlace", "(I)Z"⟩
abbrev cX12_isThere : ByteArray := prog_14_method_37_code
def yX12_isThere : MethodName := ⟨RX12, "isThere", "(I)Z"⟩
abbrev cX12_isWindow : ByteArray := prog_14_method_38_code
def yX12_isWindow : MethodName := ⟨RX12, "isWindow", "(II)Z"⟩
abbrev cX12_isQuery : ByteArray := prog_14_method_39_code
def yX12_isQuery : MethodName := ⟨RX12, "isQuery", "(I)Z"⟩
abbrev cX12_wideOf : ByteArray := prog_14_method_40_code
def yX12_wideOf : MethodName := ⟨RX12, "wideOf", "(I)I"⟩
abbrev cX12_isOf : ByteArray := prog_14_method_41_code
def yX12_isOf : MethodName := ⟨RX12, "isOf", "(II)Z"⟩
abbrev cX12_levelsFirst : ByteArray := prog_14_method_42_code
def yX12_levelsFirst : MethodName := ⟨RX12, "levelsFirst", "(I)V"⟩
abbrev cX12_changesBoth : ByteArray := prog_14_method_43_code
def yX12_changesBoth : MethodName := ⟨RX12, "changesBoth", "(I)V"⟩
abbrev cX12_laysQuery : ByteArray := prog_14_method_44_code
def yX12_laysQuery : MethodName := ⟨RX12, "laysQuery", "(I)V"⟩
abbrev cX12_laysWindow : ByteArray := prog_14_method_45_code
def yX12_laysWindow : MethodName := ⟨RX12, "laysWindow", "(II)V"⟩
abbrev cX12_laysBoth : ByteArray := prog_14_method_46_code
def yX12_laysBoth : MethodName := ⟨RX12, "laysBoth", "(II)V"⟩
abbrev cX12_laysWindows : ByteArray := prog_14_method_47_code
def yX12_laysWindows : MethodName := ⟨RX12, "laysWindows", "(III)V"⟩
abbrev cX12_costOf : ByteArray := prog_14_method_48_code
def yX12_costOf : MethodName := ⟨RX12, "costOf", "(II)I"⟩
abbrev cX12_isBand : ByteArray := prog_14_method_49_code
def yX12_isBand : MethodName := ⟨RX12, "isBand", "(II)Z"⟩
abbrev cX12_atTable : ByteArray := prog_14_method_50_code
def yX12_atTable : MethodName := ⟨RX12, "atTable", "(II)I"⟩
abbrev cX12_least : ByteArray := prog_14_method_51_code
def yX12_least : MethodName := ⟨RX12, "least", "(II)I"⟩
abbrev cX12_laysRow : ByteArray := prog_14_method_52_code
def yX12_laysRow : MethodName := ⟨RX12, "laysRow", "(I)I"⟩
abbrev cX12_laysTable : ByteArray := prog_14_method_53_code
def yX12_laysTable : MethodName := ⟨RX12, "laysTable", "(I)I"⟩
abbrev cX12_distanceOf : ByteArray := prog_14_method_54_code
def yX12_distanceOf : MethodName := ⟨RX12, "distanceOf", "(II)I"⟩
abbrev cX12_endsOf : ByteArray := prog_14_method_55_code
def yX12_endsOf : MethodName := ⟨RX12, "endsOf", "()I"⟩
abbrev cX12_overOf : ByteArray := prog_14_method_56_code
def yX12_overOf : MethodName := ⟨RX12, "overOf", "()I"⟩
abbrev cX12_backOf : ByteArray := prog_14_method_57_code
def yX12_backOf : MethodName := ⟨RX12, "backOf", "()I"⟩
abbrev cX12_passes : ByteArray := prog_14_method_58_code
def yX12_passes : MethodName := ⟨RX12, "passes", "(III)I"⟩
abbrev cX12_at : ByteArray := prog_14_method_59_code
def yX12_at : MethodName := ⟨RX12, "at", "(I)I"⟩
abbrev cX12_query : ByteArray := prog_14_method_60_code
def yX12_query : MethodName := ⟨RX12, "query", "(II)I"⟩
abbrev cX12_records : ByteArray := prog_14_method_61_code
def yX12_records : MethodName := ⟨RX12, "records", "()V"⟩
abbrev cX12_comes : ByteArray := prog_14_method_62_code
def yX12_comes : MethodName := ⟨RX12, "comes", "(I)I"⟩
abbrev cX12_push : ByteArray := prog_14_method_63_code
def yX12_push : MethodName := ⟨RX12, "push", "(I)I"⟩
abbrev cX12_gap : ByteArray := prog_14_method_64_code
def yX12_gap : MethodName := ⟨RX12, "gap", "()I"⟩
abbrev cX12_mend : ByteArray := prog_14_method_65_code
def yX12_mend : MethodName := ⟨RX12, "mend", "(I)I"⟩
abbrev cX12_drop : ByteArray := prog_14_method_66_code
def yX12_drop : MethodName := ⟨RX12, "drop", "(I)Z"⟩
abbrev cX12_set : ByteArray := prog_14_method_67_code
def yX12_set : MethodName := ⟨RX12, "set", "(II)Z"⟩
abbrev cX12_undo : ByteArray := prog_14_method_68_code
def yX12_undo : MethodName := ⟨RX12, "undo", "()Z"⟩
abbrev cX12_sumOf : ByteArray := prog_14_method_69_code
def yX12_sumOf : MethodName := ⟨RX12, "sumOf", "(II)I"⟩
abbrev cX12_leastOf : ByteArray := prog_14_method_70_code
def yX12_leastOf : MethodName := ⟨RX12, "leastOf", "(II)I"⟩
abbrev cX12_mostOf : ByteArray := prog_14_method_71_code
def yX12_mostOf : MethodName := ⟨RX12, "mostOf", "(II)I"⟩
abbrev cX12_window : ByteArray := prog_14_method_72_code
def yX12_window : MethodName := ⟨RX12, "window", "(III)I"⟩
abbrev cX12_level : ByteArray := prog_14_method_73_code
def yX12_level : MethodName := ⟨RX12, "level", "(III)I"⟩
abbrev cX12_flat : ByteArray := prog_14_method_74_code
def yX12_flat : MethodName := ⟨RX12, "flat", "(I)I"⟩
abbrev cX12_whole : ByteArray := prog_14_method_75_code
def yX12_whole : MethodName := ⟨RX12, "whole", "(I)I"⟩
abbrev cX12_distance : ByteArray := prog_14_method_76_code
def yX12_distance : MethodName := ⟨RX12, "distance", "(II)I"⟩
abbrev cX12_bound : ByteArray := prog_14_method_77_code
def yX12_bound : MethodName := ⟨RX12, "bound", "(III)I"⟩
abbrev cX12_look : ByteArray := prog_14_method_78_code
def yX12_look : MethodName := ⟨RX12, "look", "(IIII)I"⟩
abbrev cX12_alike : ByteArray := prog_14_method_79_code
def yX12_alike : MethodName := ⟨RX12, "alike", "(II)I"⟩
abbrev cX12_fillsWay : ByteArray := prog_14_method_80_code
def yX12_fillsWay : MethodName := ⟨RX12, "fillsWay", "()V"⟩
abbrev cX12_way : ByteArray := prog_14_method_81_code
def yX12_way : MethodName := ⟨RX12, "way", "(III)I"⟩
abbrev cX12_lean : ByteArray := prog_14_method_82_code
def yX12_lean : MethodName := ⟨RX12, "lean", "(III)I"⟩
abbrev cX12_fillsFar : ByteArray := prog_14_method_83_code
def yX12_fillsFar : MethodName := ⟨RX12, "fillsFar", "(I)V"⟩
abbrev cX12_bestWindow : ByteArray := prog_14_method_84_code
def yX12_bestWindow : MethodName := ⟨RX12, "bestWindow", "()I"⟩
abbrev cX12_best : ByteArray := prog_14_method_85_code
def yX12_best : MethodName := ⟨RX12, "best", "(II)I"⟩
abbrev cX12_needs : ByteArray := prog_14_method_86_code
def yX12_needs : MethodName := ⟨RX12, "needs", "(II)I"⟩
abbrev cX12_fillsSearch : ByteArray := prog_14_method_87_code
def yX12_fillsSearch : MethodName := ⟨RX12, "fillsSearch", "(I)V"⟩
abbrev cX12_search : ByteArray := prog_14_method_88_code
def yX12_search : MethodName := ⟨RX12, "search", "(II)I"⟩
abbrev cX12_isApart : ByteArray := prog_14_method_89_code
def yX12_isApart : MethodName := ⟨RX12, "isApart", "(I)Z"⟩
abbrev cX12_fillsMatches : ByteArray := prog_14_method_90_code
def yX12_fillsMatches : MethodName := ⟨RX12, "fillsMatches", "(I)V"⟩
abbrev cX12_match : ByteArray := prog_14_method_91_code
def yX12_match : MethodName := ⟨RX12, "match", "(III)I"⟩
abbrev cX12_within : ByteArray := prog_14_method_92_code
def yX12_within : MethodName := ⟨RX12, "within", "(II)I"⟩
abbrev cX12_cover : ByteArray := prog_14_method_93_code
def yX12_cover : MethodName := ⟨RX12, "cover", "(II)I"⟩
abbrev cX12_rankOf : ByteArray := prog_14_method_94_code
def yX12_rankOf : MethodName := ⟨RX12, "rankOf", "(I)I"⟩
abbrev cX12_rank : ByteArray := prog_14_method_95_code
def yX12_rank : MethodName := ⟨RX12, "rank", "(II)I"⟩
abbrev cX12_kth : ByteArray := prog_14_method_96_code
def yX12_kth : MethodName := ⟨RX12, "kth", "(III)I"⟩
abbrev cX12_greater : ByteArray := prog_14_method_97_code
def yX12_greater : MethodName := ⟨RX12, "greater", "(II)I"⟩
abbrev cX12_slack : ByteArray := prog_14_method_98_code
def yX12_slack : MethodName := ⟨RX12, "slack", "(I)I"⟩
abbrev cX12_turns : ByteArray := prog_14_method_99_code
def yX12_turns : MethodName := ⟨RX12, "turns", "(I)I"⟩
abbrev cX12_fired : ByteArray := prog_14_method_100_code
def yX12_fired : MethodName := ⟨RX12, "fired", "(I)I"⟩
abbrev cX12_whose : ByteArray := prog_14_method_101_code
def yX12_whose : MethodName := ⟨RX12, "whose", "(II)I"⟩
abbrev cX12_nearOf : ByteArray := prog_14_method_102_code
def yX12_nearOf : MethodName := ⟨RX12, "nearOf", "(II)I"⟩
abbrev cX12_near : ByteArray := prog_14_method_103_code
def yX12_near : MethodName := ⟨RX12, "near", "(III)I"⟩
abbrev cX12_pair : ByteArray := prog_14_method_104_code
def yX12_pair : MethodName := ⟨RX12, "pair", "(II)I"⟩
abbrev cX12_odd : ByteArray := prog_14_method_105_code
def yX12_odd : MethodName := ⟨RX12, "odd", "(II)I"⟩
abbrev cX12_hold : ByteArray := prog_14_method_106_code
def yX12_hold : MethodName := ⟨RX12, "hold", "(I)Z"⟩
abbrev cX12_restore : ByteArray := prog_14_method_107_code
def yX12_restore : MethodName := ⟨RX12, "restore", "(I)Z"⟩
abbrev cX12_gaps : ByteArray := prog_14_method_108_code
def yX12_gaps : MethodName := ⟨RX12, "gaps", "()I"⟩
abbrev cX12_count : ByteArray := prog_14_method_109_code
def yX12_count : MethodName := ⟨RX12, "count", "(I)I"⟩
def RJx8e188 : String := "java/lang/Cloneable"
def TJx8e188 : u_T := fun k => match k with
  | _ => ("", "", "", false)
def tyJx8e188 : Nat → FieldType := fun k => match k with
  | _ => .int
abbrev wsJx8e1880 : List Cond := u_ws RJx8e188 TJx8e188 0
theorem nmJx8e188 : ∀ a, a < 0 → ∀ b, b < 0 → a ≠ b → (TJx8e188 a).2.1 ≠ (TJx8e188 b).2.1 := by decide +kernel
theorem tyJx8e188_ok : ∀ k, k < 0 → parseFieldDescriptor (TJx8e188 k).2.2.1 = some (tyJx8e188 k) := by decide +kernel
def RJ9 : String := "java/lang/Math"
def TJ9 : u_T := fun k => match k with
  | _ => ("", "", "", false)
def tyJ9 : Nat → FieldType := fun k => match k with
  | _ => .int
abbrev wsJ90 : List Cond := u_ws RJ9 TJ9 0
theorem nmJ9 : ∀ a, a < 0 → ∀ b, b < 0 → a ≠ b → (TJ9 a).2.1 ≠ (TJ9 b).2.1 := by decide +kernel
theorem tyJ9_ok : ∀ k, k < 0 → parseFieldDescriptor (TJ9 k).2.2.1 = some (tyJ9 k) := by decide +kernel
abbrev cJ9_floorDiv_7cf53 : ByteArray := prog_16_method_47_code
def yJ9_floorDiv_7cf53 : MethodName := ⟨RJ9, "floorDiv", "(II)I"⟩
abbrev cJ9_abs_0f7a4 : ByteArray := prog_16_method_59_code
def yJ9_abs_0f7a4 : MethodName := ⟨RJ9, "abs", "(I)I"⟩
abbrev cJ9_max_7cf53 : ByteArray := prog_16_method_65_code
def yJ9_max_7cf53 : MethodName := ⟨RJ9, "max", "(II)I"⟩
abbrev cJ9_min_7cf53 : ByteArray := prog_16_method_69_code
def yJ9_min_7cf53 : MethodName := ⟨RJ9, "min", "(II)I"⟩
def RJ0 : String := "java/lang/String"
def TJ0 : u_T := fun k => match k with
  | _ => ("", "", "", false)
def tyJ0 : Nat → FieldType := fun k => match k with
  | _ => .int
abbrev wsJ00 : List Cond := u_ws RJ0 TJ0 0
theorem nmJ0 : ∀ a, a < 0 → ∀ b, b < 0 → a ≠ b → (TJ0 a).2.1 ≠ (TJ0 b).2.1 := by decide +kernel
theorem tyJ0_ok : ∀ k, k < 0 → parseFieldDescriptor (TJ0 k).2.2.1 = some (tyJ0 k) := by decide +kernel
abbrev cJ0_length_8abf5 : ByteArray := prog_17_method_54_code
def yJ0_length_8abf5 : MethodName := ⟨RJ0, "length", "()I"⟩
abbrev cJ0_charAt_5068e : ByteArray := prog_17_method_56_code
def yJ0_charAt_5068e : MethodName := ⟨RJ0, "charAt", "(I)C"⟩
abbrev cJ0_coder_7d493 : ByteArray := prog_17_method_152_code
def yJ0_coder_7d493 : MethodName := ⟨RJ0, "coder", "()B"⟩
abbrev cJ0_isLatin1_aae02 : ByteArray := prog_17_method_154_code
def yJ0_isLatin1_aae02 : MethodName := ⟨RJ0, "isLatin1", "()Z"⟩
abbrev cJ0_checkIndex_df160 : ByteArray := prog_17_method_155_code
def yJ0_checkIndex_df160 : MethodName := ⟨RJ0, "checkIndex", "(II)V"⟩
def RJ1 : String := "java/lang/StringLatin1"
def TJ1 : u_T := fun k => match k with
  | _ => ("", "", "", false)
def tyJ1 : Nat → FieldType := fun k => match k with
  | _ => .int
abbrev wsJ10 : List Cond := u_ws RJ1 TJ1 0
theorem nmJ1 : ∀ a, a < 0 → ∀ b, b < 0 → a ≠ b → (TJ1 a).2.1 ≠ (TJ1 b).2.1 := by decide +kernel
theorem tyJ1_ok : ∀ k, k < 0 → parseFieldDescriptor (TJ1 k).2.2.1 = some (tyJ1 k) := by decide +kernel
abbrev cJ1_charAt_3b067 : ByteArray := prog_18_method_2_code
def yJ1_charAt_3b067 : MethodName := ⟨RJ1, "charAt", "([BI)C"⟩
def RJ2 : String := "java/lang/StringUTF16"
def TJ2 : u_T := fun k => match k with
  | _ => ("", "", "", false)
def tyJ2 : Nat → FieldType := fun k => match k with
  | _ => .int
abbrev wsJ20 : List Cond := u_ws RJ2 TJ2 0
theorem nmJ2 : ∀ a, a < 0 → ∀ b, b < 0 → a ≠ b → (TJ2 a).2.1 ≠ (TJ2 b).2.1 := by decide +kernel
theorem tyJ2_ok : ∀ k, k < 0 → parseFieldDescriptor (TJ2 k).2.2.1 = some (tyJ2 k) := by decide +kernel
abbrev cJ2_getChar_3b067 : ByteArray := prog_19_method_5_code
def yJ2_getChar_3b067 : MethodName := ⟨RJ2, "getChar", "([BI)C"⟩
abbrev cJ2_length_9d52b : ByteArray := prog_19_method_6_code
def yJ2_length_9d52b : MethodName := ⟨RJ2, "length", "([B)I"⟩
abbrev cJ2_charAt_3b067 : ByteArray := prog_19_method_83_code
def yJ2_charAt_3b067 : MethodName := ⟨RJ2, "charAt", "([BI)C"⟩
abbrev cJ2_checkIndex_2214a : ByteArray := prog_19_method_91_code
def yJ2_checkIndex_2214a : MethodName := ⟨RJ2, "checkIndex", "(I[B)V"⟩
def RJ3 : String := "jdk/internal/util/Preconditions"
def TJ3 : u_T := fun k => match k with
  | _ => ("", "", "", false)
def tyJ3 : Nat → FieldType := fun k => match k with
  | _ => .int
abbrev wsJ30 : List Cond := u_ws RJ3 TJ3 0
theorem nmJ3 : ∀ a, a < 0 → ∀ b, b < 0 → a ≠ b → (TJ3 a).2.1 ≠ (TJ3 b).2.1 := by decide +kernel
theorem tyJ3_ok : ∀ k, k < 0 → parseFieldDescriptor (TJ3 k).2.2.1 = some (tyJ3 k) := by decide +kernel
abbrev cJ3_checkIndex_8e157 : ByteArray := prog_20_method_11_code
def yJ3_checkIndex_8e157 : MethodName := ⟨RJ3, "checkIndex", "(IILjava/util/function/BiFunction;)I"⟩
def RL : String := "WarpDeskLaw"
abbrev cL_law : ByteArray := code
def yL_law : MethodName := ⟨RL, "law", "([I)Z"⟩
abbrev vwCl : List vw_C := [(RX0, TX0, 5), (RX1, TX1, 11), (RX2, TX2, 10), (RX3, TX3, 5), (RX4, TX4, 3), (RX5, TX5, 13), (RX6, TX6, 3), (RX7, TX7, 1), (RX8, TX8, 4), (RX9, TX9, 11), (RX10, TX10, 7), (RX11, TX11, 10), (RX12, TX12, 55)]
end
section
theorem zw_0 : Cond.selects RX5 yX5_begin yX5_begin ∈ lw_tbl := List.mem_of_getElem? (i := 0) (by decide +kernel)
theorem zw_1 : Cond.selects RX10 yX10_behindBlanks yX10_behindBlanks ∈ lw_tbl := List.mem_of_getElem? (i := 1) (by decide +kernel)
theorem zw_2 : Cond.selects RX10 yX10_byteAt yX10_byteAt ∈ lw_tbl := List.mem_of_getElem? (i := 2) (by decide +kernel)
theorem zw_22 : Cond.selects RX11 yX11_goOnFrom yX11_goOnFrom ∈ lw_tbl := List.mem_of_getElem? (i := 22) (by decide +kernel)
theorem zw_23 : Cond.selects RX11 yX11_appendPlace yX11_appendPlace ∈ lw_tbl := List.mem_of_getElem? (i := 23) (by decide +kernel)
theorem zw_39 : Cond.selects RX9 yX9_bringAll yX9_bringAll ∈ lw_tbl := List.mem_of_getElem? (i := 39) (by decide +kernel)
theorem zw_43 : Cond.selects RX11 yX11_slotsHeld yX11_slotsHeld ∈ lw_tbl := List.mem_of_getElem? (i := 43) (by decide +kernel)
theorem zw_44 : Cond.selects RX12 yX12_plain yX12_plain ∈ lw_tbl := List.mem_of_getElem? (i := 44) (by decide +kernel)
theorem zw_45 : Cond.selects RX12 yX12_begins yX12_begins ∈ lw_tbl := List.mem_of_getElem? (i := 45) (by decide +kernel)
theorem zw_46 : Cond.selects RX12 yX12_keepsRow yX12_keepsRow ∈ lw_tbl := List.mem_of_getElem? (i := 46) (by decide +kernel)
theorem zw_47 : Cond.selects RX12 yX12_lays yX12_lays ∈ lw_tbl := List.mem_of_getElem? (i := 47) (by decide +kernel)
theorem zw_48 : Cond.selects RX12 yX12_cut yX12_cut ∈ lw_tbl := List.mem_of_getElem? (i := 48) (by decide +kernel)
theorem zw_49 : Cond.selects RX12 yX12_byteAt yX12_byteAt ∈ lw_tbl := List.mem_of_getElem? (i := 49) (by decide +kernel)
theorem zw_50 : Cond.selects RX12 yX12_token yX12_token ∈ lw_tbl := List.mem_of_getElem? (i := 50) (by decide +kernel)
theorem zw_52 : Cond.selects RX12 yX12_is yX12_is ∈ lw_tbl := List.mem_of_getElem? (i := 52) (by decide +kernel)
theorem zw_65 : Cond.selects RX12 yX12_isThere yX12_isThere ∈ lw_tbl := List.mem_of_getElem? (i := 65) (by decide +kernel)
theorem zw_66 : Cond.selects RX12 yX12_isPlace yX12_isPlace ∈ lw_tbl := List.mem_of_getElem? (i := 66) (by decide +kernel)
theorem zw_67 : Cond.selects RX12 yX12_isQuery yX12_isQuery ∈ lw_tbl := List.mem_of_getElem? (i := 67) (by decide +kernel)
theorem zw_69 : Cond.selects RX12 yX12_comes yX12_comes ∈ lw_tbl := List.mem_of_getElem? (i := 69) (by decide +kernel)
theorem zw_70 : Cond.selects RX12 yX12_copies yX12_copies ∈ lw_tbl := List.mem_of_getElem? (i := 70) (by decide +kernel)
theorem zw_71 : Cond.selects RX12 yX12_records yX12_records ∈ lw_tbl := List.mem_of_getElem? (i := 71) (by decide +kernel)
theorem zw_72 : Cond.selects RX12 yX12_isWindow yX12_isWindow ∈ lw_tbl := List.mem_of_getElem? (i := 72) (by decide +kernel)
theorem zw_78 : Cond.selects RX12 yX12_isOf yX12_isOf ∈ lw_tbl := List.mem_of_getElem? (i := 78) (by decide +kernel)
theorem zw_101 : Cond.selects RX12 yX12_gaps yX12_gaps ∈ lw_tbl := List.mem_of_getElem? (i := 101) (by decide +kernel)
theorem zw_103 : Cond.initialized RX11 ∈ lw_tbl := List.mem_of_getElem? (i := 103) (by decide +kernel)
theorem zw_104 : Cond.initialized RX10 ∈ lw_tbl := List.mem_of_getElem? (i := 104) (by decide +kernel)
theorem zw_105 : Cond.initialized RX5 ∈ lw_tbl := List.mem_of_getElem? (i := 105) (by decide +kernel)
theorem zw_106 : Cond.initialized RX8 ∈ lw_tbl := List.mem_of_getElem? (i := 106) (by decide +kernel)
theorem zw_107 : Cond.initialized RX7 ∈ lw_tbl := List.mem_of_getElem? (i := 107) (by decide +kernel)
theorem zw_108 : Cond.initialized RX4 ∈ lw_tbl := List.mem_of_getElem? (i := 108) (by decide +kernel)
theorem zw_109 : Cond.initialized RX6 ∈ lw_tbl := List.mem_of_getElem? (i := 109) (by decide +kernel)
theorem zw_110 : Cond.initialized RX3 ∈ lw_tbl := List.mem_of_getElem? (i := 110) (by decide +kernel)
theorem zw_111 : Cond.initialized RX0 ∈ lw_tbl := List.mem_of_getElem? (i := 111) (by decide +kernel)
theorem zw_112 : Cond.initialized RX2 ∈ lw_tbl := List.mem_of_getElem? (i := 112) (by decide +kernel)
theorem zw_113 : Cond.initialized RX1 ∈ lw_tbl := List.mem_of_getElem? (i := 113) (by decide +kernel)
theorem zw_114 : Cond.initialized RX9 ∈ lw_tbl := List.mem_of_getElem? (i := 114) (by decide +kernel)
theorem zw_115 : Cond.initialized RX12 ∈ lw_tbl := List.mem_of_getElem? (i := 115) (by decide +kernel)
theorem zw_120 : Cond.initialized "java/lang/Math" ∈ lw_tbl := List.mem_of_getElem? (i := 120) (by decide +kernel)
theorem zw_121 : Cond.classLink RL 7 RX11 ∈ lw_tbl := List.mem_of_getElem? (i := 121) (by decide +kernel)
theorem zw_122 : Cond.instantiable RX11 10 ∈ lw_tbl := List.mem_of_getElem? (i := 122) (by decide +kernel)
theorem zw_123 : Cond.methodLink RL 9 yX11_init ∈ lw_tbl := List.mem_of_getElem? (i := 123) (by decide +kernel)
theorem zw_124 : Cond.instanceMethod yX11_init ∈ lw_tbl := List.mem_of_getElem? (i := 124) (by decide +kernel)
theorem zw_125 : Cond.code yX11_init cX11_init 1 none ∈ lw_tbl := List.mem_of_getElem? (i := 125) (by decide +kernel)
theorem zw_126 : Cond.methodLink RX11 1 objectInit ∈ lw_tbl := List.mem_of_getElem? (i := 126) (by decide +kernel)
theorem zw_127 : Cond.instanceMethod objectInit ∈ lw_tbl := List.mem_of_getElem? (i := 127) (by decide +kernel)
theorem zw_128 : Cond.code objectInit ⟨#[0xb1]⟩ 1 none ∈ lw_tbl := List.mem_of_getElem? (i := 128) (by decide +kernel)
theorem zw_129 : Cond.classLink RX11 7 RX10 ∈ lw_tbl := List.mem_of_getElem? (i := 129) (by decide +kernel)
theorem zw_130 : Cond.instantiable RX10 7 ∈ lw_tbl := List.mem_of_getElem? (i := 130) (by decide +kernel)
theorem zw_132 : Cond.instanceMethod yX10_init ∈ lw_tbl := List.mem_of_getElem? (i := 132) (by decide +kernel)
theorem zw_133 : Cond.code yX10_init cX10_init 1 none ∈ lw_tbl := List.mem_of_getElem? (i := 133) (by decide +kernel)
theorem zw_134 : Cond.methodLink RX10 3 objectInit ∈ lw_tbl := List.mem_of_getElem? (i := 134) (by decide +kernel)
theorem zw_135 : Cond.fieldLink RX10 9 "WarpDesk$Tape" "bytes" "[I" ∈ lw_tbl := List.mem_of_getElem? (i := 135) (by decide +kernel)
theorem zw_136 : Cond.fieldLink RX11 85 "WarpDesk$Tape" "size" "I" ∈ lw_tbl := List.mem_of_getElem? (i := 136) (by decide +kernel)
theorem zw_137 : Cond.fieldLink RX10 15 "WarpDesk$Tape" "size" "I" ∈ lw_tbl := List.mem_of_getElem? (i := 137) (by decide +kernel)
theorem zw_138 : Cond.fieldLink RX5 53 "WarpDesk$Tape" "kind" "I" ∈ lw_tbl := List.mem_of_getElem? (i := 138) (by decide +kernel)
theorem zw_139 : Cond.fieldLink RX10 41 "WarpDesk$Tape" "kind" "I" ∈ lw_tbl := List.mem_of_getElem? (i := 139) (by decide +kernel)
theorem zw_140 : Cond.fieldLink RX10 32 "WarpDesk$Tape" "start" "I" ∈ lw_tbl := List.mem_of_getElem? (i := 140) (by decide +kernel)
theorem zw_142 : Cond.fieldLink RX10 35 "WarpDesk$Tape" "value" "I" ∈ lw_tbl := List.mem_of_getElem? (i := 142) (by decide +kernel)
theorem zw_144 : Cond.fieldLink RX10 22 "WarpDesk$Tape" "number" "I" ∈ lw_tbl := List.mem_of_getElem? (i := 144) (by decide +kernel)
theorem zw_146 : Cond.fieldLink RX10 19 "WarpDesk$Tape" "behind" "I" ∈ lw_tbl := List.mem_of_getElem? (i := 146) (by decide +kernel)
theorem zw_162 : Cond.arrayClass .int ∈ lw_tbl := List.mem_of_getElem? (i := 162) (by decide +kernel)
theorem zw_163 : Cond.classLink RX11 16 RX5 ∈ lw_tbl := List.mem_of_getElem? (i := 163) (by decide +kernel)
theorem zw_164 : Cond.instantiable RX5 13 ∈ lw_tbl := List.mem_of_getElem? (i := 164) (by decide +kernel)
theorem zw_165 : Cond.methodLink RX11 18 yX5_init ∈ lw_tbl := List.mem_of_getElem? (i := 165) (by decide +kernel)
theorem zw_166 : Cond.instanceMethod yX5_init ∈ lw_tbl := List.mem_of_getElem? (i := 166) (by decide +kernel)
theorem zw_167 : Cond.code yX5_init cX5_init 2 none ∈ lw_tbl := List.mem_of_getElem? (i := 167) (by decide +kernel)
theorem zw_168 : Cond.methodLink RX5 3 objectInit ∈ lw_tbl := List.mem_of_getElem? (i := 168) (by decide +kernel)
theorem zw_169 : Cond.classLink RX5 9 RX8 ∈ lw_tbl := List.mem_of_getElem? (i := 169) (by decide +kernel)
theorem zw_170 : Cond.instantiable RX8 4 ∈ lw_tbl := List.mem_of_getElem? (i := 170) (by decide +kernel)
theorem zw_172 : Cond.instanceMethod yX8_init ∈ lw_tbl := List.mem_of_getElem? (i := 172) (by decide +kernel)
theorem zw_173 : Cond.code yX8_init cX8_init 1 none ∈ lw_tbl := List.mem_of_getElem? (i := 173) (by decide +kernel)
theorem zw_174 : Cond.methodLink RX8 3 objectInit ∈ lw_tbl := List.mem_of_getElem? (i := 174) (by decide +kernel)
theorem zw_175 : Cond.classLink RX8 15 RX7 ∈ lw_tbl := List.mem_of_getElem? (i := 175) (by decide +kernel)
theorem zw_176 : Cond.instantiable RX7 1 ∈ lw_tbl := List.mem_of_getElem? (i := 176) (by decide +kernel)
theorem zw_178 : Cond.instanceMethod yX7_init ∈ lw_tbl := List.mem_of_getElem? (i := 178) (by decide +kernel)
theorem zw_179 : Cond.code yX7_init cX7_init 1 none ∈ lw_tbl := List.mem_of_getElem? (i := 179) (by decide +kernel)
theorem zw_180 : Cond.methodLink RX7 3 objectInit ∈ lw_tbl := List.mem_of_getElem? (i := 180) (by decide +kernel)
theorem zw_181 : Cond.fieldLink RX7 9 "WarpDesk$Settings" "UNTOLD" "[I" ∈ lw_tbl := List.mem_of_getElem? (i := 181) (by decide +kernel)
theorem zw_183 : Cond.methodLink RX7 15 ⟨"[I", "clone", "()Ljava/lang/Object;"⟩ ∈ lw_tbl := List.mem_of_getElem? (i := 183) (by decide +kernel)
theorem zw_184 : Cond.sameMethod "[I" "java/lang/Object" "clone" "()Ljava/lang/Object;" ∈ lw_tbl := List.mem_of_getElem? (i := 184) (by decide +kernel)
theorem zw_185 : Cond.native ⟨"java/lang/Object", "clone", "()Ljava/lang/Object;"⟩ ∈ lw_tbl := List.mem_of_getElem? (i := 185) (by decide +kernel)
theorem zw_186 : Cond.instanceMethod ⟨"java/lang/Object", "clone", "()Ljava/lang/Object;"⟩ ∈ lw_tbl := List.mem_of_getElem? (i := 186) (by decide +kernel)
theorem zw_187 : Cond.selects "[I" ⟨"[I", "clone", "()Ljava/lang/Object;"⟩ ⟨"java/lang/Object", "clone", "()Ljava/lang/Object;"⟩ ∈ lw_tbl := List.mem_of_getElem? (i := 187) (by decide +kernel)
theorem zw_189 : Cond.classLink RX7 16 "[I" ∈ lw_tbl := List.mem_of_getElem? (i := 189) (by decide +kernel)
theorem zw_190 : Cond.fieldLink RX7 20 "WarpDesk$Settings" "values" "[I" ∈ lw_tbl := List.mem_of_getElem? (i := 190) (by decide +kernel)
theorem zw_194 : Cond.fieldLink RX8 9 "WarpDesk$Stand" "places" "[I" ∈ lw_tbl := List.mem_of_getElem? (i := 194) (by decide +kernel)
theorem zw_195 : Cond.fieldLink RX8 22 "WarpDesk$Stand" "size" "I" ∈ lw_tbl := List.mem_of_getElem? (i := 195) (by decide +kernel)
theorem zw_196 : Cond.fieldLink RX6 22 "WarpDesk$Stand" "size" "I" ∈ lw_tbl := List.mem_of_getElem? (i := 196) (by decide +kernel)
theorem zw_198 : Cond.fieldLink RX8 18 "WarpDesk$Stand" "settings" "LWarpDesk$Settings;" ∈ lw_tbl := List.mem_of_getElem? (i := 198) (by decide +kernel)
theorem zw_200 : Cond.fieldLink RX11 365 "WarpDesk$Stand" "settings" "LWarpDesk$Settings;" ∈ lw_tbl := List.mem_of_getElem? (i := 200) (by decide +kernel)
theorem zw_201 : Cond.fieldLink RX11 110 "WarpDesk$Stand" "held" "Z" ∈ lw_tbl := List.mem_of_getElem? (i := 201) (by decide +kernel)
theorem zw_211 : Cond.classLink RX5 18 RX4 ∈ lw_tbl := List.mem_of_getElem? (i := 211) (by decide +kernel)
theorem zw_212 : Cond.instantiable RX4 3 ∈ lw_tbl := List.mem_of_getElem? (i := 212) (by decide +kernel)
theorem zw_214 : Cond.instanceMethod yX4_init ∈ lw_tbl := List.mem_of_getElem? (i := 214) (by decide +kernel)
theorem zw_215 : Cond.code yX4_init cX4_init 1 none ∈ lw_tbl := List.mem_of_getElem? (i := 215) (by decide +kernel)
theorem zw_216 : Cond.methodLink RX4 3 objectInit ∈ lw_tbl := List.mem_of_getElem? (i := 216) (by decide +kernel)
theorem zw_217 : Cond.fieldLink RX4 9 "WarpDesk$Queries" "readings" "[I" ∈ lw_tbl := List.mem_of_getElem? (i := 217) (by decide +kernel)
theorem zw_218 : Cond.fieldLink RX4 15 "WarpDesk$Queries" "lengths" "[I" ∈ lw_tbl := List.mem_of_getElem? (i := 218) (by decide +kernel)
theorem zw_219 : Cond.fieldLink RX4 18 "WarpDesk$Queries" "size" "I" ∈ lw_tbl := List.mem_of_getElem? (i := 219) (by decide +kernel)
theorem zw_220 : Cond.fieldLink RX5 84 "WarpDesk$Queries" "size" "I" ∈ lw_tbl := List.mem_of_getElem? (i := 220) (by decide +kernel)
theorem zw_221 : Cond.fieldLink RX1 161 "WarpDesk$Queries" "size" "I" ∈ lw_tbl := List.mem_of_getElem? (i := 221) (by decide +kernel)
theorem zw_222 : Cond.fieldLink RX11 377 "WarpDesk$Queries" "size" "I" ∈ lw_tbl := List.mem_of_getElem? (i := 222) (by decide +kernel)
theorem zw_230 : Cond.fieldLink RX5 42 "WarpDesk$Reader" "tape" "LWarpDesk$Tape;" ∈ lw_tbl := List.mem_of_getElem? (i := 230) (by decide +kernel)
theorem zw_231 : Cond.fieldLink RX5 12 "WarpDesk$Reader" "draft" "LWarpDesk$Stand;" ∈ lw_tbl := List.mem_of_getElem? (i := 231) (by decide +kernel)
theorem zw_232 : Cond.fieldLink RX11 102 "WarpDesk$Reader" "draft" "LWarpDesk$Stand;" ∈ lw_tbl := List.mem_of_getElem? (i := 232) (by decide +kernel)
theorem zw_233 : Cond.fieldLink RX5 21 "WarpDesk$Reader" "queries" "LWarpDesk$Queries;" ∈ lw_tbl := List.mem_of_getElem? (i := 233) (by decide +kernel)
theorem zw_234 : Cond.fieldLink RX11 97 "WarpDesk$Reader" "queries" "LWarpDesk$Queries;" ∈ lw_tbl := List.mem_of_getElem? (i := 234) (by decide +kernel)
theorem zw_235 : Cond.fieldLink RX5 25 "WarpDesk$Reader" "nameStarts" "[I" ∈ lw_tbl := List.mem_of_getElem? (i := 235) (by decide +kernel)
theorem zw_236 : Cond.fieldLink RX5 29 "WarpDesk$Reader" "nameLengths" "[I" ∈ lw_tbl := List.mem_of_getElem? (i := 236) (by decide +kernel)
theorem zw_237 : Cond.fieldLink RX5 75 "WarpDesk$Reader" "state" "I" ∈ lw_tbl := List.mem_of_getElem? (i := 237) (by decide +kernel)
theorem zw_239 : Cond.fieldLink RX5 87 "WarpDesk$Reader" "isNegative" "Z" ∈ lw_tbl := List.mem_of_getElem? (i := 239) (by decide +kernel)
theorem zw_240 : Cond.fieldLink RX5 32 "WarpDesk$Reader" "told" "I" ∈ lw_tbl := List.mem_of_getElem? (i := 240) (by decide +kernel)
theorem zw_241 : Cond.fieldLink RX5 49 "WarpDesk$Reader" "isStopped" "Z" ∈ lw_tbl := List.mem_of_getElem? (i := 241) (by decide +kernel)
theorem zw_242 : Cond.fieldLink RX5 78 "WarpDesk$Reader" "fault" "I" ∈ lw_tbl := List.mem_of_getElem? (i := 242) (by decide +kernel)
theorem zw_243 : Cond.fieldLink RX5 36 "WarpDesk$Reader" "faultPlace" "I" ∈ lw_tbl := List.mem_of_getElem? (i := 243) (by decide +kernel)
theorem zw_244 : Cond.fieldLink RX11 114 "WarpDesk$Reader" "faultPlace" "I" ∈ lw_tbl := List.mem_of_getElem? (i := 244) (by decide +kernel)
theorem zw_245 : Cond.fieldLink RX5 39 "WarpDesk$Reader" "faultCause" "I" ∈ lw_tbl := List.mem_of_getElem? (i := 245) (by decide +kernel)
theorem zw_246 : Cond.fieldLink RX11 117 "WarpDesk$Reader" "faultCause" "I" ∈ lw_tbl := List.mem_of_getElem? (i := 246) (by decide +kernel)
theorem zw_274 : Cond.classLink RX11 25 RX6 ∈ lw_tbl := List.mem_of_getElem? (i := 274) (by decide +kernel)
theorem zw_275 : Cond.instantiable RX6 3 ∈ lw_tbl := List.mem_of_getElem? (i := 275) (by decide +kernel)
theorem zw_277 : Cond.instanceMethod yX6_init ∈ lw_tbl := List.mem_of_getElem? (i := 277) (by decide +kernel)
theorem zw_278 : Cond.code yX6_init cX6_init 1 none ∈ lw_tbl := List.mem_of_getElem? (i := 278) (by decide +kernel)
theorem zw_279 : Cond.methodLink RX6 5 objectInit ∈ lw_tbl := List.mem_of_getElem? (i := 279) (by decide +kernel)
theorem zw_280 : Cond.fieldLink RX6 11 "WarpDesk$Series" "ring" "[I" ∈ lw_tbl := List.mem_of_getElem? (i := 280) (by decide +kernel)
theorem zw_281 : Cond.fieldLink RX6 15 "WarpDesk$Series" "first" "I" ∈ lw_tbl := List.mem_of_getElem? (i := 281) (by decide +kernel)
theorem zw_282 : Cond.fieldLink RX6 19 "WarpDesk$Series" "size" "I" ∈ lw_tbl := List.mem_of_getElem? (i := 282) (by decide +kernel)
theorem zw_284 : Cond.fieldLink RX11 138 "WarpDesk$Series" "size" "I" ∈ lw_tbl := List.mem_of_getElem? (i := 284) (by decide +kernel)
theorem zw_292 : Cond.classLink RX11 32 RX4 ∈ lw_tbl := List.mem_of_getElem? (i := 292) (by decide +kernel)
theorem zw_294 : Cond.classLink RX11 39 RX7 ∈ lw_tbl := List.mem_of_getElem? (i := 294) (by decide +kernel)
theorem zw_296 : Cond.classLink RX11 46 RX3 ∈ lw_tbl := List.mem_of_getElem? (i := 296) (by decide +kernel)
theorem zw_297 : Cond.instantiable RX3 5 ∈ lw_tbl := List.mem_of_getElem? (i := 297) (by decide +kernel)
theorem zw_299 : Cond.instanceMethod yX3_init ∈ lw_tbl := List.mem_of_getElem? (i := 299) (by decide +kernel)
theorem zw_300 : Cond.code yX3_init cX3_init 1 none ∈ lw_tbl := List.mem_of_getElem? (i := 300) (by decide +kernel)
theorem zw_301 : Cond.methodLink RX3 1 objectInit ∈ lw_tbl := List.mem_of_getElem? (i := 301) (by decide +kernel)
theorem zw_302 : Cond.fieldLink RX3 9 "WarpDesk$Past" "kinds" "[I" ∈ lw_tbl := List.mem_of_getElem? (i := 302) (by decide +kernel)
theorem zw_303 : Cond.fieldLink RX3 13 "WarpDesk$Past" "firsts" "[I" ∈ lw_tbl := List.mem_of_getElem? (i := 303) (by decide +kernel)
theorem zw_304 : Cond.fieldLink RX3 16 "WarpDesk$Past" "seconds" "[I" ∈ lw_tbl := List.mem_of_getElem? (i := 304) (by decide +kernel)
theorem zw_305 : Cond.fieldLink RX3 23 "WarpDesk$Past" "next" "I" ∈ lw_tbl := List.mem_of_getElem? (i := 305) (by decide +kernel)
theorem zw_306 : Cond.fieldLink RX3 19 "WarpDesk$Past" "size" "I" ∈ lw_tbl := List.mem_of_getElem? (i := 306) (by decide +kernel)
theorem zw_307 : Cond.fieldLink RX11 381 "WarpDesk$Past" "size" "I" ∈ lw_tbl := List.mem_of_getElem? (i := 307) (by decide +kernel)
theorem zw_319 : Cond.classLink RX11 53 RX8 ∈ lw_tbl := List.mem_of_getElem? (i := 319) (by decide +kernel)
theorem zw_322 : Cond.classLink RX11 60 RX0 ∈ lw_tbl := List.mem_of_getElem? (i := 322) (by decide +kernel)
theorem zw_323 : Cond.instantiable RX0 5 ∈ lw_tbl := List.mem_of_getElem? (i := 323) (by decide +kernel)
theorem zw_324 : Cond.methodLink RX11 62 yX0_init ∈ lw_tbl := List.mem_of_getElem? (i := 324) (by decide +kernel)
theorem zw_325 : Cond.instanceMethod yX0_init ∈ lw_tbl := List.mem_of_getElem? (i := 325) (by decide +kernel)
theorem zw_326 : Cond.code yX0_init cX0_init 4 none ∈ lw_tbl := List.mem_of_getElem? (i := 326) (by decide +kernel)
theorem zw_327 : Cond.methodLink RX0 3 objectInit ∈ lw_tbl := List.mem_of_getElem? (i := 327) (by decide +kernel)
theorem zw_328 : Cond.classLink RX0 9 RX2 ∈ lw_tbl := List.mem_of_getElem? (i := 328) (by decide +kernel)
theorem zw_329 : Cond.instantiable RX2 10 ∈ lw_tbl := List.mem_of_getElem? (i := 329) (by decide +kernel)
theorem zw_331 : Cond.instanceMethod yX2_init ∈ lw_tbl := List.mem_of_getElem? (i := 331) (by decide +kernel)
theorem zw_332 : Cond.code yX2_init cX2_init 1 none ∈ lw_tbl := List.mem_of_getElem? (i := 332) (by decide +kernel)
theorem zw_333 : Cond.methodLink RX2 3 objectInit ∈ lw_tbl := List.mem_of_getElem? (i := 333) (by decide +kernel)
theorem zw_334 : Cond.fieldLink RX2 9 "WarpDesk$Fit" "left" "[I" ∈ lw_tbl := List.mem_of_getElem? (i := 334) (by decide +kernel)
theorem zw_337 : Cond.fieldLink RX2 15 "WarpDesk$Fit" "right" "[I" ∈ lw_tbl := List.mem_of_getElem? (i := 337) (by decide +kernel)
theorem zw_339 : Cond.fieldLink RX2 18 "WarpDesk$Fit" "table" "[I" ∈ lw_tbl := List.mem_of_getElem? (i := 339) (by decide +kernel)
theorem zw_340 : Cond.fieldLink RX2 21 "WarpDesk$Fit" "steps" "[I" ∈ lw_tbl := List.mem_of_getElem? (i := 340) (by decide +kernel)
theorem zw_343 : Cond.fieldLink RX2 24 "WarpDesk$Fit" "length" "I" ∈ lw_tbl := List.mem_of_getElem? (i := 343) (by decide +kernel)
theorem zw_373 : Cond.fieldLink RX0 18 "WarpDesk$Bench" "series" "LWarpDesk$Series;" ∈ lw_tbl := List.mem_of_getElem? (i := 373) (by decide +kernel)
theorem zw_374 : Cond.fieldLink RX1 32 "WarpDesk$Bench" "series" "LWarpDesk$Series;" ∈ lw_tbl := List.mem_of_getElem? (i := 374) (by decide +kernel)
theorem zw_375 : Cond.fieldLink RX9 30 "WarpDesk$Bench" "series" "LWarpDesk$Series;" ∈ lw_tbl := List.mem_of_getElem? (i := 375) (by decide +kernel)
theorem zw_376 : Cond.fieldLink RX0 22 "WarpDesk$Bench" "queries" "LWarpDesk$Queries;" ∈ lw_tbl := List.mem_of_getElem? (i := 376) (by decide +kernel)
theorem zw_377 : Cond.fieldLink RX1 39 "WarpDesk$Bench" "queries" "LWarpDesk$Queries;" ∈ lw_tbl := List.mem_of_getElem? (i := 377) (by decide +kernel)
theorem zw_378 : Cond.fieldLink RX0 26 "WarpDesk$Bench" "settings" "LWarpDesk$Settings;" ∈ lw_tbl := List.mem_of_getElem? (i := 378) (by decide +kernel)
theorem zw_380 : Cond.fieldLink RX0 12 "WarpDesk$Bench" "fit" "LWarpDesk$Fit;" ∈ lw_tbl := List.mem_of_getElem? (i := 380) (by decide +kernel)
theorem zw_381 : Cond.fieldLink RX9 23 "WarpDesk$Bench" "fit" "LWarpDesk$Fit;" ∈ lw_tbl := List.mem_of_getElem? (i := 381) (by decide +kernel)
theorem zw_396 : Cond.classLink RX11 69 RX1 ∈ lw_tbl := List.mem_of_getElem? (i := 396) (by decide +kernel)
theorem zw_397 : Cond.instantiable RX1 11 ∈ lw_tbl := List.mem_of_getElem? (i := 397) (by decide +kernel)
theorem zw_398 : Cond.methodLink RX11 71 yX1_init ∈ lw_tbl := List.mem_of_getElem? (i := 398) (by decide +kernel)
theorem zw_399 : Cond.instanceMethod yX1_init ∈ lw_tbl := List.mem_of_getElem? (i := 399) (by decide +kernel)
theorem zw_400 : Cond.code yX1_init cX1_init 2 none ∈ lw_tbl := List.mem_of_getElem? (i := 400) (by decide +kernel)
theorem zw_401 : Cond.methodLink RX1 3 objectInit ∈ lw_tbl := List.mem_of_getElem? (i := 401) (by decide +kernel)
theorem zw_402 : Cond.fieldLink RX1 28 "WarpDesk$Finder" "bench" "LWarpDesk$Bench;" ∈ lw_tbl := List.mem_of_getElem? (i := 402) (by decide +kernel)
theorem zw_403 : Cond.fieldLink RX1 38 "WarpDesk$Finder" "series" "LWarpDesk$Series;" ∈ lw_tbl := List.mem_of_getElem? (i := 403) (by decide +kernel)
theorem zw_404 : Cond.fieldLink RX1 43 "WarpDesk$Finder" "queries" "LWarpDesk$Queries;" ∈ lw_tbl := List.mem_of_getElem? (i := 404) (by decide +kernel)
theorem zw_405 : Cond.fieldLink RX1 11 "WarpDesk$Finder" "tally" "[I" ∈ lw_tbl := List.mem_of_getElem? (i := 405) (by decide +kernel)
theorem zw_411 : Cond.fieldLink RX1 15 "WarpDesk$Finder" "distances" "[I" ∈ lw_tbl := List.mem_of_getElem? (i := 411) (by decide +kernel)
theorem zw_412 : Cond.fieldLink RX1 18 "WarpDesk$Finder" "matchWindows" "[I" ∈ lw_tbl := List.mem_of_getElem? (i := 412) (by decide +kernel)
theorem zw_413 : Cond.fieldLink RX1 21 "WarpDesk$Finder" "matchDistances" "[I" ∈ lw_tbl := List.mem_of_getElem? (i := 413) (by decide +kernel)
theorem zw_415 : Cond.fieldLink RX1 24 "WarpDesk$Finder" "covered" "[Z" ∈ lw_tbl := List.mem_of_getElem? (i := 415) (by decide +kernel)
theorem zw_439 : Cond.arrayClass .boolean ∈ lw_tbl := List.mem_of_getElem? (i := 439) (by decide +kernel)
theorem zw_440 : Cond.classLink RX11 78 RX9 ∈ lw_tbl := List.mem_of_getElem? (i := 440) (by decide +kernel)
theorem zw_441 : Cond.instantiable RX9 11 ∈ lw_tbl := List.mem_of_getElem? (i := 441) (by decide +kernel)
theorem zw_442 : Cond.methodLink RX11 80 yX9_init ∈ lw_tbl := List.mem_of_getElem? (i := 442) (by decide +kernel)
theorem zw_443 : Cond.instanceMethod yX9_init ∈ lw_tbl := List.mem_of_getElem? (i := 443) (by decide +kernel)
theorem zw_444 : Cond.code yX9_init cX9_init 2 none ∈ lw_tbl := List.mem_of_getElem? (i := 444) (by decide +kernel)
theorem zw_445 : Cond.methodLink RX9 3 objectInit ∈ lw_tbl := List.mem_of_getElem? (i := 445) (by decide +kernel)
theorem zw_446 : Cond.fieldLink RX9 19 "WarpDesk$Stretches" "bench" "LWarpDesk$Bench;" ∈ lw_tbl := List.mem_of_getElem? (i := 446) (by decide +kernel)
theorem zw_447 : Cond.fieldLink RX9 29 "WarpDesk$Stretches" "fit" "LWarpDesk$Fit;" ∈ lw_tbl := List.mem_of_getElem? (i := 447) (by decide +kernel)
theorem zw_448 : Cond.fieldLink RX9 9 "WarpDesk$Stretches" "rows" "[I" ∈ lw_tbl := List.mem_of_getElem? (i := 448) (by decide +kernel)
theorem zw_449 : Cond.fieldLink RX9 15 "WarpDesk$Stretches" "isThere" "[Z" ∈ lw_tbl := List.mem_of_getElem? (i := 449) (by decide +kernel)
theorem zw_454 : Cond.fieldLink RX9 86 "WarpDesk$Stretches" "pairLesser" "I" ∈ lw_tbl := List.mem_of_getElem? (i := 454) (by decide +kernel)
theorem zw_455 : Cond.fieldLink RX11 338 "WarpDesk$Stretches" "pairLesser" "I" ∈ lw_tbl := List.mem_of_getElem? (i := 455) (by decide +kernel)
theorem zw_456 : Cond.fieldLink RX9 89 "WarpDesk$Stretches" "pairGreater" "I" ∈ lw_tbl := List.mem_of_getElem? (i := 456) (by decide +kernel)
theorem zw_457 : Cond.fieldLink RX11 341 "WarpDesk$Stretches" "pairGreater" "I" ∈ lw_tbl := List.mem_of_getElem? (i := 457) (by decide +kernel)
theorem zw_458 : Cond.fieldLink RX9 92 "WarpDesk$Stretches" "pairDistance" "I" ∈ lw_tbl := List.mem_of_getElem? (i := 458) (by decide +kernel)
theorem zw_459 : Cond.fieldLink RX11 335 "WarpDesk$Stretches" "pairDistance" "I" ∈ lw_tbl := List.mem_of_getElem? (i := 459) (by decide +kernel)
theorem zw_460 : Cond.fieldLink RX9 98 "WarpDesk$Stretches" "oddWindow" "I" ∈ lw_tbl := List.mem_of_getElem? (i := 460) (by decide +kernel)
theorem zw_461 : Cond.fieldLink RX11 347 "WarpDesk$Stretches" "oddWindow" "I" ∈ lw_tbl := List.mem_of_getElem? (i := 461) (by decide +kernel)
theorem zw_462 : Cond.fieldLink RX9 101 "WarpDesk$Stretches" "oddDistance" "I" ∈ lw_tbl := List.mem_of_getElem? (i := 462) (by decide +kernel)
theorem zw_463 : Cond.fieldLink RX11 350 "WarpDesk$Stretches" "oddDistance" "I" ∈ lw_tbl := List.mem_of_getElem? (i := 463) (by decide +kernel)
theorem zw_487 : Cond.fieldLink RX11 10 "WarpDesk" "tape" "LWarpDesk$Tape;" ∈ lw_tbl := List.mem_of_getElem? (i := 487) (by decide +kernel)
theorem zw_488 : Cond.fieldLink RX11 21 "WarpDesk" "reader" "LWarpDesk$Reader;" ∈ lw_tbl := List.mem_of_getElem? (i := 488) (by decide +kernel)
theorem zw_489 : Cond.fieldLink RX11 28 "WarpDesk" "series" "LWarpDesk$Series;" ∈ lw_tbl := List.mem_of_getElem? (i := 489) (by decide +kernel)
theorem zw_490 : Cond.fieldLink RX11 35 "WarpDesk" "queries" "LWarpDesk$Queries;" ∈ lw_tbl := List.mem_of_getElem? (i := 490) (by decide +kernel)
theorem zw_491 : Cond.fieldLink RX11 42 "WarpDesk" "settings" "LWarpDesk$Settings;" ∈ lw_tbl := List.mem_of_getElem? (i := 491) (by decide +kernel)
theorem zw_492 : Cond.fieldLink RX11 49 "WarpDesk" "past" "LWarpDesk$Past;" ∈ lw_tbl := List.mem_of_getElem? (i := 492) (by decide +kernel)
theorem zw_493 : Cond.fieldLink RX11 56 "WarpDesk" "slots" "[LWarpDesk$Stand;" ∈ lw_tbl := List.mem_of_getElem? (i := 493) (by decide +kernel)
theorem zw_494 : Cond.fieldLink RX11 65 "WarpDesk" "bench" "LWarpDesk$Bench;" ∈ lw_tbl := List.mem_of_getElem? (i := 494) (by decide +kernel)
theorem zw_495 : Cond.fieldLink RX11 74 "WarpDesk" "finder" "LWarpDesk$Finder;" ∈ lw_tbl := List.mem_of_getElem? (i := 495) (by decide +kernel)
theorem zw_496 : Cond.fieldLink RX11 81 "WarpDesk" "stretches" "LWarpDesk$Stretches;" ∈ lw_tbl := List.mem_of_getElem? (i := 496) (by decide +kernel)
theorem zw_518 : Cond.methodLink RL 13 yX11_feed ∈ lw_tbl := List.mem_of_getElem? (i := 518) (by decide +kernel)
theorem zw_519 : Cond.instanceMethod yX11_feed ∈ lw_tbl := List.mem_of_getElem? (i := 519) (by decide +kernel)
theorem zw_520 : Cond.selects RX11 yX11_feed yX11_feed ∈ lw_tbl := List.mem_of_getElem? (i := 520) (by decide +kernel)
theorem zw_521 : Cond.code yX11_feed cX11_feed 6 (some .int) ∈ lw_tbl := List.mem_of_getElem? (i := 521) (by decide +kernel)
theorem zw_522 : Cond.methodLink RX11 89 yX10_addFour ∈ lw_tbl := List.mem_of_getElem? (i := 522) (by decide +kernel)
theorem zw_523 : Cond.instanceMethod yX10_addFour ∈ lw_tbl := List.mem_of_getElem? (i := 523) (by decide +kernel)
theorem zw_524 : Cond.selects RX10 yX10_addFour yX10_addFour ∈ lw_tbl := List.mem_of_getElem? (i := 524) (by decide +kernel)
theorem zw_525 : Cond.code yX10_addFour cX10_addFour 3 none ∈ lw_tbl := List.mem_of_getElem? (i := 525) (by decide +kernel)
theorem zw_526 : Cond.methodLink RL 18 yX11_back ∈ lw_tbl := List.mem_of_getElem? (i := 526) (by decide +kernel)
theorem zw_527 : Cond.instanceMethod yX11_back ∈ lw_tbl := List.mem_of_getElem? (i := 527) (by decide +kernel)
theorem zw_528 : Cond.selects RX11 yX11_back yX11_back ∈ lw_tbl := List.mem_of_getElem? (i := 528) (by decide +kernel)
theorem zw_529 : Cond.code yX11_back cX11_back 2 (some .int) ∈ lw_tbl := List.mem_of_getElem? (i := 529) (by decide +kernel)
theorem zw_530 : Cond.methodLink RL 23 yX11_read ∈ lw_tbl := List.mem_of_getElem? (i := 530) (by decide +kernel)
theorem zw_531 : Cond.instanceMethod yX11_read ∈ lw_tbl := List.mem_of_getElem? (i := 531) (by decide +kernel)
theorem zw_532 : Cond.selects RX11 yX11_read yX11_read ∈ lw_tbl := List.mem_of_getElem? (i := 532) (by decide +kernel)
theorem zw_533 : Cond.code yX11_read cX11_read 3 (some .int) ∈ lw_tbl := List.mem_of_getElem? (i := 533) (by decide +kernel)
theorem zw_534 : Cond.methodLink RX11 93 yX5_readText ∈ lw_tbl := List.mem_of_getElem? (i := 534) (by decide +kernel)
theorem zw_535 : Cond.instanceMethod yX5_readText ∈ lw_tbl := List.mem_of_getElem? (i := 535) (by decide +kernel)
theorem zw_536 : Cond.selects RX5 yX5_readText yX5_readText ∈ lw_tbl := List.mem_of_getElem? (i := 536) (by decide +kernel)
theorem zw_537 : Cond.code yX5_readText cX5_readText 2 (some .int) ∈ lw_tbl := List.mem_of_getElem? (i := 537) (by decide +kernel)
theorem zw_538 : Cond.methodLink RX5 46 yX5_begin ∈ lw_tbl := List.mem_of_getElem? (i := 538) (by decide +kernel)
theorem zw_540 : Cond.instanceMethod yX5_begin ∈ lw_tbl := List.mem_of_getElem? (i := 540) (by decide +kernel)
theorem zw_541 : Cond.code yX5_begin cX5_begin 1 none ∈ lw_tbl := List.mem_of_getElem? (i := 541) (by decide +kernel)
theorem zw_542 : Cond.methodLink RX5 81 yX8_clear ∈ lw_tbl := List.mem_of_getElem? (i := 542) (by decide +kernel)
theorem zw_543 : Cond.instanceMethod yX8_clear ∈ lw_tbl := List.mem_of_getElem? (i := 543) (by decide +kernel)
theorem zw_544 : Cond.selects RX8 yX8_clear yX8_clear ∈ lw_tbl := List.mem_of_getElem? (i := 544) (by decide +kernel)
theorem zw_545 : Cond.code yX8_clear cX8_clear 1 none ∈ lw_tbl := List.mem_of_getElem? (i := 545) (by decide +kernel)
theorem zw_546 : Cond.methodLink RX8 26 yX7_clear ∈ lw_tbl := List.mem_of_getElem? (i := 546) (by decide +kernel)
theorem zw_547 : Cond.instanceMethod yX7_clear ∈ lw_tbl := List.mem_of_getElem? (i := 547) (by decide +kernel)
theorem zw_548 : Cond.selects RX7 yX7_clear yX7_clear ∈ lw_tbl := List.mem_of_getElem? (i := 548) (by decide +kernel)
theorem zw_549 : Cond.code yX7_clear cX7_clear 2 none ∈ lw_tbl := List.mem_of_getElem? (i := 549) (by decide +kernel)
theorem zw_550 : Cond.methodLink RX7 29 yX7_put ∈ lw_tbl := List.mem_of_getElem? (i := 550) (by decide +kernel)
theorem zw_551 : Cond.instanceMethod yX7_put ∈ lw_tbl := List.mem_of_getElem? (i := 551) (by decide +kernel)
theorem zw_552 : Cond.selects RX7 yX7_put yX7_put ∈ lw_tbl := List.mem_of_getElem? (i := 552) (by decide +kernel)
theorem zw_553 : Cond.code yX7_put cX7_put 3 none ∈ lw_tbl := List.mem_of_getElem? (i := 553) (by decide +kernel)
theorem zw_554 : Cond.methodLink RX5 90 yX10_toFirstToken ∈ lw_tbl := List.mem_of_getElem? (i := 554) (by decide +kernel)
theorem zw_555 : Cond.instanceMethod yX10_toFirstToken ∈ lw_tbl := List.mem_of_getElem? (i := 555) (by decide +kernel)
theorem zw_556 : Cond.selects RX10 yX10_toFirstToken yX10_toFirstToken ∈ lw_tbl := List.mem_of_getElem? (i := 556) (by decide +kernel)
theorem zw_557 : Cond.code yX10_toFirstToken cX10_toFirstToken 1 none ∈ lw_tbl := List.mem_of_getElem? (i := 557) (by decide +kernel)
theorem zw_558 : Cond.methodLink RX10 25 yX10_toNextToken ∈ lw_tbl := List.mem_of_getElem? (i := 558) (by decide +kernel)
theorem zw_559 : Cond.instanceMethod yX10_toNextToken ∈ lw_tbl := List.mem_of_getElem? (i := 559) (by decide +kernel)
theorem zw_560 : Cond.selects RX10 yX10_toNextToken yX10_toNextToken ∈ lw_tbl := List.mem_of_getElem? (i := 560) (by decide +kernel)
theorem zw_561 : Cond.code yX10_toNextToken cX10_toNextToken 2 none ∈ lw_tbl := List.mem_of_getElem? (i := 561) (by decide +kernel)
theorem zw_562 : Cond.methodLink RX10 28 yX10_behindBlanks ∈ lw_tbl := List.mem_of_getElem? (i := 562) (by decide +kernel)
theorem zw_564 : Cond.instanceMethod yX10_behindBlanks ∈ lw_tbl := List.mem_of_getElem? (i := 564) (by decide +kernel)
theorem zw_565 : Cond.code yX10_behindBlanks cX10_behindBlanks 4 (some .int) ∈ lw_tbl := List.mem_of_getElem? (i := 565) (by decide +kernel)
theorem zw_566 : Cond.methodLink RX10 38 yX10_byteAt ∈ lw_tbl := List.mem_of_getElem? (i := 566) (by decide +kernel)
theorem zw_568 : Cond.instanceMethod yX10_byteAt ∈ lw_tbl := List.mem_of_getElem? (i := 568) (by decide +kernel)
theorem zw_569 : Cond.code yX10_byteAt cX10_byteAt 2 (some .int) ∈ lw_tbl := List.mem_of_getElem? (i := 569) (by decide +kernel)
theorem zw_723 : Cond.static yX7_allows ∈ lw_tbl := List.mem_of_getElem? (i := 723) (by decide +kernel)
theorem zw_724 : Cond.code yX7_allows cX7_allows 2 (some .boolean) ∈ lw_tbl := List.mem_of_getElem? (i := 724) (by decide +kernel)
theorem zw_725 : Cond.fieldLink RX7 23 "WarpDesk$Settings" "LOWEST" "[I" ∈ lw_tbl := List.mem_of_getElem? (i := 725) (by decide +kernel)
theorem zw_727 : Cond.fieldLink RX7 26 "WarpDesk$Settings" "HIGHEST" "[I" ∈ lw_tbl := List.mem_of_getElem? (i := 727) (by decide +kernel)
theorem zw_746 : Cond.methodLink RX4 22 yX4_has ∈ lw_tbl := List.mem_of_getElem? (i := 746) (by decide +kernel)
theorem zw_747 : Cond.instanceMethod yX4_has ∈ lw_tbl := List.mem_of_getElem? (i := 747) (by decide +kernel)
theorem zw_748 : Cond.selects RX4 yX4_has yX4_has ∈ lw_tbl := List.mem_of_getElem? (i := 748) (by decide +kernel)
theorem zw_749 : Cond.code yX4_has cX4_has 2 (some .boolean) ∈ lw_tbl := List.mem_of_getElem? (i := 749) (by decide +kernel)
theorem zw_751 : Cond.methodLink RX11 98 yX4_takeFrom ∈ lw_tbl := List.mem_of_getElem? (i := 751) (by decide +kernel)
theorem zw_752 : Cond.instanceMethod yX4_takeFrom ∈ lw_tbl := List.mem_of_getElem? (i := 752) (by decide +kernel)
theorem zw_753 : Cond.selects RX4 yX4_takeFrom yX4_takeFrom ∈ lw_tbl := List.mem_of_getElem? (i := 753) (by decide +kernel)
theorem zw_754 : Cond.code yX4_takeFrom cX4_takeFrom 4 none ∈ lw_tbl := List.mem_of_getElem? (i := 754) (by decide +kernel)
theorem zw_756 : Cond.methodLink RX4 26 yX4_lengthOf ∈ lw_tbl := List.mem_of_getElem? (i := 756) (by decide +kernel)
theorem zw_757 : Cond.instanceMethod yX4_lengthOf ∈ lw_tbl := List.mem_of_getElem? (i := 757) (by decide +kernel)
theorem zw_758 : Cond.selects RX4 yX4_lengthOf yX4_lengthOf ∈ lw_tbl := List.mem_of_getElem? (i := 758) (by decide +kernel)
theorem zw_759 : Cond.code yX4_lengthOf cX4_lengthOf 2 (some .int) ∈ lw_tbl := List.mem_of_getElem? (i := 759) (by decide +kernel)
theorem zw_761 : Cond.instanceMethod yX4_valueAt ∈ lw_tbl := List.mem_of_getElem? (i := 761) (by decide +kernel)
theorem zw_762 : Cond.selects RX4 yX4_valueAt yX4_valueAt ∈ lw_tbl := List.mem_of_getElem? (i := 762) (by decide +kernel)
theorem zw_763 : Cond.code yX4_valueAt cX4_valueAt 3 (some .int) ∈ lw_tbl := List.mem_of_getElem? (i := 763) (by decide +kernel)
theorem zw_765 : Cond.methodLink RX11 106 yX11_goOnFrom ∈ lw_tbl := List.mem_of_getElem? (i := 765) (by decide +kernel)
theorem zw_767 : Cond.instanceMethod yX11_goOnFrom ∈ lw_tbl := List.mem_of_getElem? (i := 767) (by decide +kernel)
theorem zw_768 : Cond.code yX11_goOnFrom cX11_goOnFrom 2 none ∈ lw_tbl := List.mem_of_getElem? (i := 768) (by decide +kernel)
theorem zw_769 : Cond.methodLink RX11 369 yX6_takeFrom ∈ lw_tbl := List.mem_of_getElem? (i := 769) (by decide +kernel)
theorem zw_770 : Cond.instanceMethod yX6_takeFrom ∈ lw_tbl := List.mem_of_getElem? (i := 770) (by decide +kernel)
theorem zw_771 : Cond.selects RX6 yX6_takeFrom yX6_takeFrom ∈ lw_tbl := List.mem_of_getElem? (i := 771) (by decide +kernel)
theorem zw_772 : Cond.code yX6_takeFrom cX6_takeFrom 3 none ∈ lw_tbl := List.mem_of_getElem? (i := 772) (by decide +kernel)
theorem zw_778 : Cond.instanceMethod yX6_append ∈ lw_tbl := List.mem_of_getElem? (i := 778) (by decide +kernel)
theorem zw_779 : Cond.selects RX6 yX6_append yX6_append ∈ lw_tbl := List.mem_of_getElem? (i := 779) (by decide +kernel)
theorem zw_780 : Cond.code yX6_append cX6_append 2 (some .boolean) ∈ lw_tbl := List.mem_of_getElem? (i := 780) (by decide +kernel)
theorem zw_781 : Cond.methodLink RX11 366 yX7_takeFrom ∈ lw_tbl := List.mem_of_getElem? (i := 781) (by decide +kernel)
theorem zw_782 : Cond.instanceMethod yX7_takeFrom ∈ lw_tbl := List.mem_of_getElem? (i := 782) (by decide +kernel)
theorem zw_783 : Cond.selects RX7 yX7_takeFrom yX7_takeFrom ∈ lw_tbl := List.mem_of_getElem? (i := 783) (by decide +kernel)
theorem zw_784 : Cond.code yX7_takeFrom cX7_takeFrom 3 none ∈ lw_tbl := List.mem_of_getElem? (i := 784) (by decide +kernel)
theorem zw_785 : Cond.methodLink RX7 33 yX7_valueOf ∈ lw_tbl := List.mem_of_getElem? (i := 785) (by decide +kernel)
theorem zw_786 : Cond.instanceMethod yX7_valueOf ∈ lw_tbl := List.mem_of_getElem? (i := 786) (by decide +kernel)
theorem zw_787 : Cond.selects RX7 yX7_valueOf yX7_valueOf ∈ lw_tbl := List.mem_of_getElem? (i := 787) (by decide +kernel)
theorem zw_788 : Cond.code yX7_valueOf cX7_valueOf 2 (some .int) ∈ lw_tbl := List.mem_of_getElem? (i := 788) (by decide +kernel)
theorem zw_789 : Cond.methodLink RX11 371 yX3_forget ∈ lw_tbl := List.mem_of_getElem? (i := 789) (by decide +kernel)
theorem zw_790 : Cond.instanceMethod yX3_forget ∈ lw_tbl := List.mem_of_getElem? (i := 790) (by decide +kernel)
theorem zw_791 : Cond.selects RX3 yX3_forget yX3_forget ∈ lw_tbl := List.mem_of_getElem? (i := 791) (by decide +kernel)
theorem zw_792 : Cond.code yX3_forget cX3_forget 1 none ∈ lw_tbl := List.mem_of_getElem? (i := 792) (by decide +kernel)
theorem zw_793 : Cond.arrayClass .byte ∈ lw_tbl := List.mem_of_getElem? (i := 793) (by decide +kernel)
theorem zw_794 : Cond.methodLink RL 28 yX11_place ∈ lw_tbl := List.mem_of_getElem? (i := 794) (by decide +kernel)
theorem zw_795 : Cond.instanceMethod yX11_place ∈ lw_tbl := List.mem_of_getElem? (i := 795) (by decide +kernel)
theorem zw_796 : Cond.selects RX11 yX11_place yX11_place ∈ lw_tbl := List.mem_of_getElem? (i := 796) (by decide +kernel)
theorem zw_797 : Cond.code yX11_place cX11_place 1 (some .int) ∈ lw_tbl := List.mem_of_getElem? (i := 797) (by decide +kernel)
theorem zw_798 : Cond.methodLink RL 32 yX11_cause ∈ lw_tbl := List.mem_of_getElem? (i := 798) (by decide +kernel)
theorem zw_799 : Cond.instanceMethod yX11_cause ∈ lw_tbl := List.mem_of_getElem? (i := 799) (by decide +kernel)
theorem zw_800 : Cond.selects RX11 yX11_cause yX11_cause ∈ lw_tbl := List.mem_of_getElem? (i := 800) (by decide +kernel)
theorem zw_801 : Cond.code yX11_cause cX11_cause 1 (some .int) ∈ lw_tbl := List.mem_of_getElem? (i := 801) (by decide +kernel)
theorem zw_802 : Cond.methodLink RL 36 yX11_at ∈ lw_tbl := List.mem_of_getElem? (i := 802) (by decide +kernel)
theorem zw_803 : Cond.instanceMethod yX11_at ∈ lw_tbl := List.mem_of_getElem? (i := 803) (by decide +kernel)
theorem zw_804 : Cond.selects RX11 yX11_at yX11_at ∈ lw_tbl := List.mem_of_getElem? (i := 804) (by decide +kernel)
theorem zw_805 : Cond.code yX11_at cX11_at 2 (some .int) ∈ lw_tbl := List.mem_of_getElem? (i := 805) (by decide +kernel)
theorem zw_806 : Cond.methodLink RX11 120 yX6_valueAt ∈ lw_tbl := List.mem_of_getElem? (i := 806) (by decide +kernel)
theorem zw_807 : Cond.instanceMethod yX6_valueAt ∈ lw_tbl := List.mem_of_getElem? (i := 807) (by decide +kernel)
theorem zw_808 : Cond.selects RX6 yX6_valueAt yX6_valueAt ∈ lw_tbl := List.mem_of_getElem? (i := 808) (by decide +kernel)
theorem zw_809 : Cond.code yX6_valueAt cX6_valueAt 2 (some .int) ∈ lw_tbl := List.mem_of_getElem? (i := 809) (by decide +kernel)
theorem zw_810 : Cond.methodLink RL 40 yX11_query ∈ lw_tbl := List.mem_of_getElem? (i := 810) (by decide +kernel)
theorem zw_811 : Cond.instanceMethod yX11_query ∈ lw_tbl := List.mem_of_getElem? (i := 811) (by decide +kernel)
theorem zw_812 : Cond.selects RX11 yX11_query yX11_query ∈ lw_tbl := List.mem_of_getElem? (i := 812) (by decide +kernel)
theorem zw_813 : Cond.code yX11_query cX11_query 3 (some .int) ∈ lw_tbl := List.mem_of_getElem? (i := 813) (by decide +kernel)
theorem zw_814 : Cond.methodLink RX11 124 yX4_valueAt ∈ lw_tbl := List.mem_of_getElem? (i := 814) (by decide +kernel)
theorem zw_815 : Cond.methodLink RL 45 yX11_push ∈ lw_tbl := List.mem_of_getElem? (i := 815) (by decide +kernel)
theorem zw_816 : Cond.instanceMethod yX11_push ∈ lw_tbl := List.mem_of_getElem? (i := 816) (by decide +kernel)
theorem zw_817 : Cond.selects RX11 yX11_push yX11_push ∈ lw_tbl := List.mem_of_getElem? (i := 817) (by decide +kernel)
theorem zw_818 : Cond.code yX11_push cX11_push 2 (some .int) ∈ lw_tbl := List.mem_of_getElem? (i := 818) (by decide +kernel)
theorem zw_819 : Cond.methodLink RX11 127 yX11_appendPlace ∈ lw_tbl := List.mem_of_getElem? (i := 819) (by decide +kernel)
theorem zw_821 : Cond.instanceMethod yX11_appendPlace ∈ lw_tbl := List.mem_of_getElem? (i := 821) (by decide +kernel)
theorem zw_822 : Cond.code yX11_appendPlace cX11_appendPlace 2 (some .int) ∈ lw_tbl := List.mem_of_getElem? (i := 822) (by decide +kernel)
theorem zw_823 : Cond.methodLink RX11 130 yX6_append ∈ lw_tbl := List.mem_of_getElem? (i := 823) (by decide +kernel)
theorem zw_824 : Cond.methodLink RX11 134 yX3_note ∈ lw_tbl := List.mem_of_getElem? (i := 824) (by decide +kernel)
theorem zw_825 : Cond.instanceMethod yX3_note ∈ lw_tbl := List.mem_of_getElem? (i := 825) (by decide +kernel)
theorem zw_826 : Cond.selects RX3 yX3_note yX3_note ∈ lw_tbl := List.mem_of_getElem? (i := 826) (by decide +kernel)
theorem zw_827 : Cond.code yX3_note cX3_note 4 none ∈ lw_tbl := List.mem_of_getElem? (i := 827) (by decide +kernel)
theorem zw_828 : Cond.methodLink RX3 26 Lib.Math.min.name ∈ lw_tbl := List.mem_of_getElem? (i := 828) (by decide +kernel)
theorem zw_829 : Cond.static Lib.Math.min.name ∈ lw_tbl := List.mem_of_getElem? (i := 829) (by decide +kernel)
theorem zw_830 : Cond.code Lib.Math.min.name Lib.Math.min.code 2 (some .int) ∈ lw_tbl := List.mem_of_getElem? (i := 830) (by decide +kernel)
theorem zw_831 : Cond.methodLink RL 49 yX11_gap ∈ lw_tbl := List.mem_of_getElem? (i := 831) (by decide +kernel)
theorem zw_832 : Cond.instanceMethod yX11_gap ∈ lw_tbl := List.mem_of_getElem? (i := 832) (by decide +kernel)
theorem zw_833 : Cond.selects RX11 yX11_gap yX11_gap ∈ lw_tbl := List.mem_of_getElem? (i := 833) (by decide +kernel)
theorem zw_834 : Cond.code yX11_gap cX11_gap 1 (some .int) ∈ lw_tbl := List.mem_of_getElem? (i := 834) (by decide +kernel)
theorem zw_835 : Cond.methodLink RL 53 yX11_mend ∈ lw_tbl := List.mem_of_getElem? (i := 835) (by decide +kernel)
theorem zw_836 : Cond.instanceMethod yX11_mend ∈ lw_tbl := List.mem_of_getElem? (i := 836) (by decide +kernel)
theorem zw_837 : Cond.selects RX11 yX11_mend yX11_mend ∈ lw_tbl := List.mem_of_getElem? (i := 837) (by decide +kernel)
theorem zw_838 : Cond.code yX11_mend cX11_mend 3 (some .int) ∈ lw_tbl := List.mem_of_getElem? (i := 838) (by decide +kernel)
theorem zw_851 : Cond.methodLink RL 57 yX11_drop ∈ lw_tbl := List.mem_of_getElem? (i := 851) (by decide +kernel)
theorem zw_852 : Cond.instanceMethod yX11_drop ∈ lw_tbl := List.mem_of_getElem? (i := 852) (by decide +kernel)
theorem zw_853 : Cond.selects RX11 yX11_drop yX11_drop ∈ lw_tbl := List.mem_of_getElem? (i := 853) (by decide +kernel)
theorem zw_854 : Cond.code yX11_drop cX11_drop 2 (some .boolean) ∈ lw_tbl := List.mem_of_getElem? (i := 854) (by decide +kernel)
theorem zw_855 : Cond.methodLink RX11 151 yX6_cutFirst ∈ lw_tbl := List.mem_of_getElem? (i := 855) (by decide +kernel)
theorem zw_856 : Cond.instanceMethod yX6_cutFirst ∈ lw_tbl := List.mem_of_getElem? (i := 856) (by decide +kernel)
theorem zw_857 : Cond.selects RX6 yX6_cutFirst yX6_cutFirst ∈ lw_tbl := List.mem_of_getElem? (i := 857) (by decide +kernel)
theorem zw_858 : Cond.code yX6_cutFirst cX6_cutFirst 2 (some .boolean) ∈ lw_tbl := List.mem_of_getElem? (i := 858) (by decide +kernel)
theorem zw_859 : Cond.methodLink RL 62 yX11_set ∈ lw_tbl := List.mem_of_getElem? (i := 859) (by decide +kernel)
theorem zw_860 : Cond.instanceMethod yX11_set ∈ lw_tbl := List.mem_of_getElem? (i := 860) (by decide +kernel)
theorem zw_861 : Cond.selects RX11 yX11_set yX11_set ∈ lw_tbl := List.mem_of_getElem? (i := 861) (by decide +kernel)
theorem zw_862 : Cond.code yX11_set cX11_set 4 (some .boolean) ∈ lw_tbl := List.mem_of_getElem? (i := 862) (by decide +kernel)
theorem zw_863 : Cond.methodLink RX11 154 yX7_valueOf ∈ lw_tbl := List.mem_of_getElem? (i := 863) (by decide +kernel)
theorem zw_864 : Cond.methodLink RX11 157 yX7_allows ∈ lw_tbl := List.mem_of_getElem? (i := 864) (by decide +kernel)
theorem zw_865 : Cond.methodLink RX11 161 yX7_put ∈ lw_tbl := List.mem_of_getElem? (i := 865) (by decide +kernel)
theorem zw_866 : Cond.methodLink RL 67 yX11_undo ∈ lw_tbl := List.mem_of_getElem? (i := 866) (by decide +kernel)
theorem zw_867 : Cond.instanceMethod yX11_undo ∈ lw_tbl := List.mem_of_getElem? (i := 867) (by decide +kernel)
theorem zw_868 : Cond.selects RX11 yX11_undo yX11_undo ∈ lw_tbl := List.mem_of_getElem? (i := 868) (by decide +kernel)
theorem zw_869 : Cond.code yX11_undo cX11_undo 2 (some .boolean) ∈ lw_tbl := List.mem_of_getElem? (i := 869) (by decide +kernel)
theorem zw_870 : Cond.methodLink RX11 164 yX3_stepBack ∈ lw_tbl := List.mem_of_getElem? (i := 870) (by decide +kernel)
theorem zw_871 : Cond.instanceMethod yX3_stepBack ∈ lw_tbl := List.mem_of_getElem? (i := 871) (by decide +kernel)
theorem zw_872 : Cond.selects RX3 yX3_stepBack yX3_stepBack ∈ lw_tbl := List.mem_of_getElem? (i := 872) (by decide +kernel)
theorem zw_873 : Cond.code yX3_stepBack cX3_stepBack 1 (some .boolean) ∈ lw_tbl := List.mem_of_getElem? (i := 873) (by decide +kernel)
theorem zw_897 : Cond.methodLink RL 72 yX11_window ∈ lw_tbl := List.mem_of_getElem? (i := 897) (by decide +kernel)
theorem zw_898 : Cond.instanceMethod yX11_window ∈ lw_tbl := List.mem_of_getElem? (i := 898) (by decide +kernel)
theorem zw_899 : Cond.selects RX11 yX11_window yX11_window ∈ lw_tbl := List.mem_of_getElem? (i := 899) (by decide +kernel)
theorem zw_900 : Cond.code yX11_window cX11_window 4 (some .int) ∈ lw_tbl := List.mem_of_getElem? (i := 900) (by decide +kernel)
theorem zw_901 : Cond.methodLink RX11 183 yX6_hasWindow ∈ lw_tbl := List.mem_of_getElem? (i := 901) (by decide +kernel)
theorem zw_902 : Cond.instanceMethod yX6_hasWindow ∈ lw_tbl := List.mem_of_getElem? (i := 902) (by decide +kernel)
theorem zw_903 : Cond.selects RX6 yX6_hasWindow yX6_hasWindow ∈ lw_tbl := List.mem_of_getElem? (i := 903) (by decide +kernel)
theorem zw_904 : Cond.code yX6_hasWindow cX6_hasWindow 4 (some .boolean) ∈ lw_tbl := List.mem_of_getElem? (i := 904) (by decide +kernel)
theorem zw_906 : Cond.constant RX11 186 (-1000000) ∈ lw_tbl := List.mem_of_getElem? (i := 906) (by decide +kernel)
theorem zw_907 : Cond.methodLink RX11 187 yX6_sumOf ∈ lw_tbl := List.mem_of_getElem? (i := 907) (by decide +kernel)
theorem zw_908 : Cond.instanceMethod yX6_sumOf ∈ lw_tbl := List.mem_of_getElem? (i := 908) (by decide +kernel)
theorem zw_909 : Cond.selects RX6 yX6_sumOf yX6_sumOf ∈ lw_tbl := List.mem_of_getElem? (i := 909) (by decide +kernel)
theorem zw_910 : Cond.code yX6_sumOf cX6_sumOf 5 (some .int) ∈ lw_tbl := List.mem_of_getElem? (i := 910) (by decide +kernel)
theorem zw_911 : Cond.methodLink RX11 190 yX6_leastOf ∈ lw_tbl := List.mem_of_getElem? (i := 911) (by decide +kernel)
theorem zw_912 : Cond.instanceMethod yX6_leastOf ∈ lw_tbl := List.mem_of_getElem? (i := 912) (by decide +kernel)
theorem zw_913 : Cond.selects RX6 yX6_leastOf yX6_leastOf ∈ lw_tbl := List.mem_of_getElem? (i := 913) (by decide +kernel)
theorem zw_914 : Cond.code yX6_leastOf cX6_leastOf 6 (some .int) ∈ lw_tbl := List.mem_of_getElem? (i := 914) (by decide +kernel)
theorem zw_915 : Cond.methodLink RX11 193 yX6_greatestOf ∈ lw_tbl := List.mem_of_getElem? (i := 915) (by decide +kernel)
theorem zw_916 : Cond.instanceMethod yX6_greatestOf ∈ lw_tbl := List.mem_of_getElem? (i := 916) (by decide +kernel)
theorem zw_917 : Cond.selects RX6 yX6_greatestOf yX6_greatestOf ∈ lw_tbl := List.mem_of_getElem? (i := 917) (by decide +kernel)
theorem zw_918 : Cond.code yX6_greatestOf cX6_greatestOf 5 (some .int) ∈ lw_tbl := List.mem_of_getElem? (i := 918) (by decide +kernel)
theorem zw_922 : Cond.methodLink RL 77 yX11_level ∈ lw_tbl := List.mem_of_getElem? (i := 922) (by decide +kernel)
theorem zw_923 : Cond.instanceMethod yX11_level ∈ lw_tbl := List.mem_of_getElem? (i := 923) (by decide +kernel)
theorem zw_924 : Cond.selects RX11 yX11_level yX11_level ∈ lw_tbl := List.mem_of_getElem? (i := 924) (by decide +kernel)
theorem zw_925 : Cond.code yX11_level cX11_level 4 (some .int) ∈ lw_tbl := List.mem_of_getElem? (i := 925) (by decide +kernel)
theorem zw_926 : Cond.methodLink RX11 196 yX11_isStretch ∈ lw_tbl := List.mem_of_getElem? (i := 926) (by decide +kernel)
theorem zw_927 : Cond.static yX11_isStretch ∈ lw_tbl := List.mem_of_getElem? (i := 927) (by decide +kernel)
theorem zw_928 : Cond.code yX11_isStretch cX11_isStretch 1 (some .boolean) ∈ lw_tbl := List.mem_of_getElem? (i := 928) (by decide +kernel)
theorem zw_965 : Cond.methodLink RL 81 yX11_distance ∈ lw_tbl := List.mem_of_getElem? (i := 965) (by decide +kernel)
theorem zw_966 : Cond.instanceMethod yX11_distance ∈ lw_tbl := List.mem_of_getElem? (i := 966) (by decide +kernel)
theorem zw_967 : Cond.selects RX11 yX11_distance yX11_distance ∈ lw_tbl := List.mem_of_getElem? (i := 967) (by decide +kernel)
theorem zw_968 : Cond.code yX11_distance cX11_distance 3 (some .int) ∈ lw_tbl := List.mem_of_getElem? (i := 968) (by decide +kernel)
theorem zw_969 : Cond.methodLink RX11 212 yX0_openBoth ∈ lw_tbl := List.mem_of_getElem? (i := 969) (by decide +kernel)
theorem zw_970 : Cond.instanceMethod yX0_openBoth ∈ lw_tbl := List.mem_of_getElem? (i := 970) (by decide +kernel)
theorem zw_971 : Cond.selects RX0 yX0_openBoth yX0_openBoth ∈ lw_tbl := List.mem_of_getElem? (i := 971) (by decide +kernel)
theorem zw_972 : Cond.code yX0_openBoth cX0_openBoth 3 (some .boolean) ∈ lw_tbl := List.mem_of_getElem? (i := 972) (by decide +kernel)
theorem zw_973 : Cond.methodLink RX0 46 yX0_hasBoth ∈ lw_tbl := List.mem_of_getElem? (i := 973) (by decide +kernel)
theorem zw_974 : Cond.instanceMethod yX0_hasBoth ∈ lw_tbl := List.mem_of_getElem? (i := 974) (by decide +kernel)
theorem zw_975 : Cond.selects RX0 yX0_hasBoth yX0_hasBoth ∈ lw_tbl := List.mem_of_getElem? (i := 975) (by decide +kernel)
theorem zw_976 : Cond.code yX0_hasBoth cX0_hasBoth 3 (some .boolean) ∈ lw_tbl := List.mem_of_getElem? (i := 976) (by decide +kernel)
theorem zw_977 : Cond.methodLink RX0 30 yX4_has ∈ lw_tbl := List.mem_of_getElem? (i := 977) (by decide +kernel)
theorem zw_1017 : Cond.methodLink RL 85 yX11_bound ∈ lw_tbl := List.mem_of_getElem? (i := 1017) (by decide +kernel)
theorem zw_1018 : Cond.instanceMethod yX11_bound ∈ lw_tbl := List.mem_of_getElem? (i := 1018) (by decide +kernel)
theorem zw_1019 : Cond.selects RX11 yX11_bound yX11_bound ∈ lw_tbl := List.mem_of_getElem? (i := 1019) (by decide +kernel)
theorem zw_1020 : Cond.code yX11_bound cX11_bound 4 (some .int) ∈ lw_tbl := List.mem_of_getElem? (i := 1020) (by decide +kernel)
theorem zw_1041 : Cond.methodLink RL 89 yX11_look ∈ lw_tbl := List.mem_of_getElem? (i := 1041) (by decide +kernel)
theorem zw_1042 : Cond.instanceMethod yX11_look ∈ lw_tbl := List.mem_of_getElem? (i := 1042) (by decide +kernel)
theorem zw_1043 : Cond.selects RX11 yX11_look yX11_look ∈ lw_tbl := List.mem_of_getElem? (i := 1043) (by decide +kernel)
theorem zw_1044 : Cond.code yX11_look cX11_look 6 (some .int) ∈ lw_tbl := List.mem_of_getElem? (i := 1044) (by decide +kernel)
theorem zw_1050 : Cond.methodLink RL 110 yX11_way ∈ lw_tbl := List.mem_of_getElem? (i := 1050) (by decide +kernel)
theorem zw_1051 : Cond.instanceMethod yX11_way ∈ lw_tbl := List.mem_of_getElem? (i := 1051) (by decide +kernel)
theorem zw_1052 : Cond.selects RX11 yX11_way yX11_way ∈ lw_tbl := List.mem_of_getElem? (i := 1052) (by decide +kernel)
theorem zw_1053 : Cond.code yX11_way cX11_way 4 (some .int) ∈ lw_tbl := List.mem_of_getElem? (i := 1053) (by decide +kernel)
theorem zw_1066 : Cond.methodLink RL 138 yX11_lean ∈ lw_tbl := List.mem_of_getElem? (i := 1066) (by decide +kernel)
theorem zw_1067 : Cond.instanceMethod yX11_lean ∈ lw_tbl := List.mem_of_getElem? (i := 1067) (by decide +kernel)
theorem zw_1068 : Cond.selects RX11 yX11_lean yX11_lean ∈ lw_tbl := List.mem_of_getElem? (i := 1068) (by decide +kernel)
theorem zw_1069 : Cond.code yX11_lean cX11_lean 4 (some .int) ∈ lw_tbl := List.mem_of_getElem? (i := 1069) (by decide +kernel)
theorem zw_1082 : Cond.methodLink RL 118 yX11_alike ∈ lw_tbl := List.mem_of_getElem? (i := 1082) (by decide +kernel)
theorem zw_1083 : Cond.instanceMethod yX11_alike ∈ lw_tbl := List.mem_of_getElem? (i := 1083) (by decide +kernel)
theorem zw_1084 : Cond.selects RX11 yX11_alike yX11_alike ∈ lw_tbl := List.mem_of_getElem? (i := 1084) (by decide +kernel)
theorem zw_1085 : Cond.code yX11_alike cX11_alike 3 (some .int) ∈ lw_tbl := List.mem_of_getElem? (i := 1085) (by decide +kernel)
theorem zw_1086 : Cond.methodLink RX11 251 yX4_has ∈ lw_tbl := List.mem_of_getElem? (i := 1086) (by decide +kernel)
theorem zw_1093 : Cond.methodLink RL 142 yX11_whose ∈ lw_tbl := List.mem_of_getElem? (i := 1093) (by decide +kernel)
theorem zw_1094 : Cond.instanceMethod yX11_whose ∈ lw_tbl := List.mem_of_getElem? (i := 1094) (by decide +kernel)
theorem zw_1095 : Cond.selects RX11 yX11_whose yX11_whose ∈ lw_tbl := List.mem_of_getElem? (i := 1095) (by decide +kernel)
theorem zw_1096 : Cond.code yX11_whose cX11_whose 3 (some .int) ∈ lw_tbl := List.mem_of_getElem? (i := 1096) (by decide +kernel)
theorem zw_1105 : Cond.methodLink RL 170 yX11_fired ∈ lw_tbl := List.mem_of_getElem? (i := 1105) (by decide +kernel)
theorem zw_1106 : Cond.instanceMethod yX11_fired ∈ lw_tbl := List.mem_of_getElem? (i := 1106) (by decide +kernel)
theorem zw_1107 : Cond.selects RX11 yX11_fired yX11_fired ∈ lw_tbl := List.mem_of_getElem? (i := 1107) (by decide +kernel)
theorem zw_1108 : Cond.code yX11_fired cX11_fired 2 (some .int) ∈ lw_tbl := List.mem_of_getElem? (i := 1108) (by decide +kernel)
theorem zw_1109 : Cond.methodLink RX11 266 yX1_firedBits ∈ lw_tbl := List.mem_of_getElem? (i := 1109) (by decide +kernel)
theorem zw_1110 : Cond.instanceMethod yX1_firedBits ∈ lw_tbl := List.mem_of_getElem? (i := 1110) (by decide +kernel)
theorem zw_1111 : Cond.selects RX1 yX1_firedBits yX1_firedBits ∈ lw_tbl := List.mem_of_getElem? (i := 1111) (by decide +kernel)
theorem zw_1112 : Cond.code yX1_firedBits cX1_firedBits 5 (some .int) ∈ lw_tbl := List.mem_of_getElem? (i := 1112) (by decide +kernel)
theorem zw_1113 : Cond.methodLink RL 94 yX11_best ∈ lw_tbl := List.mem_of_getElem? (i := 1113) (by decide +kernel)
theorem zw_1114 : Cond.instanceMethod yX11_best ∈ lw_tbl := List.mem_of_getElem? (i := 1114) (by decide +kernel)
theorem zw_1115 : Cond.selects RX11 yX11_best yX11_best ∈ lw_tbl := List.mem_of_getElem? (i := 1115) (by decide +kernel)
theorem zw_1116 : Cond.code yX11_best cX11_best 3 (some .int) ∈ lw_tbl := List.mem_of_getElem? (i := 1116) (by decide +kernel)
theorem zw_1129 : Cond.methodLink RL 98 yX11_search ∈ lw_tbl := List.mem_of_getElem? (i := 1129) (by decide +kernel)
theorem zw_1130 : Cond.instanceMethod yX11_search ∈ lw_tbl := List.mem_of_getElem? (i := 1130) (by decide +kernel)
theorem zw_1131 : Cond.selects RX11 yX11_search yX11_search ∈ lw_tbl := List.mem_of_getElem? (i := 1131) (by decide +kernel)
theorem zw_1132 : Cond.code yX11_search cX11_search 3 (some .int) ∈ lw_tbl := List.mem_of_getElem? (i := 1132) (by decide +kernel)
theorem zw_1143 : Cond.methodLink RL 102 yX11_match ∈ lw_tbl := List.mem_of_getElem? (i := 1143) (by decide +kernel)
theorem zw_1144 : Cond.instanceMethod yX11_match ∈ lw_tbl := List.mem_of_getElem? (i := 1144) (by decide +kernel)
theorem zw_1145 : Cond.selects RX11 yX11_match yX11_match ∈ lw_tbl := List.mem_of_getElem? (i := 1145) (by decide +kernel)
theorem zw_1146 : Cond.code yX11_match cX11_match 4 (some .int) ∈ lw_tbl := List.mem_of_getElem? (i := 1146) (by decide +kernel)
theorem zw_1172 : Cond.methodLink RL 106 yX11_within ∈ lw_tbl := List.mem_of_getElem? (i := 1172) (by decide +kernel)
theorem zw_1173 : Cond.instanceMethod yX11_within ∈ lw_tbl := List.mem_of_getElem? (i := 1173) (by decide +kernel)
theorem zw_1174 : Cond.selects RX11 yX11_within yX11_within ∈ lw_tbl := List.mem_of_getElem? (i := 1174) (by decide +kernel)
theorem zw_1175 : Cond.code yX11_within cX11_within 3 (some .int) ∈ lw_tbl := List.mem_of_getElem? (i := 1175) (by decide +kernel)
theorem zw_1181 : Cond.methodLink RL 134 yX11_cover ∈ lw_tbl := List.mem_of_getElem? (i := 1181) (by decide +kernel)
theorem zw_1182 : Cond.instanceMethod yX11_cover ∈ lw_tbl := List.mem_of_getElem? (i := 1182) (by decide +kernel)
theorem zw_1183 : Cond.selects RX11 yX11_cover yX11_cover ∈ lw_tbl := List.mem_of_getElem? (i := 1183) (by decide +kernel)
theorem zw_1184 : Cond.code yX11_cover cX11_cover 3 (some .int) ∈ lw_tbl := List.mem_of_getElem? (i := 1184) (by decide +kernel)
theorem zw_1194 : Cond.methodLink RL 114 yX11_needs ∈ lw_tbl := List.mem_of_getElem? (i := 1194) (by decide +kernel)
theorem zw_1195 : Cond.instanceMethod yX11_needs ∈ lw_tbl := List.mem_of_getElem? (i := 1195) (by decide +kernel)
theorem zw_1196 : Cond.selects RX11 yX11_needs yX11_needs ∈ lw_tbl := List.mem_of_getElem? (i := 1196) (by decide +kernel)
theorem zw_1197 : Cond.code yX11_needs cX11_needs 3 (some .int) ∈ lw_tbl := List.mem_of_getElem? (i := 1197) (by decide +kernel)
theorem zw_1198 : Cond.methodLink RX11 299 yX0_hasBoth ∈ lw_tbl := List.mem_of_getElem? (i := 1198) (by decide +kernel)
theorem zw_1204 : Cond.methodLink RL 146 yX11_rank ∈ lw_tbl := List.mem_of_getElem? (i := 1204) (by decide +kernel)
theorem zw_1205 : Cond.instanceMethod yX11_rank ∈ lw_tbl := List.mem_of_getElem? (i := 1205) (by decide +kernel)
theorem zw_1206 : Cond.selects RX11 yX11_rank yX11_rank ∈ lw_tbl := List.mem_of_getElem? (i := 1206) (by decide +kernel)
theorem zw_1207 : Cond.code yX11_rank cX11_rank 3 (some .int) ∈ lw_tbl := List.mem_of_getElem? (i := 1207) (by decide +kernel)
theorem zw_1217 : Cond.methodLink RL 150 yX11_kth ∈ lw_tbl := List.mem_of_getElem? (i := 1217) (by decide +kernel)
theorem zw_1218 : Cond.instanceMethod yX11_kth ∈ lw_tbl := List.mem_of_getElem? (i := 1218) (by decide +kernel)
theorem zw_1219 : Cond.selects RX11 yX11_kth yX11_kth ∈ lw_tbl := List.mem_of_getElem? (i := 1219) (by decide +kernel)
theorem zw_1220 : Cond.code yX11_kth cX11_kth 5 (some .int) ∈ lw_tbl := List.mem_of_getElem? (i := 1220) (by decide +kernel)
theorem zw_1227 : Cond.methodLink RL 154 yX11_slack ∈ lw_tbl := List.mem_of_getElem? (i := 1227) (by decide +kernel)
theorem zw_1228 : Cond.instanceMethod yX11_slack ∈ lw_tbl := List.mem_of_getElem? (i := 1228) (by decide +kernel)
theorem zw_1229 : Cond.selects RX11 yX11_slack yX11_slack ∈ lw_tbl := List.mem_of_getElem? (i := 1229) (by decide +kernel)
theorem zw_1230 : Cond.code yX11_slack cX11_slack 2 (some .int) ∈ lw_tbl := List.mem_of_getElem? (i := 1230) (by decide +kernel)
theorem zw_1239 : Cond.methodLink RL 158 yX11_turns ∈ lw_tbl := List.mem_of_getElem? (i := 1239) (by decide +kernel)
theorem zw_1240 : Cond.instanceMethod yX11_turns ∈ lw_tbl := List.mem_of_getElem? (i := 1240) (by decide +kernel)
theorem zw_1241 : Cond.selects RX11 yX11_turns yX11_turns ∈ lw_tbl := List.mem_of_getElem? (i := 1241) (by decide +kernel)
theorem zw_1242 : Cond.code yX11_turns cX11_turns 2 (some .int) ∈ lw_tbl := List.mem_of_getElem? (i := 1242) (by decide +kernel)
theorem zw_1247 : Cond.methodLink RL 122 yX11_near ∈ lw_tbl := List.mem_of_getElem? (i := 1247) (by decide +kernel)
theorem zw_1248 : Cond.instanceMethod yX11_near ∈ lw_tbl := List.mem_of_getElem? (i := 1248) (by decide +kernel)
theorem zw_1249 : Cond.selects RX11 yX11_near yX11_near ∈ lw_tbl := List.mem_of_getElem? (i := 1249) (by decide +kernel)
theorem zw_1250 : Cond.code yX11_near cX11_near 4 (some .int) ∈ lw_tbl := List.mem_of_getElem? (i := 1250) (by decide +kernel)
theorem zw_1255 : Cond.methodLink RX9 50 yX9_bringAll ∈ lw_tbl := List.mem_of_getElem? (i := 1255) (by decide +kernel)
theorem zw_1257 : Cond.instanceMethod yX9_bringAll ∈ lw_tbl := List.mem_of_getElem? (i := 1257) (by decide +kernel)
theorem zw_1258 : Cond.code yX9_bringAll cX9_bringAll 3 none ∈ lw_tbl := List.mem_of_getElem? (i := 1258) (by decide +kernel)
theorem zw_1259 : Cond.methodLink RX9 34 yX6_hasWindow ∈ lw_tbl := List.mem_of_getElem? (i := 1259) (by decide +kernel)
theorem zw_1285 : Cond.methodLink RL 126 yX11_pair ∈ lw_tbl := List.mem_of_getElem? (i := 1285) (by decide +kernel)
theorem zw_1286 : Cond.instanceMethod yX11_pair ∈ lw_tbl := List.mem_of_getElem? (i := 1286) (by decide +kernel)
theorem zw_1287 : Cond.selects RX11 yX11_pair yX11_pair ∈ lw_tbl := List.mem_of_getElem? (i := 1287) (by decide +kernel)
theorem zw_1288 : Cond.code yX11_pair cX11_pair 3 (some .int) ∈ lw_tbl := List.mem_of_getElem? (i := 1288) (by decide +kernel)
theorem zw_1289 : Cond.methodLink RX11 332 yX9_findPair ∈ lw_tbl := List.mem_of_getElem? (i := 1289) (by decide +kernel)
theorem zw_1290 : Cond.instanceMethod yX9_findPair ∈ lw_tbl := List.mem_of_getElem? (i := 1290) (by decide +kernel)
theorem zw_1291 : Cond.selects RX9 yX9_findPair yX9_findPair ∈ lw_tbl := List.mem_of_getElem? (i := 1291) (by decide +kernel)
theorem zw_1292 : Cond.code yX9_findPair cX9_findPair 3 none ∈ lw_tbl := List.mem_of_getElem? (i := 1292) (by decide +kernel)
theorem zw_1297 : Cond.methodLink RL 130 yX11_odd ∈ lw_tbl := List.mem_of_getElem? (i := 1297) (by decide +kernel)
theorem zw_1298 : Cond.instanceMethod yX11_odd ∈ lw_tbl := List.mem_of_getElem? (i := 1298) (by decide +kernel)
theorem zw_1299 : Cond.selects RX11 yX11_odd yX11_odd ∈ lw_tbl := List.mem_of_getElem? (i := 1299) (by decide +kernel)
theorem zw_1300 : Cond.code yX11_odd cX11_odd 3 (some .int) ∈ lw_tbl := List.mem_of_getElem? (i := 1300) (by decide +kernel)
theorem zw_1301 : Cond.methodLink RX11 344 yX9_findOdd ∈ lw_tbl := List.mem_of_getElem? (i := 1301) (by decide +kernel)
theorem zw_1302 : Cond.instanceMethod yX9_findOdd ∈ lw_tbl := List.mem_of_getElem? (i := 1302) (by decide +kernel)
theorem zw_1303 : Cond.selects RX9 yX9_findOdd yX9_findOdd ∈ lw_tbl := List.mem_of_getElem? (i := 1303) (by decide +kernel)
theorem zw_1304 : Cond.code yX9_findOdd cX9_findOdd 3 none ∈ lw_tbl := List.mem_of_getElem? (i := 1304) (by decide +kernel)
theorem zw_1305 : Cond.methodLink RL 162 yX11_flat ∈ lw_tbl := List.mem_of_getElem? (i := 1305) (by decide +kernel)
theorem zw_1306 : Cond.instanceMethod yX11_flat ∈ lw_tbl := List.mem_of_getElem? (i := 1306) (by decide +kernel)
theorem zw_1307 : Cond.selects RX11 yX11_flat yX11_flat ∈ lw_tbl := List.mem_of_getElem? (i := 1307) (by decide +kernel)
theorem zw_1308 : Cond.code yX11_flat cX11_flat 2 (some .int) ∈ lw_tbl := List.mem_of_getElem? (i := 1308) (by decide +kernel)
theorem zw_1309 : Cond.methodLink RX11 353 yX6_flatWindows ∈ lw_tbl := List.mem_of_getElem? (i := 1309) (by decide +kernel)
theorem zw_1310 : Cond.instanceMethod yX6_flatWindows ∈ lw_tbl := List.mem_of_getElem? (i := 1310) (by decide +kernel)
theorem zw_1311 : Cond.selects RX6 yX6_flatWindows yX6_flatWindows ∈ lw_tbl := List.mem_of_getElem? (i := 1311) (by decide +kernel)
theorem zw_1312 : Cond.code yX6_flatWindows cX6_flatWindows 5 (some .int) ∈ lw_tbl := List.mem_of_getElem? (i := 1312) (by decide +kernel)
theorem zw_1313 : Cond.methodLink RL 166 yX11_whole ∈ lw_tbl := List.mem_of_getElem? (i := 1313) (by decide +kernel)
theorem zw_1314 : Cond.instanceMethod yX11_whole ∈ lw_tbl := List.mem_of_getElem? (i := 1314) (by decide +kernel)
theorem zw_1315 : Cond.selects RX11 yX11_whole yX11_whole ∈ lw_tbl := List.mem_of_getElem? (i := 1315) (by decide +kernel)
theorem zw_1316 : Cond.code yX11_whole cX11_whole 3 (some .int) ∈ lw_tbl := List.mem_of_getElem? (i := 1316) (by decide +kernel)
theorem zw_1317 : Cond.methodLink RX11 356 yX6_longestRunFirst ∈ lw_tbl := List.mem_of_getElem? (i := 1317) (by decide +kernel)
theorem zw_1318 : Cond.instanceMethod yX6_longestRunFirst ∈ lw_tbl := List.mem_of_getElem? (i := 1318) (by decide +kernel)
theorem zw_1319 : Cond.selects RX6 yX6_longestRunFirst yX6_longestRunFirst ∈ lw_tbl := List.mem_of_getElem? (i := 1319) (by decide +kernel)
theorem zw_1320 : Cond.code yX6_longestRunFirst cX6_longestRunFirst 5 (some .int) ∈ lw_tbl := List.mem_of_getElem? (i := 1320) (by decide +kernel)
theorem zw_1322 : Cond.instanceMethod yX6_runFrom ∈ lw_tbl := List.mem_of_getElem? (i := 1322) (by decide +kernel)
theorem zw_1323 : Cond.selects RX6 yX6_runFrom yX6_runFrom ∈ lw_tbl := List.mem_of_getElem? (i := 1323) (by decide +kernel)
theorem zw_1324 : Cond.code yX6_runFrom cX6_runFrom 4 (some .int) ∈ lw_tbl := List.mem_of_getElem? (i := 1324) (by decide +kernel)
theorem zw_1325 : Cond.methodLink RX11 359 yX6_runFrom ∈ lw_tbl := List.mem_of_getElem? (i := 1325) (by decide +kernel)
theorem zw_1326 : Cond.methodLink RL 174 yX11_hold ∈ lw_tbl := List.mem_of_getElem? (i := 1326) (by decide +kernel)
theorem zw_1327 : Cond.instanceMethod yX11_hold ∈ lw_tbl := List.mem_of_getElem? (i := 1327) (by decide +kernel)
theorem zw_1328 : Cond.selects RX11 yX11_hold yX11_hold ∈ lw_tbl := List.mem_of_getElem? (i := 1328) (by decide +kernel)
theorem zw_1329 : Cond.code yX11_hold cX11_hold 3 (some .boolean) ∈ lw_tbl := List.mem_of_getElem? (i := 1329) (by decide +kernel)
theorem zw_1330 : Cond.methodLink RX11 362 yX6_copyInto ∈ lw_tbl := List.mem_of_getElem? (i := 1330) (by decide +kernel)
theorem zw_1331 : Cond.instanceMethod yX6_copyInto ∈ lw_tbl := List.mem_of_getElem? (i := 1331) (by decide +kernel)
theorem zw_1332 : Cond.selects RX6 yX6_copyInto yX6_copyInto ∈ lw_tbl := List.mem_of_getElem? (i := 1332) (by decide +kernel)
theorem zw_1333 : Cond.code yX6_copyInto cX6_copyInto 3 none ∈ lw_tbl := List.mem_of_getElem? (i := 1333) (by decide +kernel)
theorem zw_1335 : Cond.methodLink RL 178 yX11_restore ∈ lw_tbl := List.mem_of_getElem? (i := 1335) (by decide +kernel)
theorem zw_1336 : Cond.instanceMethod yX11_restore ∈ lw_tbl := List.mem_of_getElem? (i := 1336) (by decide +kernel)
theorem zw_1337 : Cond.selects RX11 yX11_restore yX11_restore ∈ lw_tbl := List.mem_of_getElem? (i := 1337) (by decide +kernel)
theorem zw_1338 : Cond.code yX11_restore cX11_restore 2 (some .boolean) ∈ lw_tbl := List.mem_of_getElem? (i := 1338) (by decide +kernel)
theorem zw_1339 : Cond.methodLink RL 182 yX11_count ∈ lw_tbl := List.mem_of_getElem? (i := 1339) (by decide +kernel)
theorem zw_1340 : Cond.instanceMethod yX11_count ∈ lw_tbl := List.mem_of_getElem? (i := 1340) (by decide +kernel)
theorem zw_1341 : Cond.selects RX11 yX11_count yX11_count ∈ lw_tbl := List.mem_of_getElem? (i := 1341) (by decide +kernel)
theorem zw_1342 : Cond.code yX11_count cX11_count 2 (some .int) ∈ lw_tbl := List.mem_of_getElem? (i := 1342) (by decide +kernel)
theorem zw_1343 : Cond.methodLink RX11 374 yX6_gapCount ∈ lw_tbl := List.mem_of_getElem? (i := 1343) (by decide +kernel)
theorem zw_1344 : Cond.instanceMethod yX6_gapCount ∈ lw_tbl := List.mem_of_getElem? (i := 1344) (by decide +kernel)
theorem zw_1345 : Cond.selects RX6 yX6_gapCount yX6_gapCount ∈ lw_tbl := List.mem_of_getElem? (i := 1345) (by decide +kernel)
theorem zw_1346 : Cond.code yX6_gapCount cX6_gapCount 3 (some .int) ∈ lw_tbl := List.mem_of_getElem? (i := 1346) (by decide +kernel)
theorem zw_1347 : Cond.methodLink RX11 378 yX6_readingsAtEnd ∈ lw_tbl := List.mem_of_getElem? (i := 1347) (by decide +kernel)
theorem zw_1348 : Cond.instanceMethod yX6_readingsAtEnd ∈ lw_tbl := List.mem_of_getElem? (i := 1348) (by decide +kernel)
theorem zw_1349 : Cond.selects RX6 yX6_readingsAtEnd yX6_readingsAtEnd ∈ lw_tbl := List.mem_of_getElem? (i := 1349) (by decide +kernel)
theorem zw_1350 : Cond.code yX6_readingsAtEnd cX6_readingsAtEnd 3 (some .int) ∈ lw_tbl := List.mem_of_getElem? (i := 1350) (by decide +kernel)
theorem zw_1351 : Cond.methodLink RX11 382 yX11_slotsHeld ∈ lw_tbl := List.mem_of_getElem? (i := 1351) (by decide +kernel)
theorem zw_1353 : Cond.instanceMethod yX11_slotsHeld ∈ lw_tbl := List.mem_of_getElem? (i := 1353) (by decide +kernel)
theorem zw_1354 : Cond.code yX11_slotsHeld cX11_slotsHeld 3 (some .int) ∈ lw_tbl := List.mem_of_getElem? (i := 1354) (by decide +kernel)
theorem zw_1355 : Cond.classLink RL 10 RX12 ∈ lw_tbl := List.mem_of_getElem? (i := 1355) (by decide +kernel)
theorem zw_1356 : Cond.instantiable RX12 55 ∈ lw_tbl := List.mem_of_getElem? (i := 1356) (by decide +kernel)
theorem zw_1357 : Cond.methodLink RL 12 yX12_init ∈ lw_tbl := List.mem_of_getElem? (i := 1357) (by decide +kernel)
theorem zw_1358 : Cond.instanceMethod yX12_init ∈ lw_tbl := List.mem_of_getElem? (i := 1358) (by decide +kernel)
theorem zw_1359 : Cond.code yX12_init cX12_init 1 none ∈ lw_tbl := List.mem_of_getElem? (i := 1359) (by decide +kernel)
theorem zw_1360 : Cond.methodLink RX12 7 objectInit ∈ lw_tbl := List.mem_of_getElem? (i := 1360) (by decide +kernel)
theorem zw_1361 : Cond.methodLink RX12 107 yX12_plain ∈ lw_tbl := List.mem_of_getElem? (i := 1361) (by decide +kernel)
theorem zw_1363 : Cond.instanceMethod yX12_plain ∈ lw_tbl := List.mem_of_getElem? (i := 1363) (by decide +kernel)
theorem zw_1364 : Cond.code yX12_plain cX12_plain 2 none ∈ lw_tbl := List.mem_of_getElem? (i := 1364) (by decide +kernel)
theorem zw_1365 : Cond.methodLink RX12 114 yX12_letters ∈ lw_tbl := List.mem_of_getElem? (i := 1365) (by decide +kernel)
theorem zw_1366 : Cond.static yX12_letters ∈ lw_tbl := List.mem_of_getElem? (i := 1366) (by decide +kernel)
theorem zw_1367 : Cond.code yX12_letters cX12_letters 7 (some .long) ∈ lw_tbl := List.mem_of_getElem? (i := 1367) (by decide +kernel)
theorem zw_1368 : Cond.methodLink RX12 135 yX12_appends ∈ lw_tbl := List.mem_of_getElem? (i := 1368) (by decide +kernel)
theorem zw_1369 : Cond.static yX12_appends ∈ lw_tbl := List.mem_of_getElem? (i := 1369) (by decide +kernel)
theorem zw_1370 : Cond.code yX12_appends cX12_appends 3 (some .long) ∈ lw_tbl := List.mem_of_getElem? (i := 1370) (by decide +kernel)
theorem zw_1371 : Cond.constantLong RX12 133 (27) ∈ lw_tbl := List.mem_of_getElem? (i := 1371) (by decide +kernel)
theorem zw_1372 : Cond.methodLink RX12 118 yX12_begins ∈ lw_tbl := List.mem_of_getElem? (i := 1372) (by decide +kernel)
theorem zw_1374 : Cond.instanceMethod yX12_begins ∈ lw_tbl := List.mem_of_getElem? (i := 1374) (by decide +kernel)
theorem zw_1375 : Cond.code yX12_begins cX12_begins 2 none ∈ lw_tbl := List.mem_of_getElem? (i := 1375) (by decide +kernel)
theorem zw_1376 : Cond.methodLink RX12 121 yX12_keepsRow ∈ lw_tbl := List.mem_of_getElem? (i := 1376) (by decide +kernel)
theorem zw_1378 : Cond.instanceMethod yX12_keepsRow ∈ lw_tbl := List.mem_of_getElem? (i := 1378) (by decide +kernel)
theorem zw_1379 : Cond.code yX12_keepsRow cX12_keepsRow 2 none ∈ lw_tbl := List.mem_of_getElem? (i := 1379) (by decide +kernel)
theorem zw_1380 : Cond.fieldLink RX12 13 "WarpDeskModel" "tape" "[B" ∈ lw_tbl := List.mem_of_getElem? (i := 1380) (by decide +kernel)
theorem zw_1381 : Cond.fieldLink RX12 124 "WarpDeskModel" "taped" "I" ∈ lw_tbl := List.mem_of_getElem? (i := 1381) (by decide +kernel)
theorem zw_1382 : Cond.fieldLink RX12 17 "WarpDeskModel" "text" "[B" ∈ lw_tbl := List.mem_of_getElem? (i := 1382) (by decide +kernel)
theorem zw_1383 : Cond.fieldLink RX12 130 "WarpDeskModel" "size" "I" ∈ lw_tbl := List.mem_of_getElem? (i := 1383) (by decide +kernel)
theorem zw_1384 : Cond.fieldLink RX12 20 "WarpDeskModel" "tKind" "[I" ∈ lw_tbl := List.mem_of_getElem? (i := 1384) (by decide +kernel)
theorem zw_1385 : Cond.fieldLink RX12 24 "WarpDeskModel" "tPlace" "[I" ∈ lw_tbl := List.mem_of_getElem? (i := 1385) (by decide +kernel)
theorem zw_1386 : Cond.fieldLink RX12 27 "WarpDeskModel" "tValue" "[I" ∈ lw_tbl := List.mem_of_getElem? (i := 1386) (by decide +kernel)
theorem zw_1387 : Cond.fieldLink RX12 30 "WarpDeskModel" "tName" "[J" ∈ lw_tbl := List.mem_of_getElem? (i := 1387) (by decide +kernel)
theorem zw_1388 : Cond.fieldLink RX12 34 "WarpDeskModel" "keys" "[J" ∈ lw_tbl := List.mem_of_getElem? (i := 1388) (by decide +kernel)
theorem zw_1389 : Cond.fieldLink RX12 139 "WarpDeskModel" "tokens" "I" ∈ lw_tbl := List.mem_of_getElem? (i := 1389) (by decide +kernel)
theorem zw_1390 : Cond.fieldLink RX12 164 "WarpDeskModel" "t" "I" ∈ lw_tbl := List.mem_of_getElem? (i := 1390) (by decide +kernel)
theorem zw_1391 : Cond.fieldLink RX12 161 "WarpDeskModel" "fault" "I" ∈ lw_tbl := List.mem_of_getElem? (i := 1391) (by decide +kernel)
theorem zw_1393 : Cond.fieldLink RX12 176 "WarpDeskModel" "worst" "I" ∈ lw_tbl := List.mem_of_getElem? (i := 1393) (by decide +kernel)
theorem zw_1395 : Cond.fieldLink RX12 37 "WarpDeskModel" "place" "I" ∈ lw_tbl := List.mem_of_getElem? (i := 1395) (by decide +kernel)
theorem zw_1396 : Cond.fieldLink RX12 170 "WarpDeskModel" "here" "I" ∈ lw_tbl := List.mem_of_getElem? (i := 1396) (by decide +kernel)
theorem zw_1399 : Cond.fieldLink RX12 111 "WarpDeskModel" "cause" "I" ∈ lw_tbl := List.mem_of_getElem? (i := 1399) (by decide +kernel)
theorem zw_1400 : Cond.fieldLink RX12 197 "WarpDeskModel" "live" "I" ∈ lw_tbl := List.mem_of_getElem? (i := 1400) (by decide +kernel)
theorem zw_1401 : Cond.fieldLink RX12 200 "WarpDeskModel" "side" "I" ∈ lw_tbl := List.mem_of_getElem? (i := 1401) (by decide +kernel)
theorem zw_1402 : Cond.fieldLink RX12 203 "WarpDeskModel" "names" "I" ∈ lw_tbl := List.mem_of_getElem? (i := 1402) (by decide +kernel)
theorem zw_1403 : Cond.fieldLink RX12 40 "WarpDeskModel" "nameOf" "[J" ∈ lw_tbl := List.mem_of_getElem? (i := 1403) (by decide +kernel)
theorem zw_1404 : Cond.fieldLink RX12 43 "WarpDeskModel" "placesTold" "[I" ∈ lw_tbl := List.mem_of_getElem? (i := 1404) (by decide +kernel)
theorem zw_1405 : Cond.fieldLink RX12 46 "WarpDeskModel" "seriesTold" "[I" ∈ lw_tbl := List.mem_of_getElem? (i := 1405) (by decide +kernel)
theorem zw_1406 : Cond.fieldLink RX12 49 "WarpDeskModel" "queries" "[I" ∈ lw_tbl := List.mem_of_getElem? (i := 1406) (by decide +kernel)
theorem zw_1407 : Cond.fieldLink RX12 52 "WarpDeskModel" "queryMany" "[I" ∈ lw_tbl := List.mem_of_getElem? (i := 1407) (by decide +kernel)
theorem zw_1408 : Cond.fieldLink RX12 55 "WarpDeskModel" "queryAt" "[I" ∈ lw_tbl := List.mem_of_getElem? (i := 1408) (by decide +kernel)
theorem zw_1409 : Cond.fieldLink RX12 58 "WarpDeskModel" "bandTold" "[I" ∈ lw_tbl := List.mem_of_getElem? (i := 1409) (by decide +kernel)
theorem zw_1410 : Cond.fieldLink RX12 61 "WarpDeskModel" "levelTold" "[I" ∈ lw_tbl := List.mem_of_getElem? (i := 1410) (by decide +kernel)
theorem zw_1411 : Cond.fieldLink RX12 64 "WarpDeskModel" "costTold" "[I" ∈ lw_tbl := List.mem_of_getElem? (i := 1411) (by decide +kernel)
theorem zw_1412 : Cond.fieldLink RX12 67 "WarpDeskModel" "apartTold" "[I" ∈ lw_tbl := List.mem_of_getElem? (i := 1412) (by decide +kernel)
theorem zw_1413 : Cond.fieldLink RX12 70 "WarpDeskModel" "now" "[I" ∈ lw_tbl := List.mem_of_getElem? (i := 1413) (by decide +kernel)
theorem zw_1414 : Cond.fieldLink RX12 73 "WarpDeskModel" "row" "[I" ∈ lw_tbl := List.mem_of_getElem? (i := 1414) (by decide +kernel)
theorem zw_1416 : Cond.fieldLink RX12 76 "WarpDeskModel" "firstAt" "[I" ∈ lw_tbl := List.mem_of_getElem? (i := 1416) (by decide +kernel)
theorem zw_1417 : Cond.fieldLink RX12 79 "WarpDeskModel" "otherAt" "[I" ∈ lw_tbl := List.mem_of_getElem? (i := 1417) (by decide +kernel)
theorem zw_1418 : Cond.fieldLink RX12 82 "WarpDeskModel" "tableAt" "[I" ∈ lw_tbl := List.mem_of_getElem? (i := 1418) (by decide +kernel)
theorem zw_1422 : Cond.fieldLink RX12 209 "WarpDeskModel" "undos" "I" ∈ lw_tbl := List.mem_of_getElem? (i := 1422) (by decide +kernel)
theorem zw_1423 : Cond.fieldLink RX12 85 "WarpDeskModel" "history" "[I" ∈ lw_tbl := List.mem_of_getElem? (i := 1423) (by decide +kernel)
theorem zw_1424 : Cond.fieldLink RX12 88 "WarpDeskModel" "wayAt" "[I" ∈ lw_tbl := List.mem_of_getElem? (i := 1424) (by decide +kernel)
theorem zw_1426 : Cond.fieldLink RX12 91 "WarpDeskModel" "farBy" "[I" ∈ lw_tbl := List.mem_of_getElem? (i := 1426) (by decide +kernel)
theorem zw_1427 : Cond.fieldLink RX12 94 "WarpDeskModel" "searchBy" "[I" ∈ lw_tbl := List.mem_of_getElem? (i := 1427) (by decide +kernel)
theorem zw_1429 : Cond.fieldLink RX12 97 "WarpDeskModel" "matchAt" "[I" ∈ lw_tbl := List.mem_of_getElem? (i := 1429) (by decide +kernel)
theorem zw_1431 : Cond.fieldLink RX12 100 "WarpDeskModel" "isHeld" "[Z" ∈ lw_tbl := List.mem_of_getElem? (i := 1431) (by decide +kernel)
theorem zw_1432 : Cond.fieldLink RX12 104 "WarpDeskModel" "heldRows" "[I" ∈ lw_tbl := List.mem_of_getElem? (i := 1432) (by decide +kernel)
theorem zw_1544 : Cond.arrayClass .long ∈ lw_tbl := List.mem_of_getElem? (i := 1544) (by decide +kernel)
theorem zw_1545 : Cond.methodLink RL 17 yX12_feed ∈ lw_tbl := List.mem_of_getElem? (i := 1545) (by decide +kernel)
theorem zw_1546 : Cond.instanceMethod yX12_feed ∈ lw_tbl := List.mem_of_getElem? (i := 1546) (by decide +kernel)
theorem zw_1547 : Cond.selects RX12 yX12_feed yX12_feed ∈ lw_tbl := List.mem_of_getElem? (i := 1547) (by decide +kernel)
theorem zw_1548 : Cond.code yX12_feed cX12_feed 6 (some .int) ∈ lw_tbl := List.mem_of_getElem? (i := 1548) (by decide +kernel)
theorem zw_1549 : Cond.methodLink RX12 127 yX12_lays ∈ lw_tbl := List.mem_of_getElem? (i := 1549) (by decide +kernel)
theorem zw_1551 : Cond.instanceMethod yX12_lays ∈ lw_tbl := List.mem_of_getElem? (i := 1551) (by decide +kernel)
theorem zw_1552 : Cond.code yX12_lays cX12_lays 3 none ∈ lw_tbl := List.mem_of_getElem? (i := 1552) (by decide +kernel)
theorem zw_1553 : Cond.methodLink RL 22 yX12_back ∈ lw_tbl := List.mem_of_getElem? (i := 1553) (by decide +kernel)
theorem zw_1554 : Cond.instanceMethod yX12_back ∈ lw_tbl := List.mem_of_getElem? (i := 1554) (by decide +kernel)
theorem zw_1555 : Cond.selects RX12 yX12_back yX12_back ∈ lw_tbl := List.mem_of_getElem? (i := 1555) (by decide +kernel)
theorem zw_1556 : Cond.code yX12_back cX12_back 2 (some .int) ∈ lw_tbl := List.mem_of_getElem? (i := 1556) (by decide +kernel)
theorem zw_1557 : Cond.methodLink RL 27 yX12_read ∈ lw_tbl := List.mem_of_getElem? (i := 1557) (by decide +kernel)
theorem zw_1558 : Cond.instanceMethod yX12_read ∈ lw_tbl := List.mem_of_getElem? (i := 1558) (by decide +kernel)
theorem zw_1559 : Cond.selects RX12 yX12_read yX12_read ∈ lw_tbl := List.mem_of_getElem? (i := 1559) (by decide +kernel)
theorem zw_1560 : Cond.code yX12_read cX12_read 2 (some .int) ∈ lw_tbl := List.mem_of_getElem? (i := 1560) (by decide +kernel)
theorem zw_1561 : Cond.methodLink RX12 194 yX12_cut ∈ lw_tbl := List.mem_of_getElem? (i := 1561) (by decide +kernel)
theorem zw_1563 : Cond.instanceMethod yX12_cut ∈ lw_tbl := List.mem_of_getElem? (i := 1563) (by decide +kernel)
theorem zw_1564 : Cond.code yX12_cut cX12_cut 8 none ∈ lw_tbl := List.mem_of_getElem? (i := 1564) (by decide +kernel)
theorem zw_1565 : Cond.methodLink RX12 142 yX12_byteAt ∈ lw_tbl := List.mem_of_getElem? (i := 1565) (by decide +kernel)
theorem zw_1567 : Cond.instanceMethod yX12_byteAt ∈ lw_tbl := List.mem_of_getElem? (i := 1567) (by decide +kernel)
theorem zw_1568 : Cond.code yX12_byteAt cX12_byteAt 2 (some .int) ∈ lw_tbl := List.mem_of_getElem? (i := 1568) (by decide +kernel)
theorem zw_1569 : Cond.methodLink RX12 146 yX12_token ∈ lw_tbl := List.mem_of_getElem? (i := 1569) (by decide +kernel)
theorem zw_1571 : Cond.instanceMethod yX12_token ∈ lw_tbl := List.mem_of_getElem? (i := 1571) (by decide +kernel)
theorem zw_1572 : Cond.code yX12_token cX12_token 6 none ∈ lw_tbl := List.mem_of_getElem? (i := 1572) (by decide +kernel)
theorem zw_1583 : Cond.methodLink RX12 188 yX12_is ∈ lw_tbl := List.mem_of_getElem? (i := 1583) (by decide +kernel)
theorem zw_1585 : Cond.instanceMethod yX12_is ∈ lw_tbl := List.mem_of_getElem? (i := 1585) (by decide +kernel)
theorem zw_1586 : Cond.code yX12_is cX12_is 2 (some .boolean) ∈ lw_tbl := List.mem_of_getElem? (i := 1586) (by decide +kernel)
theorem zw_1607 : Cond.constant RX12 239 (100000) ∈ lw_tbl := List.mem_of_getElem? (i := 1607) (by decide +kernel)
theorem zw_1636 : Cond.methodLink RL 31 yX12_place ∈ lw_tbl := List.mem_of_getElem? (i := 1636) (by decide +kernel)
theorem zw_1637 : Cond.instanceMethod yX12_place ∈ lw_tbl := List.mem_of_getElem? (i := 1637) (by decide +kernel)
theorem zw_1638 : Cond.selects RX12 yX12_place yX12_place ∈ lw_tbl := List.mem_of_getElem? (i := 1638) (by decide +kernel)
theorem zw_1639 : Cond.code yX12_place cX12_place 1 (some .int) ∈ lw_tbl := List.mem_of_getElem? (i := 1639) (by decide +kernel)
theorem zw_1640 : Cond.methodLink RL 35 yX12_cause ∈ lw_tbl := List.mem_of_getElem? (i := 1640) (by decide +kernel)
theorem zw_1641 : Cond.instanceMethod yX12_cause ∈ lw_tbl := List.mem_of_getElem? (i := 1641) (by decide +kernel)
theorem zw_1642 : Cond.selects RX12 yX12_cause yX12_cause ∈ lw_tbl := List.mem_of_getElem? (i := 1642) (by decide +kernel)
theorem zw_1643 : Cond.code yX12_cause cX12_cause 1 (some .int) ∈ lw_tbl := List.mem_of_getElem? (i := 1643) (by decide +kernel)
theorem zw_1644 : Cond.methodLink RL 39 yX12_at ∈ lw_tbl := List.mem_of_getElem? (i := 1644) (by decide +kernel)
theorem zw_1645 : Cond.instanceMethod yX12_at ∈ lw_tbl := List.mem_of_getElem? (i := 1645) (by decide +kernel)
theorem zw_1646 : Cond.selects RX12 yX12_at yX12_at ∈ lw_tbl := List.mem_of_getElem? (i := 1646) (by decide +kernel)
theorem zw_1647 : Cond.code yX12_at cX12_at 2 (some .int) ∈ lw_tbl := List.mem_of_getElem? (i := 1647) (by decide +kernel)
theorem zw_1648 : Cond.methodLink RX12 320 yX12_isThere ∈ lw_tbl := List.mem_of_getElem? (i := 1648) (by decide +kernel)
theorem zw_1650 : Cond.instanceMethod yX12_isThere ∈ lw_tbl := List.mem_of_getElem? (i := 1650) (by decide +kernel)
theorem zw_1651 : Cond.code yX12_isThere cX12_isThere 2 (some .boolean) ∈ lw_tbl := List.mem_of_getElem? (i := 1651) (by decide +kernel)
theorem zw_1652 : Cond.methodLink RX12 248 yX12_isPlace ∈ lw_tbl := List.mem_of_getElem? (i := 1652) (by decide +kernel)
theorem zw_1654 : Cond.instanceMethod yX12_isPlace ∈ lw_tbl := List.mem_of_getElem? (i := 1654) (by decide +kernel)
theorem zw_1655 : Cond.code yX12_isPlace cX12_isPlace 2 (some .boolean) ∈ lw_tbl := List.mem_of_getElem? (i := 1655) (by decide +kernel)
theorem zw_1656 : Cond.methodLink RX12 244 yX12_in ∈ lw_tbl := List.mem_of_getElem? (i := 1656) (by decide +kernel)
theorem zw_1657 : Cond.static yX12_in ∈ lw_tbl := List.mem_of_getElem? (i := 1657) (by decide +kernel)
theorem zw_1658 : Cond.code yX12_in cX12_in 3 (some .boolean) ∈ lw_tbl := List.mem_of_getElem? (i := 1658) (by decide +kernel)
theorem zw_1659 : Cond.methodLink RL 44 yX12_query ∈ lw_tbl := List.mem_of_getElem? (i := 1659) (by decide +kernel)
theorem zw_1660 : Cond.instanceMethod yX12_query ∈ lw_tbl := List.mem_of_getElem? (i := 1660) (by decide +kernel)
theorem zw_1661 : Cond.selects RX12 yX12_query yX12_query ∈ lw_tbl := List.mem_of_getElem? (i := 1661) (by decide +kernel)
theorem zw_1662 : Cond.code yX12_query cX12_query 3 (some .int) ∈ lw_tbl := List.mem_of_getElem? (i := 1662) (by decide +kernel)
theorem zw_1663 : Cond.methodLink RX12 251 yX12_isQuery ∈ lw_tbl := List.mem_of_getElem? (i := 1663) (by decide +kernel)
theorem zw_1665 : Cond.instanceMethod yX12_isQuery ∈ lw_tbl := List.mem_of_getElem? (i := 1665) (by decide +kernel)
theorem zw_1666 : Cond.code yX12_isQuery cX12_isQuery 2 (some .boolean) ∈ lw_tbl := List.mem_of_getElem? (i := 1666) (by decide +kernel)
theorem zw_1671 : Cond.methodLink RL 48 yX12_push ∈ lw_tbl := List.mem_of_getElem? (i := 1671) (by decide +kernel)
theorem zw_1672 : Cond.instanceMethod yX12_push ∈ lw_tbl := List.mem_of_getElem? (i := 1672) (by decide +kernel)
theorem zw_1673 : Cond.selects RX12 yX12_push yX12_push ∈ lw_tbl := List.mem_of_getElem? (i := 1673) (by decide +kernel)
theorem zw_1674 : Cond.code yX12_push cX12_push 2 (some .int) ∈ lw_tbl := List.mem_of_getElem? (i := 1674) (by decide +kernel)
theorem zw_1675 : Cond.methodLink RX12 329 yX12_comes ∈ lw_tbl := List.mem_of_getElem? (i := 1675) (by decide +kernel)
theorem zw_1677 : Cond.instanceMethod yX12_comes ∈ lw_tbl := List.mem_of_getElem? (i := 1677) (by decide +kernel)
theorem zw_1678 : Cond.code yX12_comes cX12_comes 2 (some .int) ∈ lw_tbl := List.mem_of_getElem? (i := 1678) (by decide +kernel)
theorem zw_1679 : Cond.methodLink RX12 323 yX12_copies ∈ lw_tbl := List.mem_of_getElem? (i := 1679) (by decide +kernel)
theorem zw_1681 : Cond.instanceMethod yX12_copies ∈ lw_tbl := List.mem_of_getElem? (i := 1681) (by decide +kernel)
theorem zw_1682 : Cond.code yX12_copies cX12_copies 2 none ∈ lw_tbl := List.mem_of_getElem? (i := 1682) (by decide +kernel)
theorem zw_1683 : Cond.methodLink RX12 326 yX12_records ∈ lw_tbl := List.mem_of_getElem? (i := 1683) (by decide +kernel)
theorem zw_1685 : Cond.instanceMethod yX12_records ∈ lw_tbl := List.mem_of_getElem? (i := 1685) (by decide +kernel)
theorem zw_1686 : Cond.code yX12_records cX12_records 2 none ∈ lw_tbl := List.mem_of_getElem? (i := 1686) (by decide +kernel)
theorem zw_1687 : Cond.methodLink RL 52 yX12_gap ∈ lw_tbl := List.mem_of_getElem? (i := 1687) (by decide +kernel)
theorem zw_1688 : Cond.instanceMethod yX12_gap ∈ lw_tbl := List.mem_of_getElem? (i := 1688) (by decide +kernel)
theorem zw_1689 : Cond.selects RX12 yX12_gap yX12_gap ∈ lw_tbl := List.mem_of_getElem? (i := 1689) (by decide +kernel)
theorem zw_1690 : Cond.code yX12_gap cX12_gap 1 (some .int) ∈ lw_tbl := List.mem_of_getElem? (i := 1690) (by decide +kernel)
theorem zw_1691 : Cond.methodLink RL 56 yX12_mend ∈ lw_tbl := List.mem_of_getElem? (i := 1691) (by decide +kernel)
theorem zw_1692 : Cond.instanceMethod yX12_mend ∈ lw_tbl := List.mem_of_getElem? (i := 1692) (by decide +kernel)
theorem zw_1693 : Cond.selects RX12 yX12_mend yX12_mend ∈ lw_tbl := List.mem_of_getElem? (i := 1693) (by decide +kernel)
theorem zw_1694 : Cond.code yX12_mend cX12_mend 2 (some .int) ∈ lw_tbl := List.mem_of_getElem? (i := 1694) (by decide +kernel)
theorem zw_1698 : Cond.methodLink RL 61 yX12_drop ∈ lw_tbl := List.mem_of_getElem? (i := 1698) (by decide +kernel)
theorem zw_1699 : Cond.instanceMethod yX12_drop ∈ lw_tbl := List.mem_of_getElem? (i := 1699) (by decide +kernel)
theorem zw_1700 : Cond.selects RX12 yX12_drop yX12_drop ∈ lw_tbl := List.mem_of_getElem? (i := 1700) (by decide +kernel)
theorem zw_1701 : Cond.code yX12_drop cX12_drop 3 (some .boolean) ∈ lw_tbl := List.mem_of_getElem? (i := 1701) (by decide +kernel)
theorem zw_1702 : Cond.methodLink RL 66 yX12_set ∈ lw_tbl := List.mem_of_getElem? (i := 1702) (by decide +kernel)
theorem zw_1703 : Cond.instanceMethod yX12_set ∈ lw_tbl := List.mem_of_getElem? (i := 1703) (by decide +kernel)
theorem zw_1704 : Cond.selects RX12 yX12_set yX12_set ∈ lw_tbl := List.mem_of_getElem? (i := 1704) (by decide +kernel)
theorem zw_1705 : Cond.code yX12_set cX12_set 5 (some .boolean) ∈ lw_tbl := List.mem_of_getElem? (i := 1705) (by decide +kernel)
theorem zw_1706 : Cond.methodLink RL 71 yX12_undo ∈ lw_tbl := List.mem_of_getElem? (i := 1706) (by decide +kernel)
theorem zw_1707 : Cond.instanceMethod yX12_undo ∈ lw_tbl := List.mem_of_getElem? (i := 1707) (by decide +kernel)
theorem zw_1708 : Cond.selects RX12 yX12_undo yX12_undo ∈ lw_tbl := List.mem_of_getElem? (i := 1708) (by decide +kernel)
theorem zw_1709 : Cond.code yX12_undo cX12_undo 2 (some .boolean) ∈ lw_tbl := List.mem_of_getElem? (i := 1709) (by decide +kernel)
theorem zw_1710 : Cond.methodLink RL 76 yX12_window ∈ lw_tbl := List.mem_of_getElem? (i := 1710) (by decide +kernel)
theorem zw_1711 : Cond.instanceMethod yX12_window ∈ lw_tbl := List.mem_of_getElem? (i := 1711) (by decide +kernel)
theorem zw_1712 : Cond.selects RX12 yX12_window yX12_window ∈ lw_tbl := List.mem_of_getElem? (i := 1712) (by decide +kernel)
theorem zw_1713 : Cond.code yX12_window cX12_window 4 (some .int) ∈ lw_tbl := List.mem_of_getElem? (i := 1713) (by decide +kernel)
theorem zw_1714 : Cond.methodLink RX12 257 yX12_isWindow ∈ lw_tbl := List.mem_of_getElem? (i := 1714) (by decide +kernel)
theorem zw_1716 : Cond.instanceMethod yX12_isWindow ∈ lw_tbl := List.mem_of_getElem? (i := 1716) (by decide +kernel)
theorem zw_1717 : Cond.code yX12_isWindow cX12_isWindow 4 (some .boolean) ∈ lw_tbl := List.mem_of_getElem? (i := 1717) (by decide +kernel)
theorem zw_1718 : Cond.constant RX12 332 (-1000000) ∈ lw_tbl := List.mem_of_getElem? (i := 1718) (by decide +kernel)
theorem zw_1731 : Cond.methodLink RL 80 yX12_level ∈ lw_tbl := List.mem_of_getElem? (i := 1731) (by decide +kernel)
theorem zw_1732 : Cond.instanceMethod yX12_level ∈ lw_tbl := List.mem_of_getElem? (i := 1732) (by decide +kernel)
theorem zw_1733 : Cond.selects RX12 yX12_level yX12_level ∈ lw_tbl := List.mem_of_getElem? (i := 1733) (by decide +kernel)
theorem zw_1734 : Cond.code yX12_level cX12_level 4 (some .int) ∈ lw_tbl := List.mem_of_getElem? (i := 1734) (by decide +kernel)
theorem zw_1743 : Cond.methodLink RL 165 yX12_flat ∈ lw_tbl := List.mem_of_getElem? (i := 1743) (by decide +kernel)
theorem zw_1744 : Cond.instanceMethod yX12_flat ∈ lw_tbl := List.mem_of_getElem? (i := 1744) (by decide +kernel)
theorem zw_1745 : Cond.selects RX12 yX12_flat yX12_flat ∈ lw_tbl := List.mem_of_getElem? (i := 1745) (by decide +kernel)
theorem zw_1746 : Cond.code yX12_flat cX12_flat 4 (some .int) ∈ lw_tbl := List.mem_of_getElem? (i := 1746) (by decide +kernel)
theorem zw_1747 : Cond.methodLink RL 169 yX12_whole ∈ lw_tbl := List.mem_of_getElem? (i := 1747) (by decide +kernel)
theorem zw_1748 : Cond.instanceMethod yX12_whole ∈ lw_tbl := List.mem_of_getElem? (i := 1748) (by decide +kernel)
theorem zw_1749 : Cond.selects RX12 yX12_whole yX12_whole ∈ lw_tbl := List.mem_of_getElem? (i := 1749) (by decide +kernel)
theorem zw_1750 : Cond.code yX12_whole cX12_whole 6 (some .int) ∈ lw_tbl := List.mem_of_getElem? (i := 1750) (by decide +kernel)
theorem zw_1751 : Cond.methodLink RL 84 yX12_distance ∈ lw_tbl := List.mem_of_getElem? (i := 1751) (by decide +kernel)
theorem zw_1752 : Cond.instanceMethod yX12_distance ∈ lw_tbl := List.mem_of_getElem? (i := 1752) (by decide +kernel)
theorem zw_1753 : Cond.selects RX12 yX12_distance yX12_distance ∈ lw_tbl := List.mem_of_getElem? (i := 1753) (by decide +kernel)
theorem zw_1754 : Cond.code yX12_distance cX12_distance 3 (some .int) ∈ lw_tbl := List.mem_of_getElem? (i := 1754) (by decide +kernel)
theorem zw_1755 : Cond.methodLink RX12 342 yX12_isOf ∈ lw_tbl := List.mem_of_getElem? (i := 1755) (by decide +kernel)
theorem zw_1757 : Cond.instanceMethod yX12_isOf ∈ lw_tbl := List.mem_of_getElem? (i := 1757) (by decide +kernel)
theorem zw_1758 : Cond.code yX12_isOf cX12_isOf 3 (some .boolean) ∈ lw_tbl := List.mem_of_getElem? (i := 1758) (by decide +kernel)
theorem zw_1799 : Cond.methodLink RL 88 yX12_bound ∈ lw_tbl := List.mem_of_getElem? (i := 1799) (by decide +kernel)
theorem zw_1800 : Cond.instanceMethod yX12_bound ∈ lw_tbl := List.mem_of_getElem? (i := 1800) (by decide +kernel)
theorem zw_1801 : Cond.selects RX12 yX12_bound yX12_bound ∈ lw_tbl := List.mem_of_getElem? (i := 1801) (by decide +kernel)
theorem zw_1802 : Cond.code yX12_bound cX12_bound 4 (some .int) ∈ lw_tbl := List.mem_of_getElem? (i := 1802) (by decide +kernel)
theorem zw_1816 : Cond.methodLink RL 93 yX12_look ∈ lw_tbl := List.mem_of_getElem? (i := 1816) (by decide +kernel)
theorem zw_1817 : Cond.instanceMethod yX12_look ∈ lw_tbl := List.mem_of_getElem? (i := 1817) (by decide +kernel)
theorem zw_1818 : Cond.selects RX12 yX12_look yX12_look ∈ lw_tbl := List.mem_of_getElem? (i := 1818) (by decide +kernel)
theorem zw_1819 : Cond.code yX12_look cX12_look 6 (some .int) ∈ lw_tbl := List.mem_of_getElem? (i := 1819) (by decide +kernel)
theorem zw_1824 : Cond.methodLink RL 121 yX12_alike ∈ lw_tbl := List.mem_of_getElem? (i := 1824) (by decide +kernel)
theorem zw_1825 : Cond.instanceMethod yX12_alike ∈ lw_tbl := List.mem_of_getElem? (i := 1825) (by decide +kernel)
theorem zw_1826 : Cond.selects RX12 yX12_alike yX12_alike ∈ lw_tbl := List.mem_of_getElem? (i := 1826) (by decide +kernel)
theorem zw_1827 : Cond.code yX12_alike cX12_alike 3 (some .int) ∈ lw_tbl := List.mem_of_getElem? (i := 1827) (by decide +kernel)
theorem zw_1828 : Cond.methodLink RL 113 yX12_way ∈ lw_tbl := List.mem_of_getElem? (i := 1828) (by decide +kernel)
theorem zw_1829 : Cond.instanceMethod yX12_way ∈ lw_tbl := List.mem_of_getElem? (i := 1829) (by decide +kernel)
theorem zw_1830 : Cond.selects RX12 yX12_way yX12_way ∈ lw_tbl := List.mem_of_getElem? (i := 1830) (by decide +kernel)
theorem zw_1831 : Cond.code yX12_way cX12_way 4 (some .int) ∈ lw_tbl := List.mem_of_getElem? (i := 1831) (by decide +kernel)
theorem zw_1836 : Cond.methodLink RL 141 yX12_lean ∈ lw_tbl := List.mem_of_getElem? (i := 1836) (by decide +kernel)
theorem zw_1837 : Cond.instanceMethod yX12_lean ∈ lw_tbl := List.mem_of_getElem? (i := 1837) (by decide +kernel)
theorem zw_1838 : Cond.selects RX12 yX12_lean yX12_lean ∈ lw_tbl := List.mem_of_getElem? (i := 1838) (by decide +kernel)
theorem zw_1839 : Cond.code yX12_lean cX12_lean 8 (some .int) ∈ lw_tbl := List.mem_of_getElem? (i := 1839) (by decide +kernel)
theorem zw_1840 : Cond.methodLink RL 97 yX12_best ∈ lw_tbl := List.mem_of_getElem? (i := 1840) (by decide +kernel)
theorem zw_1841 : Cond.instanceMethod yX12_best ∈ lw_tbl := List.mem_of_getElem? (i := 1841) (by decide +kernel)
theorem zw_1842 : Cond.selects RX12 yX12_best yX12_best ∈ lw_tbl := List.mem_of_getElem? (i := 1842) (by decide +kernel)
theorem zw_1843 : Cond.code yX12_best cX12_best 4 (some .int) ∈ lw_tbl := List.mem_of_getElem? (i := 1843) (by decide +kernel)
theorem zw_1852 : Cond.methodLink RL 117 yX12_needs ∈ lw_tbl := List.mem_of_getElem? (i := 1852) (by decide +kernel)
theorem zw_1853 : Cond.instanceMethod yX12_needs ∈ lw_tbl := List.mem_of_getElem? (i := 1853) (by decide +kernel)
theorem zw_1854 : Cond.selects RX12 yX12_needs yX12_needs ∈ lw_tbl := List.mem_of_getElem? (i := 1854) (by decide +kernel)
theorem zw_1855 : Cond.code yX12_needs cX12_needs 6 (some .int) ∈ lw_tbl := List.mem_of_getElem? (i := 1855) (by decide +kernel)
theorem zw_1856 : Cond.methodLink RL 101 yX12_search ∈ lw_tbl := List.mem_of_getElem? (i := 1856) (by decide +kernel)
theorem zw_1857 : Cond.instanceMethod yX12_search ∈ lw_tbl := List.mem_of_getElem? (i := 1857) (by decide +kernel)
theorem zw_1858 : Cond.selects RX12 yX12_search yX12_search ∈ lw_tbl := List.mem_of_getElem? (i := 1858) (by decide +kernel)
theorem zw_1859 : Cond.code yX12_search cX12_search 3 (some .int) ∈ lw_tbl := List.mem_of_getElem? (i := 1859) (by decide +kernel)
theorem zw_1864 : Cond.methodLink RL 105 yX12_match ∈ lw_tbl := List.mem_of_getElem? (i := 1864) (by decide +kernel)
theorem zw_1865 : Cond.instanceMethod yX12_match ∈ lw_tbl := List.mem_of_getElem? (i := 1865) (by decide +kernel)
theorem zw_1866 : Cond.selects RX12 yX12_match yX12_match ∈ lw_tbl := List.mem_of_getElem? (i := 1866) (by decide +kernel)
theorem zw_1867 : Cond.code yX12_match cX12_match 4 (some .int) ∈ lw_tbl := List.mem_of_getElem? (i := 1867) (by decide +kernel)
theorem zw_1876 : Cond.methodLink RL 109 yX12_within ∈ lw_tbl := List.mem_of_getElem? (i := 1876) (by decide +kernel)
theorem zw_1877 : Cond.instanceMethod yX12_within ∈ lw_tbl := List.mem_of_getElem? (i := 1877) (by decide +kernel)
theorem zw_1878 : Cond.selects RX12 yX12_within yX12_within ∈ lw_tbl := List.mem_of_getElem? (i := 1878) (by decide +kernel)
theorem zw_1879 : Cond.code yX12_within cX12_within 5 (some .int) ∈ lw_tbl := List.mem_of_getElem? (i := 1879) (by decide +kernel)
theorem zw_1880 : Cond.methodLink RL 137 yX12_cover ∈ lw_tbl := List.mem_of_getElem? (i := 1880) (by decide +kernel)
theorem zw_1881 : Cond.instanceMethod yX12_cover ∈ lw_tbl := List.mem_of_getElem? (i := 1881) (by decide +kernel)
theorem zw_1882 : Cond.selects RX12 yX12_cover yX12_cover ∈ lw_tbl := List.mem_of_getElem? (i := 1882) (by decide +kernel)
theorem zw_1883 : Cond.code yX12_cover cX12_cover 7 (some .int) ∈ lw_tbl := List.mem_of_getElem? (i := 1883) (by decide +kernel)
theorem zw_1884 : Cond.methodLink RL 149 yX12_rank ∈ lw_tbl := List.mem_of_getElem? (i := 1884) (by decide +kernel)
theorem zw_1885 : Cond.instanceMethod yX12_rank ∈ lw_tbl := List.mem_of_getElem? (i := 1885) (by decide +kernel)
theorem zw_1886 : Cond.selects RX12 yX12_rank yX12_rank ∈ lw_tbl := List.mem_of_getElem? (i := 1886) (by decide +kernel)
theorem zw_1887 : Cond.code yX12_rank cX12_rank 3 (some .int) ∈ lw_tbl := List.mem_of_getElem? (i := 1887) (by decide +kernel)
theorem zw_1892 : Cond.methodLink RL 153 yX12_kth ∈ lw_tbl := List.mem_of_getElem? (i := 1892) (by decide +kernel)
theorem zw_1893 : Cond.instanceMethod yX12_kth ∈ lw_tbl := List.mem_of_getElem? (i := 1893) (by decide +kernel)
theorem zw_1894 : Cond.selects RX12 yX12_kth yX12_kth ∈ lw_tbl := List.mem_of_getElem? (i := 1894) (by decide +kernel)
theorem zw_1895 : Cond.code yX12_kth cX12_kth 5 (some .int) ∈ lw_tbl := List.mem_of_getElem? (i := 1895) (by decide +kernel)
theorem zw_1896 : Cond.methodLink RL 157 yX12_slack ∈ lw_tbl := List.mem_of_getElem? (i := 1896) (by decide +kernel)
theorem zw_1897 : Cond.instanceMethod yX12_slack ∈ lw_tbl := List.mem_of_getElem? (i := 1897) (by decide +kernel)
theorem zw_1898 : Cond.selects RX12 yX12_slack yX12_slack ∈ lw_tbl := List.mem_of_getElem? (i := 1898) (by decide +kernel)
theorem zw_1899 : Cond.code yX12_slack cX12_slack 5 (some .int) ∈ lw_tbl := List.mem_of_getElem? (i := 1899) (by decide +kernel)
theorem zw_1903 : Cond.methodLink RL 161 yX12_turns ∈ lw_tbl := List.mem_of_getElem? (i := 1903) (by decide +kernel)
theorem zw_1904 : Cond.instanceMethod yX12_turns ∈ lw_tbl := List.mem_of_getElem? (i := 1904) (by decide +kernel)
theorem zw_1905 : Cond.selects RX12 yX12_turns yX12_turns ∈ lw_tbl := List.mem_of_getElem? (i := 1905) (by decide +kernel)
theorem zw_1906 : Cond.code yX12_turns cX12_turns 6 (some .int) ∈ lw_tbl := List.mem_of_getElem? (i := 1906) (by decide +kernel)
theorem zw_1907 : Cond.methodLink RL 173 yX12_fired ∈ lw_tbl := List.mem_of_getElem? (i := 1907) (by decide +kernel)
theorem zw_1908 : Cond.instanceMethod yX12_fired ∈ lw_tbl := List.mem_of_getElem? (i := 1908) (by decide +kernel)
theorem zw_1909 : Cond.selects RX12 yX12_fired yX12_fired ∈ lw_tbl := List.mem_of_getElem? (i := 1909) (by decide +kernel)
theorem zw_1910 : Cond.code yX12_fired cX12_fired 5 (some .int) ∈ lw_tbl := List.mem_of_getElem? (i := 1910) (by decide +kernel)
theorem zw_1911 : Cond.methodLink RL 145 yX12_whose ∈ lw_tbl := List.mem_of_getElem? (i := 1911) (by decide +kernel)
theorem zw_1912 : Cond.instanceMethod yX12_whose ∈ lw_tbl := List.mem_of_getElem? (i := 1912) (by decide +kernel)
theorem zw_1913 : Cond.selects RX12 yX12_whose yX12_whose ∈ lw_tbl := List.mem_of_getElem? (i := 1913) (by decide +kernel)
theorem zw_1914 : Cond.code yX12_whose cX12_whose 7 (some .int) ∈ lw_tbl := List.mem_of_getElem? (i := 1914) (by decide +kernel)
theorem zw_1915 : Cond.methodLink RL 125 yX12_near ∈ lw_tbl := List.mem_of_getElem? (i := 1915) (by decide +kernel)
theorem zw_1916 : Cond.instanceMethod yX12_near ∈ lw_tbl := List.mem_of_getElem? (i := 1916) (by decide +kernel)
theorem zw_1917 : Cond.selects RX12 yX12_near yX12_near ∈ lw_tbl := List.mem_of_getElem? (i := 1917) (by decide +kernel)
theorem zw_1918 : Cond.code yX12_near cX12_near 5 (some .int) ∈ lw_tbl := List.mem_of_getElem? (i := 1918) (by decide +kernel)
theorem zw_1927 : Cond.methodLink RL 129 yX12_pair ∈ lw_tbl := List.mem_of_getElem? (i := 1927) (by decide +kernel)
theorem zw_1928 : Cond.instanceMethod yX12_pair ∈ lw_tbl := List.mem_of_getElem? (i := 1928) (by decide +kernel)
theorem zw_1929 : Cond.selects RX12 yX12_pair yX12_pair ∈ lw_tbl := List.mem_of_getElem? (i := 1929) (by decide +kernel)
theorem zw_1930 : Cond.code yX12_pair cX12_pair 9 (some .int) ∈ lw_tbl := List.mem_of_getElem? (i := 1930) (by decide +kernel)
theorem zw_1931 : Cond.methodLink RL 133 yX12_odd ∈ lw_tbl := List.mem_of_getElem? (i := 1931) (by decide +kernel)
theorem zw_1932 : Cond.instanceMethod yX12_odd ∈ lw_tbl := List.mem_of_getElem? (i := 1932) (by decide +kernel)
theorem zw_1933 : Cond.selects RX12 yX12_odd yX12_odd ∈ lw_tbl := List.mem_of_getElem? (i := 1933) (by decide +kernel)
theorem zw_1934 : Cond.code yX12_odd cX12_odd 6 (some .int) ∈ lw_tbl := List.mem_of_getElem? (i := 1934) (by decide +kernel)
theorem zw_1935 : Cond.methodLink RL 177 yX12_hold ∈ lw_tbl := List.mem_of_getElem? (i := 1935) (by decide +kernel)
theorem zw_1936 : Cond.instanceMethod yX12_hold ∈ lw_tbl := List.mem_of_getElem? (i := 1936) (by decide +kernel)
theorem zw_1937 : Cond.selects RX12 yX12_hold yX12_hold ∈ lw_tbl := List.mem_of_getElem? (i := 1937) (by decide +kernel)
theorem zw_1938 : Cond.code yX12_hold cX12_hold 3 (some .boolean) ∈ lw_tbl := List.mem_of_getElem? (i := 1938) (by decide +kernel)
theorem zw_1939 : Cond.methodLink RL 181 yX12_restore ∈ lw_tbl := List.mem_of_getElem? (i := 1939) (by decide +kernel)
theorem zw_1940 : Cond.instanceMethod yX12_restore ∈ lw_tbl := List.mem_of_getElem? (i := 1940) (by decide +kernel)
theorem zw_1941 : Cond.selects RX12 yX12_restore yX12_restore ∈ lw_tbl := List.mem_of_getElem? (i := 1941) (by decide +kernel)
theorem zw_1942 : Cond.code yX12_restore cX12_restore 3 (some .boolean) ∈ lw_tbl := List.mem_of_getElem? (i := 1942) (by decide +kernel)
theorem zw_1943 : Cond.methodLink RL 185 yX12_count ∈ lw_tbl := List.mem_of_getElem? (i := 1943) (by decide +kernel)
theorem zw_1944 : Cond.instanceMethod yX12_count ∈ lw_tbl := List.mem_of_getElem? (i := 1944) (by decide +kernel)
theorem zw_1945 : Cond.selects RX12 yX12_count yX12_count ∈ lw_tbl := List.mem_of_getElem? (i := 1945) (by decide +kernel)
theorem zw_1946 : Cond.code yX12_count cX12_count 4 (some .int) ∈ lw_tbl := List.mem_of_getElem? (i := 1946) (by decide +kernel)
theorem zw_1947 : Cond.methodLink RX12 391 yX12_gaps ∈ lw_tbl := List.mem_of_getElem? (i := 1947) (by decide +kernel)
theorem zw_1949 : Cond.instanceMethod yX12_gaps ∈ lw_tbl := List.mem_of_getElem? (i := 1949) (by decide +kernel)
theorem zw_1950 : Cond.code yX12_gaps cX12_gaps 3 (some .int) ∈ lw_tbl := List.mem_of_getElem? (i := 1950) (by decide +kernel)
set_option maxRecDepth 20000 in
theorem inX0 : ∀ w ∈ wsX00, w ∈ lw_tbl := fun w h => (goodIn_r wsX00 [385, 387, 389, 391, 393] (by decide +kernel) (by decide +kernel) w h).1
set_option maxRecDepth 20000 in
theorem inX1 : ∀ w ∈ wsX10, w ∈ lw_tbl := fun w h => (goodIn_r wsX10 [416, 418, 420, 422, 424, 426, 428, 430, 432, 434, 436] (by decide +kernel) (by decide +kernel) w h).1
set_option maxRecDepth 20000 in
theorem inX2 : ∀ w ∈ wsX20, w ∈ lw_tbl := fun w h => (goodIn_r wsX20 [352, 354, 356, 358, 360, 362, 364, 366, 368, 370] (by decide +kernel) (by decide +kernel) w h).1
set_option maxRecDepth 20000 in
theorem inX3 : ∀ w ∈ wsX30, w ∈ lw_tbl := fun w h => (goodIn_r wsX30 [308, 310, 312, 314, 316] (by decide +kernel) (by decide +kernel) w h).1
set_option maxRecDepth 20000 in
theorem inX4 : ∀ w ∈ wsX40, w ∈ lw_tbl := fun w h => (goodIn_r wsX40 [223, 225, 227] (by decide +kernel) (by decide +kernel) w h).1
set_option maxRecDepth 20000 in
theorem inX5 : ∀ w ∈ wsX50, w ∈ lw_tbl := fun w h => (goodIn_r wsX50 [247, 249, 251, 253, 255, 257, 259, 261, 263, 265, 267, 269, 271] (by decide +kernel) (by decide +kernel) w h).1
set_option maxRecDepth 20000 in
theorem inX6 : ∀ w ∈ wsX60, w ∈ lw_tbl := fun w h => (goodIn_r wsX60 [285, 287, 289] (by decide +kernel) (by decide +kernel) w h).1
set_option maxRecDepth 20000 in
theorem inX7 : ∀ w ∈ wsX70, w ∈ lw_tbl := fun w h => (goodIn_r wsX70 [191] (by decide +kernel) (by decide +kernel) w h).1
set_option maxRecDepth 20000 in
theorem inX8 : ∀ w ∈ wsX80, w ∈ lw_tbl := fun w h => (goodIn_r wsX80 [202, 204, 206, 208] (by decide +kernel) (by decide +kernel) w h).1
set_option maxRecDepth 20000 in
theorem inX9 : ∀ w ∈ wsX90, w ∈ lw_tbl := fun w h => (goodIn_r wsX90 [464, 466, 468, 470, 472, 474, 476, 478, 480, 482, 484] (by decide +kernel) (by decide +kernel) w h).1
set_option maxRecDepth 20000 in
theorem inX10 : ∀ w ∈ wsX100, w ∈ lw_tbl := fun w h => (goodIn_r wsX100 [147, 149, 151, 153, 155, 157, 159] (by decide +kernel) (by decide +kernel) w h).1
set_option maxRecDepth 20000 in
theorem inX11 : ∀ w ∈ wsX110, w ∈ lw_tbl := fun w h => (goodIn_r wsX110 [497, 499, 501, 503, 505, 507, 509, 511, 513, 515] (by decide +kernel) (by decide +kernel) w h).1
set_option maxRecDepth 20000 in
theorem inX12 : ∀ w ∈ wsX120, w ∈ lw_tbl := fun w h => (goodIn_r wsX120 [1433, 1435, 1437, 1439, 1441, 1443, 1445, 1447, 1449, 1451, 1453, 1455, 1457, 1459, 1461, 1463, 1465, 1467, 1469, 1471, 1473, 1475, 1477, 1479, 1481, 1483, 1485, 1487, 1489, 1491, 1493, 1495, 1497, 1499, 1501, 1503, 1505, 1507, 1509, 1511, 1513, 1515, 1517, 1519, 1521, 1523, 1525, 1527, 1529, 1531, 1533, 1535, 1537, 1539, 1541] (by decide +kernel) (by decide +kernel) w h).1
end
section
theorem dL_law_0 : decode cL_law 0 = .ok (.new 7, 3) := by decide +kernel
theorem dL_law_1000 : decode cL_law 1000 = .ok (.iconst 3, 1) := by decide +kernel
theorem dL_law_1001 : decode cL_law 1001 = .ok (.iadd, 1) := by decide +kernel
theorem dL_law_1002 : decode cL_law 1002 = .ok (.iaload, 1) := by decide +kernel
theorem dL_law_1003 : decode cL_law 1003 = .ok (.invokevirtual 122, 3) := by decide +kernel
theorem dL_law_1006 : decode cL_law 1006 = .ok (.aload_n 2, 1) := by decide +kernel
theorem dL_law_1007 : decode cL_law 1007 = .ok (.aload_n 0, 1) := by decide +kernel
theorem dL_law_1008 : decode cL_law 1008 = .ok (.iload_n 3, 1) := by decide +kernel
theorem dL_law_1009 : decode cL_law 1009 = .ok (.iconst 1, 1) := by decide +kernel
theorem dL_law_1010 : decode cL_law 1010 = .ok (.iadd, 1) := by decide +kernel
theorem dL_law_1011 : decode cL_law 1011 = .ok (.iaload, 1) := by decide +kernel
theorem dL_law_1012 : decode cL_law 1012 = .ok (.aload_n 0, 1) := by decide +kernel
theorem dL_law_1013 : decode cL_law 1013 = .ok (.iload_n 3, 1) := by decide +kernel
theorem dL_law_1014 : decode cL_law 1014 = .ok (.iconst 2, 1) := by decide +kernel
theorem dL_law_1015 : decode cL_law 1015 = .ok (.iadd, 1) := by decide +kernel
theorem dL_law_1016 : decode cL_law 1016 = .ok (.iaload, 1) := by decide +kernel
theorem dL_law_1017 : decode cL_law 1017 = .ok (.aload_n 0, 1) := by decide +kernel
theorem dL_law_1018 : decode cL_law 1018 = .ok (.iload_n 3, 1) := by decide +kernel
theorem dL_law_1019 : decode cL_law 1019 = .ok (.iconst 3, 1) := by decide +kernel
theorem dL_law_1020 : decode cL_law 1020 = .ok (.iadd, 1) := by decide +kernel
theorem dL_law_1021 : decode cL_law 1021 = .ok (.iaload, 1) := by decide +kernel
theorem dL_law_1022 : decode cL_law 1022 = .ok (.invokevirtual 125, 3) := by decide +kernel
theorem dL_law_1025 : decode cL_law 1025 = .ok (.if_icmp .eq 440, 3) := by decide +kernel
theorem dL_law_1030 : decode cL_law 1030 = .ok (.aload_n 1, 1) := by decide +kernel
theorem dL_law_1031 : decode cL_law 1031 = .ok (.aload_n 0, 1) := by decide +kernel
theorem dL_law_1032 : decode cL_law 1032 = .ok (.iload_n 3, 1) := by decide +kernel
theorem dL_law_1033 : decode cL_law 1033 = .ok (.iconst 1, 1) := by decide +kernel
theorem dL_law_1034 : decode cL_law 1034 = .ok (.iadd, 1) := by decide +kernel
theorem dL_law_1035 : decode cL_law 1035 = .ok (.iaload, 1) := by decide +kernel
theorem dL_law_1036 : decode cL_law 1036 = .ok (.aload_n 0, 1) := by decide +kernel
theorem dL_law_1037 : decode cL_law 1037 = .ok (.iload_n 3, 1) := by decide +kernel
theorem dL_law_1038 : decode cL_law 1038 = .ok (.iconst 2, 1) := by decide +kernel
theorem dL_law_1039 : decode cL_law 1039 = .ok (.iadd, 1) := by decide +kernel
theorem dL_law_1040 : decode cL_law 1040 = .ok (.iaload, 1) := by decide +kernel
theorem dL_law_1041 : decode cL_law 1041 = .ok (.invokevirtual 126, 3) := by decide +kernel
theorem dL_law_1044 : decode cL_law 1044 = .ok (.aload_n 2, 1) := by decide +kernel
theorem dL_law_1045 : decode cL_law 1045 = .ok (.aload_n 0, 1) := by decide +kernel
theorem dL_law_1046 : decode cL_law 1046 = .ok (.iload_n 3, 1) := by decide +kernel
theorem dL_law_1047 : decode cL_law 1047 = .ok (.iconst 1, 1) := by decide +kernel
theorem dL_law_1048 : decode cL_law 1048 = .ok (.iadd, 1) := by decide +kernel
theorem dL_law_1049 : decode cL_law 1049 = .ok (.iaload, 1) := by decide +kernel
theorem dL_law_1050 : decode cL_law 1050 = .ok (.aload_n 0, 1) := by decide +kernel
theorem dL_law_1051 : decode cL_law 1051 = .ok (.iload_n 3, 1) := by decide +kernel
theorem dL_law_1052 : decode cL_law 1052 = .ok (.iconst 2, 1) := by decide +kernel
theorem dL_law_1053 : decode cL_law 1053 = .ok (.iadd, 1) := by decide +kernel
theorem dL_law_1054 : decode cL_law 1054 = .ok (.iaload, 1) := by decide +kernel
theorem dL_law_1055 : decode cL_law 1055 = .ok (.invokevirtual 129, 3) := by decide +kernel
theorem dL_law_1058 : decode cL_law 1058 = .ok (.if_icmp .eq 407, 3) := by decide +kernel
theorem dL_law_1063 : decode cL_law 1063 = .ok (.aload_n 1, 1) := by decide +kernel
theorem dL_law_1064 : decode cL_law 1064 = .ok (.aload_n 0, 1) := by decide +kernel
theorem dL_law_1065 : decode cL_law 1065 = .ok (.iload_n 3, 1) := by decide +kernel
theorem dL_law_1066 : decode cL_law 1066 = .ok (.iconst 1, 1) := by decide +kernel
theorem dL_law_1067 : decode cL_law 1067 = .ok (.iadd, 1) := by decide +kernel
theorem dL_law_1068 : decode cL_law 1068 = .ok (.iaload, 1) := by decide +kernel
theorem dL_law_1069 : decode cL_law 1069 = .ok (.aload_n 0, 1) := by decide +kernel
theorem dL_law_1070 : decode cL_law 1070 = .ok (.iload_n 3, 1) := by decide +kernel
theorem dL_law_1071 : decode cL_law 1071 = .ok (.iconst 2, 1) := by decide +kernel
theorem dL_law_1072 : decode cL_law 1072 = .ok (.iadd, 1) := by decide +kernel
theorem dL_law_1073 : decode cL_law 1073 = .ok (.iaload, 1) := by decide +kernel
theorem dL_law_1074 : decode cL_law 1074 = .ok (.invokevirtual 130, 3) := by decide +kernel
theorem dL_law_1077 : decode cL_law 1077 = .ok (.aload_n 2, 1) := by decide +kernel
theorem dL_law_1078 : decode cL_law 1078 = .ok (.aload_n 0, 1) := by decide +kernel
theorem dL_law_1079 : decode cL_law 1079 = .ok (.iload_n 3, 1) := by decide +kernel
theorem dL_law_1080 : decode cL_law 1080 = .ok (.iconst 1, 1) := by decide +kernel
theorem dL_law_1081 : decode cL_law 1081 = .ok (.iadd, 1) := by decide +kernel
theorem dL_law_1082 : decode cL_law 1082 = .ok (.iaload, 1) := by decide +kernel
theorem dL_law_1083 : decode cL_law 1083 = .ok (.aload_n 0, 1) := by decide +kernel
theorem dL_law_1084 : decode cL_law 1084 = .ok (.iload_n 3, 1) := by decide +kernel
theorem dL_law_1085 : decode cL_law 1085 = .ok (.iconst 2, 1) := by decide +kernel
theorem dL_law_1086 : decode cL_law 1086 = .ok (.iadd, 1) := by decide +kernel
theorem dL_law_1087 : decode cL_law 1087 = .ok (.iaload, 1) := by decide +kernel
theorem dL_law_1088 : decode cL_law 1088 = .ok (.invokevirtual 133, 3) := by decide +kernel
theorem dL_law_1091 : decode cL_law 1091 = .ok (.if_icmp .eq 374, 3) := by decide +kernel
theorem dL_law_1096 : decode cL_law 1096 = .ok (.aload_n 1, 1) := by decide +kernel
theorem dL_law_1097 : decode cL_law 1097 = .ok (.aload_n 0, 1) := by decide +kernel
theorem dL_law_1098 : decode cL_law 1098 = .ok (.iload_n 3, 1) := by decide +kernel
theorem dL_law_1099 : decode cL_law 1099 = .ok (.iconst 1, 1) := by decide +kernel
theorem dL_law_11 : decode cL_law 11 = .ok (.dup, 1) := by decide +kernel
theorem dL_law_1100 : decode cL_law 1100 = .ok (.iadd, 1) := by decide +kernel
theorem dL_law_1101 : decode cL_law 1101 = .ok (.iaload, 1) := by decide +kernel
theorem dL_law_1102 : decode cL_law 1102 = .ok (.aload_n 0, 1) := by decide +kernel
theorem dL_law_1103 : decode cL_law 1103 = .ok (.iload_n 3, 1) := by decide +kernel
theorem dL_law_1104 : decode cL_law 1104 = .ok (.iconst 2, 1) := by decide +kernel
theorem dL_law_1105 : decode cL_law 1105 = .ok (.iadd, 1) := by decide +kernel
theorem dL_law_1106 : decode cL_law 1106 = .ok (.iaload, 1) := by decide +kernel
theorem dL_law_1107 : decode cL_law 1107 = .ok (.invokevirtual 134, 3) := by decide +kernel
theorem dL_law_1110 : decode cL_law 1110 = .ok (.aload_n 2, 1) := by decide +kernel
theorem dL_law_1111 : decode cL_law 1111 = .ok (.aload_n 0, 1) := by decide +kernel
theorem dL_law_1112 : decode cL_law 1112 = .ok (.iload_n 3, 1) := by decide +kernel
theorem dL_law_1113 : decode cL_law 1113 = .ok (.iconst 1, 1) := by decide +kernel
theorem dL_law_1114 : decode cL_law 1114 = .ok (.iadd, 1) := by decide +kernel
theorem dL_law_1115 : decode cL_law 1115 = .ok (.iaload, 1) := by decide +kernel
theorem dL_law_1116 : decode cL_law 1116 = .ok (.aload_n 0, 1) := by decide +kernel
theorem dL_law_1117 : decode cL_law 1117 = .ok (.iload_n 3, 1) := by decide +kernel
theorem dL_law_1118 : decode cL_law 1118 = .ok (.iconst 2, 1) := by decide +kernel
theorem dL_law_1119 : decode cL_law 1119 = .ok (.iadd, 1) := by decide +kernel
theorem dL_law_1120 : decode cL_law 1120 = .ok (.iaload, 1) := by decide +kernel
theorem dL_law_1121 : decode cL_law 1121 = .ok (.invokevirtual 137, 3) := by decide +kernel
theorem dL_law_1124 : decode cL_law 1124 = .ok (.if_icmp .eq 341, 3) := by decide +kernel
theorem dL_law_1129 : decode cL_law 1129 = .ok (.aload_n 1, 1) := by decide +kernel
theorem dL_law_1130 : decode cL_law 1130 = .ok (.aload_n 0, 1) := by decide +kernel
theorem dL_law_1131 : decode cL_law 1131 = .ok (.iload_n 3, 1) := by decide +kernel
theorem dL_law_1132 : decode cL_law 1132 = .ok (.iconst 1, 1) := by decide +kernel
theorem dL_law_1133 : decode cL_law 1133 = .ok (.iadd, 1) := by decide +kernel
theorem dL_law_1134 : decode cL_law 1134 = .ok (.iaload, 1) := by decide +kernel
theorem dL_law_1135 : decode cL_law 1135 = .ok (.aload_n 0, 1) := by decide +kernel
theorem dL_law_1136 : decode cL_law 1136 = .ok (.iload_n 3, 1) := by decide +kernel
theorem dL_law_1137 : decode cL_law 1137 = .ok (.iconst 2, 1) := by decide +kernel
theorem dL_law_1138 : decode cL_law 1138 = .ok (.iadd, 1) := by decide +kernel
theorem dL_law_1139 : decode cL_law 1139 = .ok (.iaload, 1) := by decide +kernel
theorem dL_law_1140 : decode cL_law 1140 = .ok (.aload_n 0, 1) := by decide +kernel
theorem dL_law_1141 : decode cL_law 1141 = .ok (.iload_n 3, 1) := by decide +kernel
theorem dL_law_1142 : decode cL_law 1142 = .ok (.iconst 3, 1) := by decide +kernel
theorem dL_law_1143 : decode cL_law 1143 = .ok (.iadd, 1) := by decide +kernel
theorem dL_law_1144 : decode cL_law 1144 = .ok (.iaload, 1) := by decide +kernel
theorem dL_law_1145 : decode cL_law 1145 = .ok (.invokevirtual 138, 3) := by decide +kernel
theorem dL_law_1148 : decode cL_law 1148 = .ok (.aload_n 2, 1) := by decide +kernel
theorem dL_law_1149 : decode cL_law 1149 = .ok (.aload_n 0, 1) := by decide +kernel
theorem dL_law_1150 : decode cL_law 1150 = .ok (.iload_n 3, 1) := by decide +kernel
theorem dL_law_1151 : decode cL_law 1151 = .ok (.iconst 1, 1) := by decide +kernel
theorem dL_law_1152 : decode cL_law 1152 = .ok (.iadd, 1) := by decide +kernel
theorem dL_law_1153 : decode cL_law 1153 = .ok (.iaload, 1) := by decide +kernel
theorem dL_law_1154 : decode cL_law 1154 = .ok (.aload_n 0, 1) := by decide +kernel
theorem dL_law_1155 : decode cL_law 1155 = .ok (.iload_n 3, 1) := by decide +kernel
theorem dL_law_1156 : decode cL_law 1156 = .ok (.iconst 2, 1) := by decide +kernel
theorem dL_law_1157 : decode cL_law 1157 = .ok (.iadd, 1) := by decide +kernel
theorem dL_law_1158 : decode cL_law 1158 = .ok (.iaload, 1) := by decide +kernel
theorem dL_law_1159 : decode cL_law 1159 = .ok (.aload_n 0, 1) := by decide +kernel
theorem dL_law_1160 : decode cL_law 1160 = .ok (.iload_n 3, 1) := by decide +kernel
theorem dL_law_1161 : decode cL_law 1161 = .ok (.iconst 3, 1) := by decide +kernel
theorem dL_law_1162 : decode cL_law 1162 = .ok (.iadd, 1) := by decide +kernel
theorem dL_law_1163 : decode cL_law 1163 = .ok (.iaload, 1) := by decide +kernel
theorem dL_law_1164 : decode cL_law 1164 = .ok (.invokevirtual 141, 3) := by decide +kernel
theorem dL_law_1167 : decode cL_law 1167 = .ok (.if_icmp .eq 298, 3) := by decide +kernel
theorem dL_law_1172 : decode cL_law 1172 = .ok (.aload_n 1, 1) := by decide +kernel
theorem dL_law_1173 : decode cL_law 1173 = .ok (.aload_n 0, 1) := by decide +kernel
theorem dL_law_1174 : decode cL_law 1174 = .ok (.iload_n 3, 1) := by decide +kernel
theorem dL_law_1175 : decode cL_law 1175 = .ok (.iconst 1, 1) := by decide +kernel
theorem dL_law_1176 : decode cL_law 1176 = .ok (.iadd, 1) := by decide +kernel
theorem dL_law_1177 : decode cL_law 1177 = .ok (.iaload, 1) := by decide +kernel
theorem dL_law_1178 : decode cL_law 1178 = .ok (.aload_n 0, 1) := by decide +kernel
theorem dL_law_1179 : decode cL_law 1179 = .ok (.iload_n 3, 1) := by decide +kernel
theorem dL_law_1180 : decode cL_law 1180 = .ok (.iconst 2, 1) := by decide +kernel
theorem dL_law_1181 : decode cL_law 1181 = .ok (.iadd, 1) := by decide +kernel
theorem dL_law_1182 : decode cL_law 1182 = .ok (.iaload, 1) := by decide +kernel
theorem dL_law_1183 : decode cL_law 1183 = .ok (.invokevirtual 142, 3) := by decide +kernel
theorem dL_law_1186 : decode cL_law 1186 = .ok (.aload_n 2, 1) := by decide +kernel
theorem dL_law_1187 : decode cL_law 1187 = .ok (.aload_n 0, 1) := by decide +kernel
theorem dL_law_1188 : decode cL_law 1188 = .ok (.iload_n 3, 1) := by decide +kernel
theorem dL_law_1189 : decode cL_law 1189 = .ok (.iconst 1, 1) := by decide +kernel
theorem dL_law_1190 : decode cL_law 1190 = .ok (.iadd, 1) := by decide +kernel
theorem dL_law_1191 : decode cL_law 1191 = .ok (.iaload, 1) := by decide +kernel
theorem dL_law_1192 : decode cL_law 1192 = .ok (.aload_n 0, 1) := by decide +kernel
theorem dL_law_1193 : decode cL_law 1193 = .ok (.iload_n 3, 1) := by decide +kernel
theorem dL_law_1194 : decode cL_law 1194 = .ok (.iconst 2, 1) := by decide +kernel
theorem dL_law_1195 : decode cL_law 1195 = .ok (.iadd, 1) := by decide +kernel
theorem dL_law_1196 : decode cL_law 1196 = .ok (.iaload, 1) := by decide +kernel
theorem dL_law_1197 : decode cL_law 1197 = .ok (.invokevirtual 145, 3) := by decide +kernel
theorem dL_law_12 : decode cL_law 12 = .ok (.invokespecial 12, 3) := by decide +kernel
theorem dL_law_1200 : decode cL_law 1200 = .ok (.if_icmp .eq 265, 3) := by decide +kernel
theorem dL_law_1205 : decode cL_law 1205 = .ok (.aload_n 1, 1) := by decide +kernel
theorem dL_law_1206 : decode cL_law 1206 = .ok (.aload_n 0, 1) := by decide +kernel
theorem dL_law_1207 : decode cL_law 1207 = .ok (.iload_n 3, 1) := by decide +kernel
theorem dL_law_1208 : decode cL_law 1208 = .ok (.iconst 1, 1) := by decide +kernel
theorem dL_law_1209 : decode cL_law 1209 = .ok (.iadd, 1) := by decide +kernel
theorem dL_law_1210 : decode cL_law 1210 = .ok (.iaload, 1) := by decide +kernel
theorem dL_law_1211 : decode cL_law 1211 = .ok (.aload_n 0, 1) := by decide +kernel
theorem dL_law_1212 : decode cL_law 1212 = .ok (.iload_n 3, 1) := by decide +kernel
theorem dL_law_1213 : decode cL_law 1213 = .ok (.iconst 2, 1) := by decide +kernel
theorem dL_law_1214 : decode cL_law 1214 = .ok (.iadd, 1) := by decide +kernel
theorem dL_law_1215 : decode cL_law 1215 = .ok (.iaload, 1) := by decide +kernel
theorem dL_law_1216 : decode cL_law 1216 = .ok (.invokevirtual 146, 3) := by decide +kernel
theorem dL_law_1219 : decode cL_law 1219 = .ok (.aload_n 2, 1) := by decide +kernel
theorem dL_law_1220 : decode cL_law 1220 = .ok (.aload_n 0, 1) := by decide +kernel
theorem dL_law_1221 : decode cL_law 1221 = .ok (.iload_n 3, 1) := by decide +kernel
theorem dL_law_1222 : decode cL_law 1222 = .ok (.iconst 1, 1) := by decide +kernel
theorem dL_law_1223 : decode cL_law 1223 = .ok (.iadd, 1) := by decide +kernel
theorem dL_law_1224 : decode cL_law 1224 = .ok (.iaload, 1) := by decide +kernel
theorem dL_law_1225 : decode cL_law 1225 = .ok (.aload_n 0, 1) := by decide +kernel
theorem dL_law_1226 : decode cL_law 1226 = .ok (.iload_n 3, 1) := by decide +kernel
theorem dL_law_1227 : decode cL_law 1227 = .ok (.iconst 2, 1) := by decide +kernel
theorem dL_law_1228 : decode cL_law 1228 = .ok (.iadd, 1) := by decide +kernel
theorem dL_law_1229 : decode cL_law 1229 = .ok (.iaload, 1) := by decide +kernel
theorem dL_law_1230 : decode cL_law 1230 = .ok (.invokevirtual 149, 3) := by decide +kernel
theorem dL_law_1233 : decode cL_law 1233 = .ok (.if_icmp .eq 232, 3) := by decide +kernel
theorem dL_law_1238 : decode cL_law 1238 = .ok (.aload_n 1, 1) := by decide +kernel
theorem dL_law_1239 : decode cL_law 1239 = .ok (.aload_n 0, 1) := by decide +kernel
theorem dL_law_1240 : decode cL_law 1240 = .ok (.iload_n 3, 1) := by decide +kernel
theorem dL_law_1241 : decode cL_law 1241 = .ok (.iconst 1, 1) := by decide +kernel
theorem dL_law_1242 : decode cL_law 1242 = .ok (.iadd, 1) := by decide +kernel
theorem dL_law_1243 : decode cL_law 1243 = .ok (.iaload, 1) := by decide +kernel
theorem dL_law_1244 : decode cL_law 1244 = .ok (.aload_n 0, 1) := by decide +kernel
theorem dL_law_1245 : decode cL_law 1245 = .ok (.iload_n 3, 1) := by decide +kernel
theorem dL_law_1246 : decode cL_law 1246 = .ok (.iconst 2, 1) := by decide +kernel
theorem dL_law_1247 : decode cL_law 1247 = .ok (.iadd, 1) := by decide +kernel
theorem dL_law_1248 : decode cL_law 1248 = .ok (.iaload, 1) := by decide +kernel
theorem dL_law_1249 : decode cL_law 1249 = .ok (.aload_n 0, 1) := by decide +kernel
theorem dL_law_1250 : decode cL_law 1250 = .ok (.iload_n 3, 1) := by decide +kernel
theorem dL_law_1251 : decode cL_law 1251 = .ok (.iconst 3, 1) := by decide +kernel
theorem dL_law_1252 : decode cL_law 1252 = .ok (.iadd, 1) := by decide +kernel
theorem dL_law_1253 : decode cL_law 1253 = .ok (.iaload, 1) := by decide +kernel
theorem dL_law_1254 : decode cL_law 1254 = .ok (.invokevirtual 150, 3) := by decide +kernel
theorem dL_law_1257 : decode cL_law 1257 = .ok (.aload_n 2, 1) := by decide +kernel
theorem dL_law_1258 : decode cL_law 1258 = .ok (.aload_n 0, 1) := by decide +kernel
theorem dL_law_1259 : decode cL_law 1259 = .ok (.iload_n 3, 1) := by decide +kernel
theorem dL_law_1260 : decode cL_law 1260 = .ok (.iconst 1, 1) := by decide +kernel
theorem dL_law_1261 : decode cL_law 1261 = .ok (.iadd, 1) := by decide +kernel
theorem dL_law_1262 : decode cL_law 1262 = .ok (.iaload, 1) := by decide +kernel
theorem dL_law_1263 : decode cL_law 1263 = .ok (.aload_n 0, 1) := by decide +kernel
theorem dL_law_1264 : decode cL_law 1264 = .ok (.iload_n 3, 1) := by decide +kernel
theorem dL_law_1265 : decode cL_law 1265 = .ok (.iconst 2, 1) := by decide +kernel
theorem dL_law_1266 : decode cL_law 1266 = .ok (.iadd, 1) := by decide +kernel
theorem dL_law_1267 : decode cL_law 1267 = .ok (.iaload, 1) := by decide +kernel
theorem dL_law_1268 : decode cL_law 1268 = .ok (.aload_n 0, 1) := by decide +kernel
theorem dL_law_1269 : decode cL_law 1269 = .ok (.iload_n 3, 1) := by decide +kernel
theorem dL_law_1270 : decode cL_law 1270 = .ok (.iconst 3, 1) := by decide +kernel
theorem dL_law_1271 : decode cL_law 1271 = .ok (.iadd, 1) := by decide +kernel
theorem dL_law_1272 : decode cL_law 1272 = .ok (.iaload, 1) := by decide +kernel
theorem dL_law_1273 : decode cL_law 1273 = .ok (.invokevirtual 153, 3) := by decide +kernel
theorem dL_law_1276 : decode cL_law 1276 = .ok (.if_icmp .eq 189, 3) := by decide +kernel
theorem dL_law_1281 : decode cL_law 1281 = .ok (.aload_n 1, 1) := by decide +kernel
theorem dL_law_1282 : decode cL_law 1282 = .ok (.aload_n 0, 1) := by decide +kernel
theorem dL_law_1283 : decode cL_law 1283 = .ok (.iload_n 3, 1) := by decide +kernel
theorem dL_law_1284 : decode cL_law 1284 = .ok (.iconst 1, 1) := by decide +kernel
theorem dL_law_1285 : decode cL_law 1285 = .ok (.iadd, 1) := by decide +kernel
theorem dL_law_1286 : decode cL_law 1286 = .ok (.iaload, 1) := by decide +kernel
theorem dL_law_1287 : decode cL_law 1287 = .ok (.invokevirtual 154, 3) := by decide +kernel
theorem dL_law_1290 : decode cL_law 1290 = .ok (.aload_n 2, 1) := by decide +kernel
theorem dL_law_1291 : decode cL_law 1291 = .ok (.aload_n 0, 1) := by decide +kernel
theorem dL_law_1292 : decode cL_law 1292 = .ok (.iload_n 3, 1) := by decide +kernel
theorem dL_law_1293 : decode cL_law 1293 = .ok (.iconst 1, 1) := by decide +kernel
theorem dL_law_1294 : decode cL_law 1294 = .ok (.iadd, 1) := by decide +kernel
theorem dL_law_1295 : decode cL_law 1295 = .ok (.iaload, 1) := by decide +kernel
theorem dL_law_1296 : decode cL_law 1296 = .ok (.invokevirtual 157, 3) := by decide +kernel
theorem dL_law_1299 : decode cL_law 1299 = .ok (.if_icmp .eq 166, 3) := by decide +kernel
theorem dL_law_1304 : decode cL_law 1304 = .ok (.aload_n 1, 1) := by decide +kernel
theorem dL_law_1305 : decode cL_law 1305 = .ok (.aload_n 0, 1) := by decide +kernel
theorem dL_law_1306 : decode cL_law 1306 = .ok (.iload_n 3, 1) := by decide +kernel
theorem dL_law_1307 : decode cL_law 1307 = .ok (.iconst 1, 1) := by decide +kernel
theorem dL_law_1308 : decode cL_law 1308 = .ok (.iadd, 1) := by decide +kernel
theorem dL_law_1309 : decode cL_law 1309 = .ok (.iaload, 1) := by decide +kernel
theorem dL_law_1310 : decode cL_law 1310 = .ok (.invokevirtual 158, 3) := by decide +kernel
theorem dL_law_1313 : decode cL_law 1313 = .ok (.aload_n 2, 1) := by decide +kernel
theorem dL_law_1314 : decode cL_law 1314 = .ok (.aload_n 0, 1) := by decide +kernel
theorem dL_law_1315 : decode cL_law 1315 = .ok (.iload_n 3, 1) := by decide +kernel
theorem dL_law_1316 : decode cL_law 1316 = .ok (.iconst 1, 1) := by decide +kernel
theorem dL_law_1317 : decode cL_law 1317 = .ok (.iadd, 1) := by decide +kernel
theorem dL_law_1318 : decode cL_law 1318 = .ok (.iaload, 1) := by decide +kernel
theorem dL_law_1319 : decode cL_law 1319 = .ok (.invokevirtual 161, 3) := by decide +kernel
theorem dL_law_1322 : decode cL_law 1322 = .ok (.if_icmp .eq 143, 3) := by decide +kernel
theorem dL_law_1327 : decode cL_law 1327 = .ok (.aload_n 1, 1) := by decide +kernel
theorem dL_law_1328 : decode cL_law 1328 = .ok (.aload_n 0, 1) := by decide +kernel
theorem dL_law_1329 : decode cL_law 1329 = .ok (.iload_n 3, 1) := by decide +kernel
theorem dL_law_1330 : decode cL_law 1330 = .ok (.iconst 1, 1) := by decide +kernel
theorem dL_law_1331 : decode cL_law 1331 = .ok (.iadd, 1) := by decide +kernel
theorem dL_law_1332 : decode cL_law 1332 = .ok (.iaload, 1) := by decide +kernel
theorem dL_law_1333 : decode cL_law 1333 = .ok (.invokevirtual 162, 3) := by decide +kernel
theorem dL_law_1336 : decode cL_law 1336 = .ok (.aload_n 2, 1) := by decide +kernel
theorem dL_law_1337 : decode cL_law 1337 = .ok (.aload_n 0, 1) := by decide +kernel
theorem dL_law_1338 : decode cL_law 1338 = .ok (.iload_n 3, 1) := by decide +kernel
theorem dL_law_1339 : decode cL_law 1339 = .ok (.iconst 1, 1) := by decide +kernel
theorem dL_law_1340 : decode cL_law 1340 = .ok (.iadd, 1) := by decide +kernel
theorem dL_law_1341 : decode cL_law 1341 = .ok (.iaload, 1) := by decide +kernel
theorem dL_law_1342 : decode cL_law 1342 = .ok (.invokevirtual 165, 3) := by decide +kernel
theorem dL_law_1345 : decode cL_law 1345 = .ok (.if_icmp .eq 120, 3) := by decide +kernel
theorem dL_law_1350 : decode cL_law 1350 = .ok (.aload_n 1, 1) := by decide +kernel
theorem dL_law_1351 : decode cL_law 1351 = .ok (.aload_n 0, 1) := by decide +kernel
theorem dL_law_1352 : decode cL_law 1352 = .ok (.iload_n 3, 1) := by decide +kernel
theorem dL_law_1353 : decode cL_law 1353 = .ok (.iconst 1, 1) := by decide +kernel
theorem dL_law_1354 : decode cL_law 1354 = .ok (.iadd, 1) := by decide +kernel
theorem dL_law_1355 : decode cL_law 1355 = .ok (.iaload, 1) := by decide +kernel
theorem dL_law_1356 : decode cL_law 1356 = .ok (.invokevirtual 166, 3) := by decide +kernel
theorem dL_law_1359 : decode cL_law 1359 = .ok (.aload_n 2, 1) := by decide +kernel
theorem dL_law_1360 : decode cL_law 1360 = .ok (.aload_n 0, 1) := by decide +kernel
theorem dL_law_1361 : decode cL_law 1361 = .ok (.iload_n 3, 1) := by decide +kernel
theorem dL_law_1362 : decode cL_law 1362 = .ok (.iconst 1, 1) := by decide +kernel
theorem dL_law_1363 : decode cL_law 1363 = .ok (.iadd, 1) := by decide +kernel
theorem dL_law_1364 : decode cL_law 1364 = .ok (.iaload, 1) := by decide +kernel
theorem dL_law_1365 : decode cL_law 1365 = .ok (.invokevirtual 169, 3) := by decide +kernel
theorem dL_law_1368 : decode cL_law 1368 = .ok (.if_icmp .eq 97, 3) := by decide +kernel
theorem dL_law_1373 : decode cL_law 1373 = .ok (.aload_n 1, 1) := by decide +kernel
theorem dL_law_1374 : decode cL_law 1374 = .ok (.aload_n 0, 1) := by decide +kernel
theorem dL_law_1375 : decode cL_law 1375 = .ok (.iload_n 3, 1) := by decide +kernel
theorem dL_law_1376 : decode cL_law 1376 = .ok (.iconst 1, 1) := by decide +kernel
theorem dL_law_1377 : decode cL_law 1377 = .ok (.iadd, 1) := by decide +kernel
theorem dL_law_1378 : decode cL_law 1378 = .ok (.iaload, 1) := by decide +kernel
theorem dL_law_1379 : decode cL_law 1379 = .ok (.invokevirtual 170, 3) := by decide +kernel
theorem dL_law_1382 : decode cL_law 1382 = .ok (.aload_n 2, 1) := by decide +kernel
theorem dL_law_1383 : decode cL_law 1383 = .ok (.aload_n 0, 1) := by decide +kernel
theorem dL_law_1384 : decode cL_law 1384 = .ok (.iload_n 3, 1) := by decide +kernel
theorem dL_law_1385 : decode cL_law 1385 = .ok (.iconst 1, 1) := by decide +kernel
theorem dL_law_1386 : decode cL_law 1386 = .ok (.iadd, 1) := by decide +kernel
theorem dL_law_1387 : decode cL_law 1387 = .ok (.iaload, 1) := by decide +kernel
theorem dL_law_1388 : decode cL_law 1388 = .ok (.invokevirtual 173, 3) := by decide +kernel
theorem dL_law_1391 : decode cL_law 1391 = .ok (.if_icmp .eq 74, 3) := by decide +kernel
theorem dL_law_1396 : decode cL_law 1396 = .ok (.aload_n 1, 1) := by decide +kernel
theorem dL_law_1397 : decode cL_law 1397 = .ok (.aload_n 0, 1) := by decide +kernel
theorem dL_law_1398 : decode cL_law 1398 = .ok (.iload_n 3, 1) := by decide +kernel
theorem dL_law_1399 : decode cL_law 1399 = .ok (.iconst 1, 1) := by decide +kernel
theorem dL_law_1400 : decode cL_law 1400 = .ok (.iadd, 1) := by decide +kernel
theorem dL_law_1401 : decode cL_law 1401 = .ok (.iaload, 1) := by decide +kernel
theorem dL_law_1402 : decode cL_law 1402 = .ok (.invokevirtual 174, 3) := by decide +kernel
theorem dL_law_1405 : decode cL_law 1405 = .ok (.aload_n 2, 1) := by decide +kernel
theorem dL_law_1406 : decode cL_law 1406 = .ok (.aload_n 0, 1) := by decide +kernel
theorem dL_law_1407 : decode cL_law 1407 = .ok (.iload_n 3, 1) := by decide +kernel
theorem dL_law_1408 : decode cL_law 1408 = .ok (.iconst 1, 1) := by decide +kernel
theorem dL_law_1409 : decode cL_law 1409 = .ok (.iadd, 1) := by decide +kernel
theorem dL_law_1410 : decode cL_law 1410 = .ok (.iaload, 1) := by decide +kernel
theorem dL_law_1411 : decode cL_law 1411 = .ok (.invokevirtual 177, 3) := by decide +kernel
theorem dL_law_1414 : decode cL_law 1414 = .ok (.if_icmp .eq 51, 3) := by decide +kernel
theorem dL_law_1419 : decode cL_law 1419 = .ok (.aload_n 1, 1) := by decide +kernel
theorem dL_law_1420 : decode cL_law 1420 = .ok (.aload_n 0, 1) := by decide +kernel
theorem dL_law_1421 : decode cL_law 1421 = .ok (.iload_n 3, 1) := by decide +kernel
theorem dL_law_1422 : decode cL_law 1422 = .ok (.iconst 1, 1) := by decide +kernel
theorem dL_law_1423 : decode cL_law 1423 = .ok (.iadd, 1) := by decide +kernel
theorem dL_law_1424 : decode cL_law 1424 = .ok (.iaload, 1) := by decide +kernel
theorem dL_law_1425 : decode cL_law 1425 = .ok (.invokevirtual 178, 3) := by decide +kernel
theorem dL_law_1428 : decode cL_law 1428 = .ok (.aload_n 2, 1) := by decide +kernel
theorem dL_law_1429 : decode cL_law 1429 = .ok (.aload_n 0, 1) := by decide +kernel
theorem dL_law_1430 : decode cL_law 1430 = .ok (.iload_n 3, 1) := by decide +kernel
theorem dL_law_1431 : decode cL_law 1431 = .ok (.iconst 1, 1) := by decide +kernel
theorem dL_law_1432 : decode cL_law 1432 = .ok (.iadd, 1) := by decide +kernel
theorem dL_law_1433 : decode cL_law 1433 = .ok (.iaload, 1) := by decide +kernel
theorem dL_law_1434 : decode cL_law 1434 = .ok (.invokevirtual 181, 3) := by decide +kernel
theorem dL_law_1437 : decode cL_law 1437 = .ok (.if_icmp .eq 28, 3) := by decide +kernel
theorem dL_law_1442 : decode cL_law 1442 = .ok (.aload_n 1, 1) := by decide +kernel
theorem dL_law_1443 : decode cL_law 1443 = .ok (.aload_n 0, 1) := by decide +kernel
theorem dL_law_1444 : decode cL_law 1444 = .ok (.iload_n 3, 1) := by decide +kernel
theorem dL_law_1445 : decode cL_law 1445 = .ok (.iconst 1, 1) := by decide +kernel
theorem dL_law_1446 : decode cL_law 1446 = .ok (.iadd, 1) := by decide +kernel
theorem dL_law_1447 : decode cL_law 1447 = .ok (.iaload, 1) := by decide +kernel
theorem dL_law_1448 : decode cL_law 1448 = .ok (.invokevirtual 182, 3) := by decide +kernel
theorem dL_law_1451 : decode cL_law 1451 = .ok (.aload_n 2, 1) := by decide +kernel
theorem dL_law_1452 : decode cL_law 1452 = .ok (.aload_n 0, 1) := by decide +kernel
theorem dL_law_1453 : decode cL_law 1453 = .ok (.iload_n 3, 1) := by decide +kernel
theorem dL_law_1454 : decode cL_law 1454 = .ok (.iconst 1, 1) := by decide +kernel
theorem dL_law_1455 : decode cL_law 1455 = .ok (.iadd, 1) := by decide +kernel
theorem dL_law_1456 : decode cL_law 1456 = .ok (.iaload, 1) := by decide +kernel
theorem dL_law_1457 : decode cL_law 1457 = .ok (.invokevirtual 185, 3) := by decide +kernel
theorem dL_law_1460 : decode cL_law 1460 = .ok (.if_icmp .eq 5, 3) := by decide +kernel
theorem dL_law_1465 : decode cL_law 1465 = .ok (.iinc 3 6, 3) := by decide +kernel
theorem dL_law_1468 : decode cL_law 1468 = .ok (.goto (-1450), 3) := by decide +kernel
theorem dL_law_1471 : decode cL_law 1471 = .ok (.iconst 1, 1) := by decide +kernel
theorem dL_law_1472 : decode cL_law 1472 = .ok (.ireturn, 1) := by decide +kernel
theorem dL_law_15 : decode cL_law 15 = .ok (.astore_n 2, 1) := by decide +kernel
theorem dL_law_16 : decode cL_law 16 = .ok (.iconst 0, 1) := by decide +kernel
theorem dL_law_17 : decode cL_law 17 = .ok (.istore_n 3, 1) := by decide +kernel
theorem dL_law_18 : decode cL_law 18 = .ok (.iload_n 3, 1) := by decide +kernel
theorem dL_law_19 : decode cL_law 19 = .ok (.aload_n 0, 1) := by decide +kernel
theorem dL_law_20 : decode cL_law 20 = .ok (.arraylength, 1) := by decide +kernel
theorem dL_law_21 : decode cL_law 21 = .ok (.bipush 6, 2) := by decide +kernel
theorem dL_law_212 : decode cL_law 212 = .ok (.aload_n 1, 1) := by decide +kernel
theorem dL_law_213 : decode cL_law 213 = .ok (.aload_n 0, 1) := by decide +kernel
theorem dL_law_214 : decode cL_law 214 = .ok (.iload_n 3, 1) := by decide +kernel
theorem dL_law_215 : decode cL_law 215 = .ok (.iconst 1, 1) := by decide +kernel
theorem dL_law_216 : decode cL_law 216 = .ok (.iadd, 1) := by decide +kernel
theorem dL_law_217 : decode cL_law 217 = .ok (.iaload, 1) := by decide +kernel
theorem dL_law_218 : decode cL_law 218 = .ok (.aload_n 0, 1) := by decide +kernel
theorem dL_law_219 : decode cL_law 219 = .ok (.iload_n 3, 1) := by decide +kernel
theorem dL_law_220 : decode cL_law 220 = .ok (.iconst 2, 1) := by decide +kernel
theorem dL_law_221 : decode cL_law 221 = .ok (.iadd, 1) := by decide +kernel
theorem dL_law_222 : decode cL_law 222 = .ok (.iaload, 1) := by decide +kernel
theorem dL_law_223 : decode cL_law 223 = .ok (.aload_n 0, 1) := by decide +kernel
theorem dL_law_224 : decode cL_law 224 = .ok (.iload_n 3, 1) := by decide +kernel
theorem dL_law_225 : decode cL_law 225 = .ok (.iconst 3, 1) := by decide +kernel
theorem dL_law_226 : decode cL_law 226 = .ok (.iadd, 1) := by decide +kernel
theorem dL_law_227 : decode cL_law 227 = .ok (.iaload, 1) := by decide +kernel
theorem dL_law_228 : decode cL_law 228 = .ok (.aload_n 0, 1) := by decide +kernel
theorem dL_law_229 : decode cL_law 229 = .ok (.iload_n 3, 1) := by decide +kernel
theorem dL_law_23 : decode cL_law 23 = .ok (.isub, 1) := by decide +kernel
theorem dL_law_230 : decode cL_law 230 = .ok (.iconst 4, 1) := by decide +kernel
theorem dL_law_231 : decode cL_law 231 = .ok (.iadd, 1) := by decide +kernel
theorem dL_law_232 : decode cL_law 232 = .ok (.iaload, 1) := by decide +kernel
theorem dL_law_233 : decode cL_law 233 = .ok (.aload_n 0, 1) := by decide +kernel
theorem dL_law_234 : decode cL_law 234 = .ok (.iload_n 3, 1) := by decide +kernel
theorem dL_law_235 : decode cL_law 235 = .ok (.iconst 5, 1) := by decide +kernel
theorem dL_law_236 : decode cL_law 236 = .ok (.iadd, 1) := by decide +kernel
theorem dL_law_237 : decode cL_law 237 = .ok (.iaload, 1) := by decide +kernel
theorem dL_law_238 : decode cL_law 238 = .ok (.invokevirtual 13, 3) := by decide +kernel
theorem dL_law_24 : decode cL_law 24 = .ok (.if_icmp .gt 1447, 3) := by decide +kernel
theorem dL_law_241 : decode cL_law 241 = .ok (.aload_n 2, 1) := by decide +kernel
theorem dL_law_242 : decode cL_law 242 = .ok (.aload_n 0, 1) := by decide +kernel
theorem dL_law_243 : decode cL_law 243 = .ok (.iload_n 3, 1) := by decide +kernel
theorem dL_law_244 : decode cL_law 244 = .ok (.iconst 1, 1) := by decide +kernel
theorem dL_law_245 : decode cL_law 245 = .ok (.iadd, 1) := by decide +kernel
theorem dL_law_246 : decode cL_law 246 = .ok (.iaload, 1) := by decide +kernel
theorem dL_law_247 : decode cL_law 247 = .ok (.aload_n 0, 1) := by decide +kernel
theorem dL_law_248 : decode cL_law 248 = .ok (.iload_n 3, 1) := by decide +kernel
theorem dL_law_249 : decode cL_law 249 = .ok (.iconst 2, 1) := by decide +kernel
theorem dL_law_250 : decode cL_law 250 = .ok (.iadd, 1) := by decide +kernel
theorem dL_law_251 : decode cL_law 251 = .ok (.iaload, 1) := by decide +kernel
theorem dL_law_252 : decode cL_law 252 = .ok (.aload_n 0, 1) := by decide +kernel
theorem dL_law_253 : decode cL_law 253 = .ok (.iload_n 3, 1) := by decide +kernel
theorem dL_law_254 : decode cL_law 254 = .ok (.iconst 3, 1) := by decide +kernel
theorem dL_law_255 : decode cL_law 255 = .ok (.iadd, 1) := by decide +kernel
theorem dL_law_256 : decode cL_law 256 = .ok (.iaload, 1) := by decide +kernel
theorem dL_law_257 : decode cL_law 257 = .ok (.aload_n 0, 1) := by decide +kernel
theorem dL_law_258 : decode cL_law 258 = .ok (.iload_n 3, 1) := by decide +kernel
theorem dL_law_259 : decode cL_law 259 = .ok (.iconst 4, 1) := by decide +kernel
theorem dL_law_260 : decode cL_law 260 = .ok (.iadd, 1) := by decide +kernel
theorem dL_law_261 : decode cL_law 261 = .ok (.iaload, 1) := by decide +kernel
theorem dL_law_262 : decode cL_law 262 = .ok (.aload_n 0, 1) := by decide +kernel
theorem dL_law_263 : decode cL_law 263 = .ok (.iload_n 3, 1) := by decide +kernel
theorem dL_law_264 : decode cL_law 264 = .ok (.iconst 5, 1) := by decide +kernel
theorem dL_law_265 : decode cL_law 265 = .ok (.iadd, 1) := by decide +kernel
theorem dL_law_266 : decode cL_law 266 = .ok (.iaload, 1) := by decide +kernel
theorem dL_law_267 : decode cL_law 267 = .ok (.invokevirtual 17, 3) := by decide +kernel
theorem dL_law_27 : decode cL_law 27 = .ok (.aload_n 0, 1) := by decide +kernel
theorem dL_law_270 : decode cL_law 270 = .ok (.if_icmp .eq 1195, 3) := by decide +kernel
theorem dL_law_275 : decode cL_law 275 = .ok (.aload_n 1, 1) := by decide +kernel
theorem dL_law_276 : decode cL_law 276 = .ok (.aload_n 0, 1) := by decide +kernel
theorem dL_law_277 : decode cL_law 277 = .ok (.iload_n 3, 1) := by decide +kernel
theorem dL_law_278 : decode cL_law 278 = .ok (.iconst 1, 1) := by decide +kernel
theorem dL_law_279 : decode cL_law 279 = .ok (.iadd, 1) := by decide +kernel
theorem dL_law_28 : decode cL_law 28 = .ok (.iload_n 3, 1) := by decide +kernel
theorem dL_law_280 : decode cL_law 280 = .ok (.iaload, 1) := by decide +kernel
theorem dL_law_281 : decode cL_law 281 = .ok (.invokevirtual 18, 3) := by decide +kernel
theorem dL_law_284 : decode cL_law 284 = .ok (.aload_n 2, 1) := by decide +kernel
theorem dL_law_285 : decode cL_law 285 = .ok (.aload_n 0, 1) := by decide +kernel
theorem dL_law_286 : decode cL_law 286 = .ok (.iload_n 3, 1) := by decide +kernel
theorem dL_law_287 : decode cL_law 287 = .ok (.iconst 1, 1) := by decide +kernel
theorem dL_law_288 : decode cL_law 288 = .ok (.iadd, 1) := by decide +kernel
theorem dL_law_289 : decode cL_law 289 = .ok (.iaload, 1) := by decide +kernel
theorem dL_law_29 : decode cL_law 29 = .ok (.iaload, 1) := by decide +kernel
theorem dL_law_290 : decode cL_law 290 = .ok (.invokevirtual 22, 3) := by decide +kernel
theorem dL_law_293 : decode cL_law 293 = .ok (.if_icmp .eq 1172, 3) := by decide +kernel
theorem dL_law_298 : decode cL_law 298 = .ok (.aload_n 1, 1) := by decide +kernel
theorem dL_law_299 : decode cL_law 299 = .ok (.invokevirtual 23, 3) := by decide +kernel
theorem dL_law_3 : decode cL_law 3 = .ok (.dup, 1) := by decide +kernel
theorem dL_law_30 : decode cL_law 30 = .ok (.bipush 63, 2) := by decide +kernel
theorem dL_law_302 : decode cL_law 302 = .ok (.aload_n 2, 1) := by decide +kernel
theorem dL_law_303 : decode cL_law 303 = .ok (.invokevirtual 27, 3) := by decide +kernel
theorem dL_law_306 : decode cL_law 306 = .ok (.if_icmp .eq 1159, 3) := by decide +kernel
theorem dL_law_311 : decode cL_law 311 = .ok (.aload_n 1, 1) := by decide +kernel
theorem dL_law_312 : decode cL_law 312 = .ok (.invokevirtual 28, 3) := by decide +kernel
theorem dL_law_315 : decode cL_law 315 = .ok (.aload_n 2, 1) := by decide +kernel
theorem dL_law_316 : decode cL_law 316 = .ok (.invokevirtual 31, 3) := by decide +kernel
theorem dL_law_319 : decode cL_law 319 = .ok (.if_icmp .eq 1146, 3) := by decide +kernel
theorem dL_law_32 : decode cL_law 32 = .ok (.iand, 1) := by decide +kernel
theorem dL_law_324 : decode cL_law 324 = .ok (.aload_n 1, 1) := by decide +kernel
theorem dL_law_325 : decode cL_law 325 = .ok (.invokevirtual 32, 3) := by decide +kernel
theorem dL_law_328 : decode cL_law 328 = .ok (.aload_n 2, 1) := by decide +kernel
theorem dL_law_329 : decode cL_law 329 = .ok (.invokevirtual 35, 3) := by decide +kernel
theorem dL_law_33 : decode cL_law 33 = .ok (.tableswitch 1432 0 40 #[179, 242, 265, 278, 291, 304, 327, 360, 383, 396, 419, 442, 475, 488, 531, 574, 607, 650, 703, 736, 769, 812, 845, 888, 921, 954, 997, 1030, 1063, 1096, 1139, 1172, 1205, 1248, 1271, 1294, 1317, 1340, 1363, 1386, 1409], 179) := by decide +kernel
theorem dL_law_332 : decode cL_law 332 = .ok (.if_icmp .eq 1133, 3) := by decide +kernel
theorem dL_law_337 : decode cL_law 337 = .ok (.aload_n 1, 1) := by decide +kernel
theorem dL_law_338 : decode cL_law 338 = .ok (.aload_n 0, 1) := by decide +kernel
theorem dL_law_339 : decode cL_law 339 = .ok (.iload_n 3, 1) := by decide +kernel
theorem dL_law_340 : decode cL_law 340 = .ok (.iconst 1, 1) := by decide +kernel
theorem dL_law_341 : decode cL_law 341 = .ok (.iadd, 1) := by decide +kernel
theorem dL_law_342 : decode cL_law 342 = .ok (.iaload, 1) := by decide +kernel
theorem dL_law_343 : decode cL_law 343 = .ok (.invokevirtual 36, 3) := by decide +kernel
theorem dL_law_346 : decode cL_law 346 = .ok (.aload_n 2, 1) := by decide +kernel
theorem dL_law_347 : decode cL_law 347 = .ok (.aload_n 0, 1) := by decide +kernel
theorem dL_law_348 : decode cL_law 348 = .ok (.iload_n 3, 1) := by decide +kernel
theorem dL_law_349 : decode cL_law 349 = .ok (.iconst 1, 1) := by decide +kernel
theorem dL_law_350 : decode cL_law 350 = .ok (.iadd, 1) := by decide +kernel
theorem dL_law_351 : decode cL_law 351 = .ok (.iaload, 1) := by decide +kernel
theorem dL_law_352 : decode cL_law 352 = .ok (.invokevirtual 39, 3) := by decide +kernel
theorem dL_law_355 : decode cL_law 355 = .ok (.if_icmp .eq 1110, 3) := by decide +kernel
theorem dL_law_360 : decode cL_law 360 = .ok (.aload_n 1, 1) := by decide +kernel
theorem dL_law_361 : decode cL_law 361 = .ok (.aload_n 0, 1) := by decide +kernel
theorem dL_law_362 : decode cL_law 362 = .ok (.iload_n 3, 1) := by decide +kernel
theorem dL_law_363 : decode cL_law 363 = .ok (.iconst 1, 1) := by decide +kernel
theorem dL_law_364 : decode cL_law 364 = .ok (.iadd, 1) := by decide +kernel
theorem dL_law_365 : decode cL_law 365 = .ok (.iaload, 1) := by decide +kernel
theorem dL_law_366 : decode cL_law 366 = .ok (.aload_n 0, 1) := by decide +kernel
theorem dL_law_367 : decode cL_law 367 = .ok (.iload_n 3, 1) := by decide +kernel
theorem dL_law_368 : decode cL_law 368 = .ok (.iconst 2, 1) := by decide +kernel
theorem dL_law_369 : decode cL_law 369 = .ok (.iadd, 1) := by decide +kernel
theorem dL_law_370 : decode cL_law 370 = .ok (.iaload, 1) := by decide +kernel
theorem dL_law_371 : decode cL_law 371 = .ok (.invokevirtual 40, 3) := by decide +kernel
theorem dL_law_374 : decode cL_law 374 = .ok (.aload_n 2, 1) := by decide +kernel
theorem dL_law_375 : decode cL_law 375 = .ok (.aload_n 0, 1) := by decide +kernel
theorem dL_law_376 : decode cL_law 376 = .ok (.iload_n 3, 1) := by decide +kernel
theorem dL_law_377 : decode cL_law 377 = .ok (.iconst 1, 1) := by decide +kernel
theorem dL_law_378 : decode cL_law 378 = .ok (.iadd, 1) := by decide +kernel
theorem dL_law_379 : decode cL_law 379 = .ok (.iaload, 1) := by decide +kernel
theorem dL_law_380 : decode cL_law 380 = .ok (.aload_n 0, 1) := by decide +kernel
theorem dL_law_381 : decode cL_law 381 = .ok (.iload_n 3, 1) := by decide +kernel
theorem dL_law_382 : decode cL_law 382 = .ok (.iconst 2, 1) := by decide +kernel
theorem dL_law_383 : decode cL_law 383 = .ok (.iadd, 1) := by decide +kernel
theorem dL_law_384 : decode cL_law 384 = .ok (.iaload, 1) := by decide +kernel
theorem dL_law_385 : decode cL_law 385 = .ok (.invokevirtual 44, 3) := by decide +kernel
theorem dL_law_388 : decode cL_law 388 = .ok (.if_icmp .eq 1077, 3) := by decide +kernel
theorem dL_law_393 : decode cL_law 393 = .ok (.aload_n 1, 1) := by decide +kernel
theorem dL_law_394 : decode cL_law 394 = .ok (.aload_n 0, 1) := by decide +kernel
theorem dL_law_395 : decode cL_law 395 = .ok (.iload_n 3, 1) := by decide +kernel
theorem dL_law_396 : decode cL_law 396 = .ok (.iconst 1, 1) := by decide +kernel
theorem dL_law_397 : decode cL_law 397 = .ok (.iadd, 1) := by decide +kernel
theorem dL_law_398 : decode cL_law 398 = .ok (.iaload, 1) := by decide +kernel
theorem dL_law_399 : decode cL_law 399 = .ok (.invokevirtual 45, 3) := by decide +kernel
theorem dL_law_4 : decode cL_law 4 = .ok (.invokespecial 9, 3) := by decide +kernel
theorem dL_law_402 : decode cL_law 402 = .ok (.aload_n 2, 1) := by decide +kernel
theorem dL_law_403 : decode cL_law 403 = .ok (.aload_n 0, 1) := by decide +kernel
theorem dL_law_404 : decode cL_law 404 = .ok (.iload_n 3, 1) := by decide +kernel
theorem dL_law_405 : decode cL_law 405 = .ok (.iconst 1, 1) := by decide +kernel
theorem dL_law_406 : decode cL_law 406 = .ok (.iadd, 1) := by decide +kernel
theorem dL_law_407 : decode cL_law 407 = .ok (.iaload, 1) := by decide +kernel
theorem dL_law_408 : decode cL_law 408 = .ok (.invokevirtual 48, 3) := by decide +kernel
theorem dL_law_411 : decode cL_law 411 = .ok (.if_icmp .eq 1054, 3) := by decide +kernel
theorem dL_law_416 : decode cL_law 416 = .ok (.aload_n 1, 1) := by decide +kernel
theorem dL_law_417 : decode cL_law 417 = .ok (.invokevirtual 49, 3) := by decide +kernel
theorem dL_law_420 : decode cL_law 420 = .ok (.aload_n 2, 1) := by decide +kernel
theorem dL_law_421 : decode cL_law 421 = .ok (.invokevirtual 52, 3) := by decide +kernel
theorem dL_law_424 : decode cL_law 424 = .ok (.if_icmp .eq 1041, 3) := by decide +kernel
theorem dL_law_429 : decode cL_law 429 = .ok (.aload_n 1, 1) := by decide +kernel
theorem dL_law_430 : decode cL_law 430 = .ok (.aload_n 0, 1) := by decide +kernel
theorem dL_law_431 : decode cL_law 431 = .ok (.iload_n 3, 1) := by decide +kernel
theorem dL_law_432 : decode cL_law 432 = .ok (.iconst 1, 1) := by decide +kernel
theorem dL_law_433 : decode cL_law 433 = .ok (.iadd, 1) := by decide +kernel
theorem dL_law_434 : decode cL_law 434 = .ok (.iaload, 1) := by decide +kernel
theorem dL_law_435 : decode cL_law 435 = .ok (.invokevirtual 53, 3) := by decide +kernel
theorem dL_law_438 : decode cL_law 438 = .ok (.aload_n 2, 1) := by decide +kernel
theorem dL_law_439 : decode cL_law 439 = .ok (.aload_n 0, 1) := by decide +kernel
theorem dL_law_440 : decode cL_law 440 = .ok (.iload_n 3, 1) := by decide +kernel
theorem dL_law_441 : decode cL_law 441 = .ok (.iconst 1, 1) := by decide +kernel
theorem dL_law_442 : decode cL_law 442 = .ok (.iadd, 1) := by decide +kernel
theorem dL_law_443 : decode cL_law 443 = .ok (.iaload, 1) := by decide +kernel
theorem dL_law_444 : decode cL_law 444 = .ok (.invokevirtual 56, 3) := by decide +kernel
theorem dL_law_447 : decode cL_law 447 = .ok (.if_icmp .eq 1018, 3) := by decide +kernel
theorem dL_law_452 : decode cL_law 452 = .ok (.aload_n 1, 1) := by decide +kernel
theorem dL_law_453 : decode cL_law 453 = .ok (.aload_n 0, 1) := by decide +kernel
theorem dL_law_454 : decode cL_law 454 = .ok (.iload_n 3, 1) := by decide +kernel
theorem dL_law_455 : decode cL_law 455 = .ok (.iconst 1, 1) := by decide +kernel
theorem dL_law_456 : decode cL_law 456 = .ok (.iadd, 1) := by decide +kernel
theorem dL_law_457 : decode cL_law 457 = .ok (.iaload, 1) := by decide +kernel
theorem dL_law_458 : decode cL_law 458 = .ok (.invokevirtual 57, 3) := by decide +kernel
theorem dL_law_461 : decode cL_law 461 = .ok (.aload_n 2, 1) := by decide +kernel
theorem dL_law_462 : decode cL_law 462 = .ok (.aload_n 0, 1) := by decide +kernel
theorem dL_law_463 : decode cL_law 463 = .ok (.iload_n 3, 1) := by decide +kernel
theorem dL_law_464 : decode cL_law 464 = .ok (.iconst 1, 1) := by decide +kernel
theorem dL_law_465 : decode cL_law 465 = .ok (.iadd, 1) := by decide +kernel
theorem dL_law_466 : decode cL_law 466 = .ok (.iaload, 1) := by decide +kernel
theorem dL_law_467 : decode cL_law 467 = .ok (.invokevirtual 61, 3) := by decide +kernel
theorem dL_law_470 : decode cL_law 470 = .ok (.if_icmp .eq 995, 3) := by decide +kernel
theorem dL_law_475 : decode cL_law 475 = .ok (.aload_n 1, 1) := by decide +kernel
theorem dL_law_476 : decode cL_law 476 = .ok (.aload_n 0, 1) := by decide +kernel
theorem dL_law_477 : decode cL_law 477 = .ok (.iload_n 3, 1) := by decide +kernel
theorem dL_law_478 : decode cL_law 478 = .ok (.iconst 1, 1) := by decide +kernel
theorem dL_law_479 : decode cL_law 479 = .ok (.iadd, 1) := by decide +kernel
theorem dL_law_480 : decode cL_law 480 = .ok (.iaload, 1) := by decide +kernel
theorem dL_law_481 : decode cL_law 481 = .ok (.aload_n 0, 1) := by decide +kernel
theorem dL_law_482 : decode cL_law 482 = .ok (.iload_n 3, 1) := by decide +kernel
theorem dL_law_483 : decode cL_law 483 = .ok (.iconst 2, 1) := by decide +kernel
theorem dL_law_484 : decode cL_law 484 = .ok (.iadd, 1) := by decide +kernel
theorem dL_law_485 : decode cL_law 485 = .ok (.iaload, 1) := by decide +kernel
theorem dL_law_486 : decode cL_law 486 = .ok (.invokevirtual 62, 3) := by decide +kernel
theorem dL_law_489 : decode cL_law 489 = .ok (.aload_n 2, 1) := by decide +kernel
theorem dL_law_490 : decode cL_law 490 = .ok (.aload_n 0, 1) := by decide +kernel
theorem dL_law_491 : decode cL_law 491 = .ok (.iload_n 3, 1) := by decide +kernel
theorem dL_law_492 : decode cL_law 492 = .ok (.iconst 1, 1) := by decide +kernel
theorem dL_law_493 : decode cL_law 493 = .ok (.iadd, 1) := by decide +kernel
theorem dL_law_494 : decode cL_law 494 = .ok (.iaload, 1) := by decide +kernel
theorem dL_law_495 : decode cL_law 495 = .ok (.aload_n 0, 1) := by decide +kernel
theorem dL_law_496 : decode cL_law 496 = .ok (.iload_n 3, 1) := by decide +kernel
theorem dL_law_497 : decode cL_law 497 = .ok (.iconst 2, 1) := by decide +kernel
theorem dL_law_498 : decode cL_law 498 = .ok (.iadd, 1) := by decide +kernel
theorem dL_law_499 : decode cL_law 499 = .ok (.iaload, 1) := by decide +kernel
theorem dL_law_500 : decode cL_law 500 = .ok (.invokevirtual 66, 3) := by decide +kernel
theorem dL_law_503 : decode cL_law 503 = .ok (.if_icmp .eq 962, 3) := by decide +kernel
theorem dL_law_508 : decode cL_law 508 = .ok (.aload_n 1, 1) := by decide +kernel
theorem dL_law_509 : decode cL_law 509 = .ok (.invokevirtual 67, 3) := by decide +kernel
theorem dL_law_512 : decode cL_law 512 = .ok (.aload_n 2, 1) := by decide +kernel
theorem dL_law_513 : decode cL_law 513 = .ok (.invokevirtual 71, 3) := by decide +kernel
theorem dL_law_516 : decode cL_law 516 = .ok (.if_icmp .eq 949, 3) := by decide +kernel
theorem dL_law_521 : decode cL_law 521 = .ok (.aload_n 1, 1) := by decide +kernel
theorem dL_law_522 : decode cL_law 522 = .ok (.aload_n 0, 1) := by decide +kernel
theorem dL_law_523 : decode cL_law 523 = .ok (.iload_n 3, 1) := by decide +kernel
theorem dL_law_524 : decode cL_law 524 = .ok (.iconst 1, 1) := by decide +kernel
theorem dL_law_525 : decode cL_law 525 = .ok (.iadd, 1) := by decide +kernel
theorem dL_law_526 : decode cL_law 526 = .ok (.iaload, 1) := by decide +kernel
theorem dL_law_527 : decode cL_law 527 = .ok (.aload_n 0, 1) := by decide +kernel
theorem dL_law_528 : decode cL_law 528 = .ok (.iload_n 3, 1) := by decide +kernel
theorem dL_law_529 : decode cL_law 529 = .ok (.iconst 2, 1) := by decide +kernel
theorem dL_law_530 : decode cL_law 530 = .ok (.iadd, 1) := by decide +kernel
theorem dL_law_531 : decode cL_law 531 = .ok (.iaload, 1) := by decide +kernel
theorem dL_law_532 : decode cL_law 532 = .ok (.aload_n 0, 1) := by decide +kernel
theorem dL_law_533 : decode cL_law 533 = .ok (.iload_n 3, 1) := by decide +kernel
theorem dL_law_534 : decode cL_law 534 = .ok (.iconst 3, 1) := by decide +kernel
theorem dL_law_535 : decode cL_law 535 = .ok (.iadd, 1) := by decide +kernel
theorem dL_law_536 : decode cL_law 536 = .ok (.iaload, 1) := by decide +kernel
theorem dL_law_537 : decode cL_law 537 = .ok (.invokevirtual 72, 3) := by decide +kernel
theorem dL_law_540 : decode cL_law 540 = .ok (.aload_n 2, 1) := by decide +kernel
theorem dL_law_541 : decode cL_law 541 = .ok (.aload_n 0, 1) := by decide +kernel
theorem dL_law_542 : decode cL_law 542 = .ok (.iload_n 3, 1) := by decide +kernel
theorem dL_law_543 : decode cL_law 543 = .ok (.iconst 1, 1) := by decide +kernel
theorem dL_law_544 : decode cL_law 544 = .ok (.iadd, 1) := by decide +kernel
theorem dL_law_545 : decode cL_law 545 = .ok (.iaload, 1) := by decide +kernel
theorem dL_law_546 : decode cL_law 546 = .ok (.aload_n 0, 1) := by decide +kernel
theorem dL_law_547 : decode cL_law 547 = .ok (.iload_n 3, 1) := by decide +kernel
theorem dL_law_548 : decode cL_law 548 = .ok (.iconst 2, 1) := by decide +kernel
theorem dL_law_549 : decode cL_law 549 = .ok (.iadd, 1) := by decide +kernel
theorem dL_law_550 : decode cL_law 550 = .ok (.iaload, 1) := by decide +kernel
theorem dL_law_551 : decode cL_law 551 = .ok (.aload_n 0, 1) := by decide +kernel
theorem dL_law_552 : decode cL_law 552 = .ok (.iload_n 3, 1) := by decide +kernel
theorem dL_law_553 : decode cL_law 553 = .ok (.iconst 3, 1) := by decide +kernel
theorem dL_law_554 : decode cL_law 554 = .ok (.iadd, 1) := by decide +kernel
theorem dL_law_555 : decode cL_law 555 = .ok (.iaload, 1) := by decide +kernel
theorem dL_law_556 : decode cL_law 556 = .ok (.invokevirtual 76, 3) := by decide +kernel
theorem dL_law_559 : decode cL_law 559 = .ok (.if_icmp .eq 906, 3) := by decide +kernel
theorem dL_law_564 : decode cL_law 564 = .ok (.aload_n 1, 1) := by decide +kernel
theorem dL_law_565 : decode cL_law 565 = .ok (.aload_n 0, 1) := by decide +kernel
theorem dL_law_566 : decode cL_law 566 = .ok (.iload_n 3, 1) := by decide +kernel
theorem dL_law_567 : decode cL_law 567 = .ok (.iconst 1, 1) := by decide +kernel
theorem dL_law_568 : decode cL_law 568 = .ok (.iadd, 1) := by decide +kernel
theorem dL_law_569 : decode cL_law 569 = .ok (.iaload, 1) := by decide +kernel
theorem dL_law_570 : decode cL_law 570 = .ok (.aload_n 0, 1) := by decide +kernel
theorem dL_law_571 : decode cL_law 571 = .ok (.iload_n 3, 1) := by decide +kernel
theorem dL_law_572 : decode cL_law 572 = .ok (.iconst 2, 1) := by decide +kernel
theorem dL_law_573 : decode cL_law 573 = .ok (.iadd, 1) := by decide +kernel
theorem dL_law_574 : decode cL_law 574 = .ok (.iaload, 1) := by decide +kernel
theorem dL_law_575 : decode cL_law 575 = .ok (.aload_n 0, 1) := by decide +kernel
theorem dL_law_576 : decode cL_law 576 = .ok (.iload_n 3, 1) := by decide +kernel
theorem dL_law_577 : decode cL_law 577 = .ok (.iconst 3, 1) := by decide +kernel
theorem dL_law_578 : decode cL_law 578 = .ok (.iadd, 1) := by decide +kernel
theorem dL_law_579 : decode cL_law 579 = .ok (.iaload, 1) := by decide +kernel
theorem dL_law_580 : decode cL_law 580 = .ok (.invokevirtual 77, 3) := by decide +kernel
theorem dL_law_583 : decode cL_law 583 = .ok (.aload_n 2, 1) := by decide +kernel
theorem dL_law_584 : decode cL_law 584 = .ok (.aload_n 0, 1) := by decide +kernel
theorem dL_law_585 : decode cL_law 585 = .ok (.iload_n 3, 1) := by decide +kernel
theorem dL_law_586 : decode cL_law 586 = .ok (.iconst 1, 1) := by decide +kernel
theorem dL_law_587 : decode cL_law 587 = .ok (.iadd, 1) := by decide +kernel
theorem dL_law_588 : decode cL_law 588 = .ok (.iaload, 1) := by decide +kernel
theorem dL_law_589 : decode cL_law 589 = .ok (.aload_n 0, 1) := by decide +kernel
theorem dL_law_590 : decode cL_law 590 = .ok (.iload_n 3, 1) := by decide +kernel
theorem dL_law_591 : decode cL_law 591 = .ok (.iconst 2, 1) := by decide +kernel
theorem dL_law_592 : decode cL_law 592 = .ok (.iadd, 1) := by decide +kernel
theorem dL_law_593 : decode cL_law 593 = .ok (.iaload, 1) := by decide +kernel
theorem dL_law_594 : decode cL_law 594 = .ok (.aload_n 0, 1) := by decide +kernel
theorem dL_law_595 : decode cL_law 595 = .ok (.iload_n 3, 1) := by decide +kernel
theorem dL_law_596 : decode cL_law 596 = .ok (.iconst 3, 1) := by decide +kernel
theorem dL_law_597 : decode cL_law 597 = .ok (.iadd, 1) := by decide +kernel
theorem dL_law_598 : decode cL_law 598 = .ok (.iaload, 1) := by decide +kernel
theorem dL_law_599 : decode cL_law 599 = .ok (.invokevirtual 80, 3) := by decide +kernel
theorem dL_law_602 : decode cL_law 602 = .ok (.if_icmp .eq 863, 3) := by decide +kernel
theorem dL_law_607 : decode cL_law 607 = .ok (.aload_n 1, 1) := by decide +kernel
theorem dL_law_608 : decode cL_law 608 = .ok (.aload_n 0, 1) := by decide +kernel
theorem dL_law_609 : decode cL_law 609 = .ok (.iload_n 3, 1) := by decide +kernel
theorem dL_law_610 : decode cL_law 610 = .ok (.iconst 1, 1) := by decide +kernel
theorem dL_law_611 : decode cL_law 611 = .ok (.iadd, 1) := by decide +kernel
theorem dL_law_612 : decode cL_law 612 = .ok (.iaload, 1) := by decide +kernel
theorem dL_law_613 : decode cL_law 613 = .ok (.aload_n 0, 1) := by decide +kernel
theorem dL_law_614 : decode cL_law 614 = .ok (.iload_n 3, 1) := by decide +kernel
theorem dL_law_615 : decode cL_law 615 = .ok (.iconst 2, 1) := by decide +kernel
theorem dL_law_616 : decode cL_law 616 = .ok (.iadd, 1) := by decide +kernel
theorem dL_law_617 : decode cL_law 617 = .ok (.iaload, 1) := by decide +kernel
theorem dL_law_618 : decode cL_law 618 = .ok (.invokevirtual 81, 3) := by decide +kernel
theorem dL_law_621 : decode cL_law 621 = .ok (.aload_n 2, 1) := by decide +kernel
theorem dL_law_622 : decode cL_law 622 = .ok (.aload_n 0, 1) := by decide +kernel
theorem dL_law_623 : decode cL_law 623 = .ok (.iload_n 3, 1) := by decide +kernel
theorem dL_law_624 : decode cL_law 624 = .ok (.iconst 1, 1) := by decide +kernel
theorem dL_law_625 : decode cL_law 625 = .ok (.iadd, 1) := by decide +kernel
theorem dL_law_626 : decode cL_law 626 = .ok (.iaload, 1) := by decide +kernel
theorem dL_law_627 : decode cL_law 627 = .ok (.aload_n 0, 1) := by decide +kernel
theorem dL_law_628 : decode cL_law 628 = .ok (.iload_n 3, 1) := by decide +kernel
theorem dL_law_629 : decode cL_law 629 = .ok (.iconst 2, 1) := by decide +kernel
theorem dL_law_630 : decode cL_law 630 = .ok (.iadd, 1) := by decide +kernel
theorem dL_law_631 : decode cL_law 631 = .ok (.iaload, 1) := by decide +kernel
theorem dL_law_632 : decode cL_law 632 = .ok (.invokevirtual 84, 3) := by decide +kernel
theorem dL_law_635 : decode cL_law 635 = .ok (.if_icmp .eq 830, 3) := by decide +kernel
theorem dL_law_640 : decode cL_law 640 = .ok (.aload_n 1, 1) := by decide +kernel
theorem dL_law_641 : decode cL_law 641 = .ok (.aload_n 0, 1) := by decide +kernel
theorem dL_law_642 : decode cL_law 642 = .ok (.iload_n 3, 1) := by decide +kernel
theorem dL_law_643 : decode cL_law 643 = .ok (.iconst 1, 1) := by decide +kernel
theorem dL_law_644 : decode cL_law 644 = .ok (.iadd, 1) := by decide +kernel
theorem dL_law_645 : decode cL_law 645 = .ok (.iaload, 1) := by decide +kernel
theorem dL_law_646 : decode cL_law 646 = .ok (.aload_n 0, 1) := by decide +kernel
theorem dL_law_647 : decode cL_law 647 = .ok (.iload_n 3, 1) := by decide +kernel
theorem dL_law_648 : decode cL_law 648 = .ok (.iconst 2, 1) := by decide +kernel
theorem dL_law_649 : decode cL_law 649 = .ok (.iadd, 1) := by decide +kernel
theorem dL_law_650 : decode cL_law 650 = .ok (.iaload, 1) := by decide +kernel
theorem dL_law_651 : decode cL_law 651 = .ok (.aload_n 0, 1) := by decide +kernel
theorem dL_law_652 : decode cL_law 652 = .ok (.iload_n 3, 1) := by decide +kernel
theorem dL_law_653 : decode cL_law 653 = .ok (.iconst 3, 1) := by decide +kernel
theorem dL_law_654 : decode cL_law 654 = .ok (.iadd, 1) := by decide +kernel
theorem dL_law_655 : decode cL_law 655 = .ok (.iaload, 1) := by decide +kernel
theorem dL_law_656 : decode cL_law 656 = .ok (.invokevirtual 85, 3) := by decide +kernel
theorem dL_law_659 : decode cL_law 659 = .ok (.aload_n 2, 1) := by decide +kernel
theorem dL_law_660 : decode cL_law 660 = .ok (.aload_n 0, 1) := by decide +kernel
theorem dL_law_661 : decode cL_law 661 = .ok (.iload_n 3, 1) := by decide +kernel
theorem dL_law_662 : decode cL_law 662 = .ok (.iconst 1, 1) := by decide +kernel
theorem dL_law_663 : decode cL_law 663 = .ok (.iadd, 1) := by decide +kernel
theorem dL_law_664 : decode cL_law 664 = .ok (.iaload, 1) := by decide +kernel
theorem dL_law_665 : decode cL_law 665 = .ok (.aload_n 0, 1) := by decide +kernel
theorem dL_law_666 : decode cL_law 666 = .ok (.iload_n 3, 1) := by decide +kernel
theorem dL_law_667 : decode cL_law 667 = .ok (.iconst 2, 1) := by decide +kernel
theorem dL_law_668 : decode cL_law 668 = .ok (.iadd, 1) := by decide +kernel
theorem dL_law_669 : decode cL_law 669 = .ok (.iaload, 1) := by decide +kernel
theorem dL_law_670 : decode cL_law 670 = .ok (.aload_n 0, 1) := by decide +kernel
theorem dL_law_671 : decode cL_law 671 = .ok (.iload_n 3, 1) := by decide +kernel
theorem dL_law_672 : decode cL_law 672 = .ok (.iconst 3, 1) := by decide +kernel
theorem dL_law_673 : decode cL_law 673 = .ok (.iadd, 1) := by decide +kernel
theorem dL_law_674 : decode cL_law 674 = .ok (.iaload, 1) := by decide +kernel
theorem dL_law_675 : decode cL_law 675 = .ok (.invokevirtual 88, 3) := by decide +kernel
theorem dL_law_678 : decode cL_law 678 = .ok (.if_icmp .eq 787, 3) := by decide +kernel
theorem dL_law_683 : decode cL_law 683 = .ok (.aload_n 1, 1) := by decide +kernel
theorem dL_law_684 : decode cL_law 684 = .ok (.aload_n 0, 1) := by decide +kernel
theorem dL_law_685 : decode cL_law 685 = .ok (.iload_n 3, 1) := by decide +kernel
theorem dL_law_686 : decode cL_law 686 = .ok (.iconst 1, 1) := by decide +kernel
theorem dL_law_687 : decode cL_law 687 = .ok (.iadd, 1) := by decide +kernel
theorem dL_law_688 : decode cL_law 688 = .ok (.iaload, 1) := by decide +kernel
theorem dL_law_689 : decode cL_law 689 = .ok (.aload_n 0, 1) := by decide +kernel
theorem dL_law_690 : decode cL_law 690 = .ok (.iload_n 3, 1) := by decide +kernel
theorem dL_law_691 : decode cL_law 691 = .ok (.iconst 2, 1) := by decide +kernel
theorem dL_law_692 : decode cL_law 692 = .ok (.iadd, 1) := by decide +kernel
theorem dL_law_693 : decode cL_law 693 = .ok (.iaload, 1) := by decide +kernel
theorem dL_law_694 : decode cL_law 694 = .ok (.aload_n 0, 1) := by decide +kernel
theorem dL_law_695 : decode cL_law 695 = .ok (.iload_n 3, 1) := by decide +kernel
theorem dL_law_696 : decode cL_law 696 = .ok (.iconst 3, 1) := by decide +kernel
theorem dL_law_697 : decode cL_law 697 = .ok (.iadd, 1) := by decide +kernel
theorem dL_law_698 : decode cL_law 698 = .ok (.iaload, 1) := by decide +kernel
theorem dL_law_699 : decode cL_law 699 = .ok (.aload_n 0, 1) := by decide +kernel
theorem dL_law_7 : decode cL_law 7 = .ok (.astore_n 1, 1) := by decide +kernel
theorem dL_law_700 : decode cL_law 700 = .ok (.iload_n 3, 1) := by decide +kernel
theorem dL_law_701 : decode cL_law 701 = .ok (.iconst 4, 1) := by decide +kernel
theorem dL_law_702 : decode cL_law 702 = .ok (.iadd, 1) := by decide +kernel
theorem dL_law_703 : decode cL_law 703 = .ok (.iaload, 1) := by decide +kernel
theorem dL_law_704 : decode cL_law 704 = .ok (.invokevirtual 89, 3) := by decide +kernel
theorem dL_law_707 : decode cL_law 707 = .ok (.aload_n 2, 1) := by decide +kernel
theorem dL_law_708 : decode cL_law 708 = .ok (.aload_n 0, 1) := by decide +kernel
theorem dL_law_709 : decode cL_law 709 = .ok (.iload_n 3, 1) := by decide +kernel
theorem dL_law_710 : decode cL_law 710 = .ok (.iconst 1, 1) := by decide +kernel
theorem dL_law_711 : decode cL_law 711 = .ok (.iadd, 1) := by decide +kernel
theorem dL_law_712 : decode cL_law 712 = .ok (.iaload, 1) := by decide +kernel
theorem dL_law_713 : decode cL_law 713 = .ok (.aload_n 0, 1) := by decide +kernel
theorem dL_law_714 : decode cL_law 714 = .ok (.iload_n 3, 1) := by decide +kernel
theorem dL_law_715 : decode cL_law 715 = .ok (.iconst 2, 1) := by decide +kernel
theorem dL_law_716 : decode cL_law 716 = .ok (.iadd, 1) := by decide +kernel
theorem dL_law_717 : decode cL_law 717 = .ok (.iaload, 1) := by decide +kernel
theorem dL_law_718 : decode cL_law 718 = .ok (.aload_n 0, 1) := by decide +kernel
theorem dL_law_719 : decode cL_law 719 = .ok (.iload_n 3, 1) := by decide +kernel
theorem dL_law_720 : decode cL_law 720 = .ok (.iconst 3, 1) := by decide +kernel
theorem dL_law_721 : decode cL_law 721 = .ok (.iadd, 1) := by decide +kernel
theorem dL_law_722 : decode cL_law 722 = .ok (.iaload, 1) := by decide +kernel
theorem dL_law_723 : decode cL_law 723 = .ok (.aload_n 0, 1) := by decide +kernel
theorem dL_law_724 : decode cL_law 724 = .ok (.iload_n 3, 1) := by decide +kernel
theorem dL_law_725 : decode cL_law 725 = .ok (.iconst 4, 1) := by decide +kernel
theorem dL_law_726 : decode cL_law 726 = .ok (.iadd, 1) := by decide +kernel
theorem dL_law_727 : decode cL_law 727 = .ok (.iaload, 1) := by decide +kernel
theorem dL_law_728 : decode cL_law 728 = .ok (.invokevirtual 93, 3) := by decide +kernel
theorem dL_law_731 : decode cL_law 731 = .ok (.if_icmp .eq 734, 3) := by decide +kernel
theorem dL_law_736 : decode cL_law 736 = .ok (.aload_n 1, 1) := by decide +kernel
theorem dL_law_737 : decode cL_law 737 = .ok (.aload_n 0, 1) := by decide +kernel
theorem dL_law_738 : decode cL_law 738 = .ok (.iload_n 3, 1) := by decide +kernel
theorem dL_law_739 : decode cL_law 739 = .ok (.iconst 1, 1) := by decide +kernel
theorem dL_law_740 : decode cL_law 740 = .ok (.iadd, 1) := by decide +kernel
theorem dL_law_741 : decode cL_law 741 = .ok (.iaload, 1) := by decide +kernel
theorem dL_law_742 : decode cL_law 742 = .ok (.aload_n 0, 1) := by decide +kernel
theorem dL_law_743 : decode cL_law 743 = .ok (.iload_n 3, 1) := by decide +kernel
theorem dL_law_744 : decode cL_law 744 = .ok (.iconst 2, 1) := by decide +kernel
theorem dL_law_745 : decode cL_law 745 = .ok (.iadd, 1) := by decide +kernel
theorem dL_law_746 : decode cL_law 746 = .ok (.iaload, 1) := by decide +kernel
theorem dL_law_747 : decode cL_law 747 = .ok (.invokevirtual 94, 3) := by decide +kernel
theorem dL_law_750 : decode cL_law 750 = .ok (.aload_n 2, 1) := by decide +kernel
theorem dL_law_751 : decode cL_law 751 = .ok (.aload_n 0, 1) := by decide +kernel
theorem dL_law_752 : decode cL_law 752 = .ok (.iload_n 3, 1) := by decide +kernel
theorem dL_law_753 : decode cL_law 753 = .ok (.iconst 1, 1) := by decide +kernel
theorem dL_law_754 : decode cL_law 754 = .ok (.iadd, 1) := by decide +kernel
theorem dL_law_755 : decode cL_law 755 = .ok (.iaload, 1) := by decide +kernel
theorem dL_law_756 : decode cL_law 756 = .ok (.aload_n 0, 1) := by decide +kernel
theorem dL_law_757 : decode cL_law 757 = .ok (.iload_n 3, 1) := by decide +kernel
theorem dL_law_758 : decode cL_law 758 = .ok (.iconst 2, 1) := by decide +kernel
theorem dL_law_759 : decode cL_law 759 = .ok (.iadd, 1) := by decide +kernel
theorem dL_law_760 : decode cL_law 760 = .ok (.iaload, 1) := by decide +kernel
theorem dL_law_761 : decode cL_law 761 = .ok (.invokevirtual 97, 3) := by decide +kernel
theorem dL_law_764 : decode cL_law 764 = .ok (.if_icmp .eq 701, 3) := by decide +kernel
theorem dL_law_769 : decode cL_law 769 = .ok (.aload_n 1, 1) := by decide +kernel
theorem dL_law_770 : decode cL_law 770 = .ok (.aload_n 0, 1) := by decide +kernel
theorem dL_law_771 : decode cL_law 771 = .ok (.iload_n 3, 1) := by decide +kernel
theorem dL_law_772 : decode cL_law 772 = .ok (.iconst 1, 1) := by decide +kernel
theorem dL_law_773 : decode cL_law 773 = .ok (.iadd, 1) := by decide +kernel
theorem dL_law_774 : decode cL_law 774 = .ok (.iaload, 1) := by decide +kernel
theorem dL_law_775 : decode cL_law 775 = .ok (.aload_n 0, 1) := by decide +kernel
theorem dL_law_776 : decode cL_law 776 = .ok (.iload_n 3, 1) := by decide +kernel
theorem dL_law_777 : decode cL_law 777 = .ok (.iconst 2, 1) := by decide +kernel
theorem dL_law_778 : decode cL_law 778 = .ok (.iadd, 1) := by decide +kernel
theorem dL_law_779 : decode cL_law 779 = .ok (.iaload, 1) := by decide +kernel
theorem dL_law_780 : decode cL_law 780 = .ok (.invokevirtual 98, 3) := by decide +kernel
theorem dL_law_783 : decode cL_law 783 = .ok (.aload_n 2, 1) := by decide +kernel
theorem dL_law_784 : decode cL_law 784 = .ok (.aload_n 0, 1) := by decide +kernel
theorem dL_law_785 : decode cL_law 785 = .ok (.iload_n 3, 1) := by decide +kernel
theorem dL_law_786 : decode cL_law 786 = .ok (.iconst 1, 1) := by decide +kernel
theorem dL_law_787 : decode cL_law 787 = .ok (.iadd, 1) := by decide +kernel
theorem dL_law_788 : decode cL_law 788 = .ok (.iaload, 1) := by decide +kernel
theorem dL_law_789 : decode cL_law 789 = .ok (.aload_n 0, 1) := by decide +kernel
theorem dL_law_790 : decode cL_law 790 = .ok (.iload_n 3, 1) := by decide +kernel
theorem dL_law_791 : decode cL_law 791 = .ok (.iconst 2, 1) := by decide +kernel
theorem dL_law_792 : decode cL_law 792 = .ok (.iadd, 1) := by decide +kernel
theorem dL_law_793 : decode cL_law 793 = .ok (.iaload, 1) := by decide +kernel
theorem dL_law_794 : decode cL_law 794 = .ok (.invokevirtual 101, 3) := by decide +kernel
theorem dL_law_797 : decode cL_law 797 = .ok (.if_icmp .eq 668, 3) := by decide +kernel
theorem dL_law_8 : decode cL_law 8 = .ok (.new 10, 3) := by decide +kernel
theorem dL_law_802 : decode cL_law 802 = .ok (.aload_n 1, 1) := by decide +kernel
theorem dL_law_803 : decode cL_law 803 = .ok (.aload_n 0, 1) := by decide +kernel
theorem dL_law_804 : decode cL_law 804 = .ok (.iload_n 3, 1) := by decide +kernel
theorem dL_law_805 : decode cL_law 805 = .ok (.iconst 1, 1) := by decide +kernel
theorem dL_law_806 : decode cL_law 806 = .ok (.iadd, 1) := by decide +kernel
theorem dL_law_807 : decode cL_law 807 = .ok (.iaload, 1) := by decide +kernel
theorem dL_law_808 : decode cL_law 808 = .ok (.aload_n 0, 1) := by decide +kernel
theorem dL_law_809 : decode cL_law 809 = .ok (.iload_n 3, 1) := by decide +kernel
theorem dL_law_810 : decode cL_law 810 = .ok (.iconst 2, 1) := by decide +kernel
theorem dL_law_811 : decode cL_law 811 = .ok (.iadd, 1) := by decide +kernel
theorem dL_law_812 : decode cL_law 812 = .ok (.iaload, 1) := by decide +kernel
theorem dL_law_813 : decode cL_law 813 = .ok (.aload_n 0, 1) := by decide +kernel
theorem dL_law_814 : decode cL_law 814 = .ok (.iload_n 3, 1) := by decide +kernel
theorem dL_law_815 : decode cL_law 815 = .ok (.iconst 3, 1) := by decide +kernel
theorem dL_law_816 : decode cL_law 816 = .ok (.iadd, 1) := by decide +kernel
theorem dL_law_817 : decode cL_law 817 = .ok (.iaload, 1) := by decide +kernel
theorem dL_law_818 : decode cL_law 818 = .ok (.invokevirtual 102, 3) := by decide +kernel
theorem dL_law_821 : decode cL_law 821 = .ok (.aload_n 2, 1) := by decide +kernel
theorem dL_law_822 : decode cL_law 822 = .ok (.aload_n 0, 1) := by decide +kernel
theorem dL_law_823 : decode cL_law 823 = .ok (.iload_n 3, 1) := by decide +kernel
theorem dL_law_824 : decode cL_law 824 = .ok (.iconst 1, 1) := by decide +kernel
theorem dL_law_825 : decode cL_law 825 = .ok (.iadd, 1) := by decide +kernel
theorem dL_law_826 : decode cL_law 826 = .ok (.iaload, 1) := by decide +kernel
theorem dL_law_827 : decode cL_law 827 = .ok (.aload_n 0, 1) := by decide +kernel
theorem dL_law_828 : decode cL_law 828 = .ok (.iload_n 3, 1) := by decide +kernel
theorem dL_law_829 : decode cL_law 829 = .ok (.iconst 2, 1) := by decide +kernel
theorem dL_law_830 : decode cL_law 830 = .ok (.iadd, 1) := by decide +kernel
theorem dL_law_831 : decode cL_law 831 = .ok (.iaload, 1) := by decide +kernel
theorem dL_law_832 : decode cL_law 832 = .ok (.aload_n 0, 1) := by decide +kernel
theorem dL_law_833 : decode cL_law 833 = .ok (.iload_n 3, 1) := by decide +kernel
theorem dL_law_834 : decode cL_law 834 = .ok (.iconst 3, 1) := by decide +kernel
theorem dL_law_835 : decode cL_law 835 = .ok (.iadd, 1) := by decide +kernel
theorem dL_law_836 : decode cL_law 836 = .ok (.iaload, 1) := by decide +kernel
theorem dL_law_837 : decode cL_law 837 = .ok (.invokevirtual 105, 3) := by decide +kernel
theorem dL_law_840 : decode cL_law 840 = .ok (.if_icmp .eq 625, 3) := by decide +kernel
theorem dL_law_845 : decode cL_law 845 = .ok (.aload_n 1, 1) := by decide +kernel
theorem dL_law_846 : decode cL_law 846 = .ok (.aload_n 0, 1) := by decide +kernel
theorem dL_law_847 : decode cL_law 847 = .ok (.iload_n 3, 1) := by decide +kernel
theorem dL_law_848 : decode cL_law 848 = .ok (.iconst 1, 1) := by decide +kernel
theorem dL_law_849 : decode cL_law 849 = .ok (.iadd, 1) := by decide +kernel
theorem dL_law_850 : decode cL_law 850 = .ok (.iaload, 1) := by decide +kernel
theorem dL_law_851 : decode cL_law 851 = .ok (.aload_n 0, 1) := by decide +kernel
theorem dL_law_852 : decode cL_law 852 = .ok (.iload_n 3, 1) := by decide +kernel
theorem dL_law_853 : decode cL_law 853 = .ok (.iconst 2, 1) := by decide +kernel
theorem dL_law_854 : decode cL_law 854 = .ok (.iadd, 1) := by decide +kernel
theorem dL_law_855 : decode cL_law 855 = .ok (.iaload, 1) := by decide +kernel
theorem dL_law_856 : decode cL_law 856 = .ok (.invokevirtual 106, 3) := by decide +kernel
theorem dL_law_859 : decode cL_law 859 = .ok (.aload_n 2, 1) := by decide +kernel
theorem dL_law_860 : decode cL_law 860 = .ok (.aload_n 0, 1) := by decide +kernel
theorem dL_law_861 : decode cL_law 861 = .ok (.iload_n 3, 1) := by decide +kernel
theorem dL_law_862 : decode cL_law 862 = .ok (.iconst 1, 1) := by decide +kernel
theorem dL_law_863 : decode cL_law 863 = .ok (.iadd, 1) := by decide +kernel
theorem dL_law_864 : decode cL_law 864 = .ok (.iaload, 1) := by decide +kernel
theorem dL_law_865 : decode cL_law 865 = .ok (.aload_n 0, 1) := by decide +kernel
theorem dL_law_866 : decode cL_law 866 = .ok (.iload_n 3, 1) := by decide +kernel
theorem dL_law_867 : decode cL_law 867 = .ok (.iconst 2, 1) := by decide +kernel
theorem dL_law_868 : decode cL_law 868 = .ok (.iadd, 1) := by decide +kernel
theorem dL_law_869 : decode cL_law 869 = .ok (.iaload, 1) := by decide +kernel
theorem dL_law_870 : decode cL_law 870 = .ok (.invokevirtual 109, 3) := by decide +kernel
theorem dL_law_873 : decode cL_law 873 = .ok (.if_icmp .eq 592, 3) := by decide +kernel
theorem dL_law_878 : decode cL_law 878 = .ok (.aload_n 1, 1) := by decide +kernel
theorem dL_law_879 : decode cL_law 879 = .ok (.aload_n 0, 1) := by decide +kernel
theorem dL_law_880 : decode cL_law 880 = .ok (.iload_n 3, 1) := by decide +kernel
theorem dL_law_881 : decode cL_law 881 = .ok (.iconst 1, 1) := by decide +kernel
theorem dL_law_882 : decode cL_law 882 = .ok (.iadd, 1) := by decide +kernel
theorem dL_law_883 : decode cL_law 883 = .ok (.iaload, 1) := by decide +kernel
theorem dL_law_884 : decode cL_law 884 = .ok (.aload_n 0, 1) := by decide +kernel
theorem dL_law_885 : decode cL_law 885 = .ok (.iload_n 3, 1) := by decide +kernel
theorem dL_law_886 : decode cL_law 886 = .ok (.iconst 2, 1) := by decide +kernel
theorem dL_law_887 : decode cL_law 887 = .ok (.iadd, 1) := by decide +kernel
theorem dL_law_888 : decode cL_law 888 = .ok (.iaload, 1) := by decide +kernel
theorem dL_law_889 : decode cL_law 889 = .ok (.aload_n 0, 1) := by decide +kernel
theorem dL_law_890 : decode cL_law 890 = .ok (.iload_n 3, 1) := by decide +kernel
theorem dL_law_891 : decode cL_law 891 = .ok (.iconst 3, 1) := by decide +kernel
theorem dL_law_892 : decode cL_law 892 = .ok (.iadd, 1) := by decide +kernel
theorem dL_law_893 : decode cL_law 893 = .ok (.iaload, 1) := by decide +kernel
theorem dL_law_894 : decode cL_law 894 = .ok (.invokevirtual 110, 3) := by decide +kernel
theorem dL_law_897 : decode cL_law 897 = .ok (.aload_n 2, 1) := by decide +kernel
theorem dL_law_898 : decode cL_law 898 = .ok (.aload_n 0, 1) := by decide +kernel
theorem dL_law_899 : decode cL_law 899 = .ok (.iload_n 3, 1) := by decide +kernel
theorem dL_law_900 : decode cL_law 900 = .ok (.iconst 1, 1) := by decide +kernel
theorem dL_law_901 : decode cL_law 901 = .ok (.iadd, 1) := by decide +kernel
theorem dL_law_902 : decode cL_law 902 = .ok (.iaload, 1) := by decide +kernel
theorem dL_law_903 : decode cL_law 903 = .ok (.aload_n 0, 1) := by decide +kernel
theorem dL_law_904 : decode cL_law 904 = .ok (.iload_n 3, 1) := by decide +kernel
theorem dL_law_905 : decode cL_law 905 = .ok (.iconst 2, 1) := by decide +kernel
theorem dL_law_906 : decode cL_law 906 = .ok (.iadd, 1) := by decide +kernel
theorem dL_law_907 : decode cL_law 907 = .ok (.iaload, 1) := by decide +kernel
theorem dL_law_908 : decode cL_law 908 = .ok (.aload_n 0, 1) := by decide +kernel
theorem dL_law_909 : decode cL_law 909 = .ok (.iload_n 3, 1) := by decide +kernel
theorem dL_law_910 : decode cL_law 910 = .ok (.iconst 3, 1) := by decide +kernel
theorem dL_law_911 : decode cL_law 911 = .ok (.iadd, 1) := by decide +kernel
theorem dL_law_912 : decode cL_law 912 = .ok (.iaload, 1) := by decide +kernel
theorem dL_law_913 : decode cL_law 913 = .ok (.invokevirtual 113, 3) := by decide +kernel
theorem dL_law_916 : decode cL_law 916 = .ok (.if_icmp .eq 549, 3) := by decide +kernel
theorem dL_law_921 : decode cL_law 921 = .ok (.aload_n 1, 1) := by decide +kernel
theorem dL_law_922 : decode cL_law 922 = .ok (.aload_n 0, 1) := by decide +kernel
theorem dL_law_923 : decode cL_law 923 = .ok (.iload_n 3, 1) := by decide +kernel
theorem dL_law_924 : decode cL_law 924 = .ok (.iconst 1, 1) := by decide +kernel
theorem dL_law_925 : decode cL_law 925 = .ok (.iadd, 1) := by decide +kernel
theorem dL_law_926 : decode cL_law 926 = .ok (.iaload, 1) := by decide +kernel
theorem dL_law_927 : decode cL_law 927 = .ok (.aload_n 0, 1) := by decide +kernel
theorem dL_law_928 : decode cL_law 928 = .ok (.iload_n 3, 1) := by decide +kernel
theorem dL_law_929 : decode cL_law 929 = .ok (.iconst 2, 1) := by decide +kernel
theorem dL_law_930 : decode cL_law 930 = .ok (.iadd, 1) := by decide +kernel
theorem dL_law_931 : decode cL_law 931 = .ok (.iaload, 1) := by decide +kernel
theorem dL_law_932 : decode cL_law 932 = .ok (.invokevirtual 114, 3) := by decide +kernel
theorem dL_law_935 : decode cL_law 935 = .ok (.aload_n 2, 1) := by decide +kernel
theorem dL_law_936 : decode cL_law 936 = .ok (.aload_n 0, 1) := by decide +kernel
theorem dL_law_937 : decode cL_law 937 = .ok (.iload_n 3, 1) := by decide +kernel
theorem dL_law_938 : decode cL_law 938 = .ok (.iconst 1, 1) := by decide +kernel
theorem dL_law_939 : decode cL_law 939 = .ok (.iadd, 1) := by decide +kernel
theorem dL_law_940 : decode cL_law 940 = .ok (.iaload, 1) := by decide +kernel
theorem dL_law_941 : decode cL_law 941 = .ok (.aload_n 0, 1) := by decide +kernel
theorem dL_law_942 : decode cL_law 942 = .ok (.iload_n 3, 1) := by decide +kernel
theorem dL_law_943 : decode cL_law 943 = .ok (.iconst 2, 1) := by decide +kernel
theorem dL_law_944 : decode cL_law 944 = .ok (.iadd, 1) := by decide +kernel
theorem dL_law_945 : decode cL_law 945 = .ok (.iaload, 1) := by decide +kernel
theorem dL_law_946 : decode cL_law 946 = .ok (.invokevirtual 117, 3) := by decide +kernel
theorem dL_law_949 : decode cL_law 949 = .ok (.if_icmp .eq 516, 3) := by decide +kernel
theorem dL_law_954 : decode cL_law 954 = .ok (.aload_n 1, 1) := by decide +kernel
theorem dL_law_955 : decode cL_law 955 = .ok (.aload_n 0, 1) := by decide +kernel
theorem dL_law_956 : decode cL_law 956 = .ok (.iload_n 3, 1) := by decide +kernel
theorem dL_law_957 : decode cL_law 957 = .ok (.iconst 1, 1) := by decide +kernel
theorem dL_law_958 : decode cL_law 958 = .ok (.iadd, 1) := by decide +kernel
theorem dL_law_959 : decode cL_law 959 = .ok (.iaload, 1) := by decide +kernel
theorem dL_law_960 : decode cL_law 960 = .ok (.aload_n 0, 1) := by decide +kernel
theorem dL_law_961 : decode cL_law 961 = .ok (.iload_n 3, 1) := by decide +kernel
theorem dL_law_962 : decode cL_law 962 = .ok (.iconst 2, 1) := by decide +kernel
theorem dL_law_963 : decode cL_law 963 = .ok (.iadd, 1) := by decide +kernel
theorem dL_law_964 : decode cL_law 964 = .ok (.iaload, 1) := by decide +kernel
theorem dL_law_965 : decode cL_law 965 = .ok (.invokevirtual 118, 3) := by decide +kernel
theorem dL_law_968 : decode cL_law 968 = .ok (.aload_n 2, 1) := by decide +kernel
theorem dL_law_969 : decode cL_law 969 = .ok (.aload_n 0, 1) := by decide +kernel
theorem dL_law_970 : decode cL_law 970 = .ok (.iload_n 3, 1) := by decide +kernel
theorem dL_law_971 : decode cL_law 971 = .ok (.iconst 1, 1) := by decide +kernel
theorem dL_law_972 : decode cL_law 972 = .ok (.iadd, 1) := by decide +kernel
theorem dL_law_973 : decode cL_law 973 = .ok (.iaload, 1) := by decide +kernel
theorem dL_law_974 : decode cL_law 974 = .ok (.aload_n 0, 1) := by decide +kernel
theorem dL_law_975 : decode cL_law 975 = .ok (.iload_n 3, 1) := by decide +kernel
theorem dL_law_976 : decode cL_law 976 = .ok (.iconst 2, 1) := by decide +kernel
theorem dL_law_977 : decode cL_law 977 = .ok (.iadd, 1) := by decide +kernel
theorem dL_law_978 : decode cL_law 978 = .ok (.iaload, 1) := by decide +kernel
theorem dL_law_979 : decode cL_law 979 = .ok (.invokevirtual 121, 3) := by decide +kernel
theorem dL_law_982 : decode cL_law 982 = .ok (.if_icmp .eq 483, 3) := by decide +kernel
theorem dL_law_987 : decode cL_law 987 = .ok (.aload_n 1, 1) := by decide +kernel
theorem dL_law_988 : decode cL_law 988 = .ok (.aload_n 0, 1) := by decide +kernel
theorem dL_law_989 : decode cL_law 989 = .ok (.iload_n 3, 1) := by decide +kernel
theorem dL_law_990 : decode cL_law 990 = .ok (.iconst 1, 1) := by decide +kernel
theorem dL_law_991 : decode cL_law 991 = .ok (.iadd, 1) := by decide +kernel
theorem dL_law_992 : decode cL_law 992 = .ok (.iaload, 1) := by decide +kernel
theorem dL_law_993 : decode cL_law 993 = .ok (.aload_n 0, 1) := by decide +kernel
theorem dL_law_994 : decode cL_law 994 = .ok (.iload_n 3, 1) := by decide +kernel
theorem dL_law_995 : decode cL_law 995 = .ok (.iconst 2, 1) := by decide +kernel
theorem dL_law_996 : decode cL_law 996 = .ok (.iadd, 1) := by decide +kernel
theorem dL_law_997 : decode cL_law 997 = .ok (.iaload, 1) := by decide +kernel
theorem dL_law_998 : decode cL_law 998 = .ok (.aload_n 0, 1) := by decide +kernel
theorem dL_law_999 : decode cL_law 999 = .ok (.iload_n 3, 1) := by decide +kernel
theorem dX0_hasBoth_0 : decode cX0_hasBoth 0 = .ok (.aload_n 0, 1) := by decide +kernel
theorem dX0_hasBoth_1 : decode cX0_hasBoth 1 = .ok (.getfield 22, 3) := by decide +kernel
theorem dX0_hasBoth_34 : decode cX0_hasBoth 34 = .ok (.iconst 0, 1) := by decide +kernel
theorem dX0_hasBoth_35 : decode cX0_hasBoth 35 = .ok (.ireturn, 1) := by decide +kernel
theorem dX0_hasBoth_4 : decode cX0_hasBoth 4 = .ok (.iload_n 1, 1) := by decide +kernel
theorem dX0_hasBoth_5 : decode cX0_hasBoth 5 = .ok (.invokevirtual 30, 3) := by decide +kernel
theorem dX0_hasBoth_8 : decode cX0_hasBoth 8 = .ok (.ifCond .eq 26, 3) := by decide +kernel
theorem dX0_init_0 : decode cX0_init 0 = .ok (.aload_n 0, 1) := by decide +kernel
theorem dX0_init_1 : decode cX0_init 1 = .ok (.invokespecial 3, 3) := by decide +kernel
theorem dX0_init_12 : decode cX0_init 12 = .ok (.putfield 12, 3) := by decide +kernel
theorem dX0_init_15 : decode cX0_init 15 = .ok (.aload_n 0, 1) := by decide +kernel
theorem dX0_init_16 : decode cX0_init 16 = .ok (.aload_n 1, 1) := by decide +kernel
theorem dX0_init_17 : decode cX0_init 17 = .ok (.putfield 18, 3) := by decide +kernel
theorem dX0_init_20 : decode cX0_init 20 = .ok (.aload_n 0, 1) := by decide +kernel
theorem dX0_init_21 : decode cX0_init 21 = .ok (.aload_n 2, 1) := by decide +kernel
theorem dX0_init_22 : decode cX0_init 22 = .ok (.putfield 22, 3) := by decide +kernel
theorem dX0_init_25 : decode cX0_init 25 = .ok (.aload_n 0, 1) := by decide +kernel
theorem dX0_init_26 : decode cX0_init 26 = .ok (.aload_n 3, 1) := by decide +kernel
theorem dX0_init_27 : decode cX0_init 27 = .ok (.putfield 26, 3) := by decide +kernel
theorem dX0_init_30 : decode cX0_init 30 = .ok (.return_, 1) := by decide +kernel
theorem dX0_init_4 : decode cX0_init 4 = .ok (.aload_n 0, 1) := by decide +kernel
theorem dX0_init_5 : decode cX0_init 5 = .ok (.new 9, 3) := by decide +kernel
theorem dX0_init_8 : decode cX0_init 8 = .ok (.dup, 1) := by decide +kernel
theorem dX0_init_9 : decode cX0_init 9 = .ok (.invokespecial 11, 3) := by decide +kernel
theorem dX0_openBoth_0 : decode cX0_openBoth 0 = .ok (.aload_n 0, 1) := by decide +kernel
theorem dX0_openBoth_1 : decode cX0_openBoth 1 = .ok (.iload_n 1, 1) := by decide +kernel
theorem dX0_openBoth_10 : decode cX0_openBoth 10 = .ok (.ireturn, 1) := by decide +kernel
theorem dX0_openBoth_2 : decode cX0_openBoth 2 = .ok (.iload_n 2, 1) := by decide +kernel
theorem dX0_openBoth_3 : decode cX0_openBoth 3 = .ok (.invokevirtual 46, 3) := by decide +kernel
theorem dX0_openBoth_6 : decode cX0_openBoth 6 = .ok (.ifCond .ne 5, 3) := by decide +kernel
theorem dX0_openBoth_9 : decode cX0_openBoth 9 = .ok (.iconst 0, 1) := by decide +kernel
theorem dX10_addFour_0 : decode cX10_addFour 0 = .ok (.bipush 24, 2) := by decide +kernel
theorem dX10_addFour_11 : decode cX10_addFour 11 = .ok (.ifCond .lt 41, 3) := by decide +kernel
theorem dX10_addFour_14 : decode cX10_addFour 14 = .ok (.aload_n 0, 1) := by decide +kernel
theorem dX10_addFour_15 : decode cX10_addFour 15 = .ok (.getfield 15, 3) := by decide +kernel
theorem dX10_addFour_18 : decode cX10_addFour 18 = .ok (.aload_n 0, 1) := by decide +kernel
theorem dX10_addFour_19 : decode cX10_addFour 19 = .ok (.getfield 9, 3) := by decide +kernel
theorem dX10_addFour_2 : decode cX10_addFour 2 = .ok (.istore_n 2, 1) := by decide +kernel
theorem dX10_addFour_22 : decode cX10_addFour 22 = .ok (.arraylength, 1) := by decide +kernel
theorem dX10_addFour_23 : decode cX10_addFour 23 = .ok (.if_icmp .ge 29, 3) := by decide +kernel
theorem dX10_addFour_26 : decode cX10_addFour 26 = .ok (.aload_n 0, 1) := by decide +kernel
theorem dX10_addFour_27 : decode cX10_addFour 27 = .ok (.getfield 9, 3) := by decide +kernel
theorem dX10_addFour_3 : decode cX10_addFour 3 = .ok (.iload_n 2, 1) := by decide +kernel
theorem dX10_addFour_30 : decode cX10_addFour 30 = .ok (.aload_n 0, 1) := by decide +kernel
theorem dX10_addFour_31 : decode cX10_addFour 31 = .ok (.getfield 15, 3) := by decide +kernel
theorem dX10_addFour_34 : decode cX10_addFour 34 = .ok (.iload_n 1, 1) := by decide +kernel
theorem dX10_addFour_35 : decode cX10_addFour 35 = .ok (.iload_n 2, 1) := by decide +kernel
theorem dX10_addFour_36 : decode cX10_addFour 36 = .ok (.iushr, 1) := by decide +kernel
theorem dX10_addFour_37 : decode cX10_addFour 37 = .ok (.sipush 255, 3) := by decide +kernel
end
section
theorem dX10_addFour_4 : decode cX10_addFour 4 = .ok (.ifCond .lt 54, 3) := by decide +kernel
theorem dX10_addFour_40 : decode cX10_addFour 40 = .ok (.iand, 1) := by decide +kernel
theorem dX10_addFour_41 : decode cX10_addFour 41 = .ok (.iastore, 1) := by decide +kernel
theorem dX10_addFour_42 : decode cX10_addFour 42 = .ok (.aload_n 0, 1) := by decide +kernel
theorem dX10_addFour_43 : decode cX10_addFour 43 = .ok (.dup, 1) := by decide +kernel
theorem dX10_addFour_44 : decode cX10_addFour 44 = .ok (.getfield 15, 3) := by decide +kernel
theorem dX10_addFour_47 : decode cX10_addFour 47 = .ok (.iconst 1, 1) := by decide +kernel
theorem dX10_addFour_48 : decode cX10_addFour 48 = .ok (.iadd, 1) := by decide +kernel
theorem dX10_addFour_49 : decode cX10_addFour 49 = .ok (.putfield 15, 3) := by decide +kernel
theorem dX10_addFour_52 : decode cX10_addFour 52 = .ok (.iinc 2 (-8), 3) := by decide +kernel
theorem dX10_addFour_55 : decode cX10_addFour 55 = .ok (.goto (-52), 3) := by decide +kernel
theorem dX10_addFour_58 : decode cX10_addFour 58 = .ok (.return_, 1) := by decide +kernel
theorem dX10_addFour_7 : decode cX10_addFour 7 = .ok (.aload_n 0, 1) := by decide +kernel
theorem dX10_addFour_8 : decode cX10_addFour 8 = .ok (.getfield 15, 3) := by decide +kernel
theorem dX10_behindBlanks_0 : decode cX10_behindBlanks 0 = .ok (.iload_n 1, 1) := by decide +kernel
theorem dX10_behindBlanks_1 : decode cX10_behindBlanks 1 = .ok (.istore_n 2, 1) := by decide +kernel
theorem dX10_behindBlanks_2 : decode cX10_behindBlanks 2 = .ok (.iload_n 2, 1) := by decide +kernel
theorem dX10_behindBlanks_3 : decode cX10_behindBlanks 3 = .ok (.aload_n 0, 1) := by decide +kernel
theorem dX10_behindBlanks_4 : decode cX10_behindBlanks 4 = .ok (.getfield 15, 3) := by decide +kernel
theorem dX10_behindBlanks_48 : decode cX10_behindBlanks 48 = .ok (.aload_n 0, 1) := by decide +kernel
theorem dX10_behindBlanks_49 : decode cX10_behindBlanks 49 = .ok (.getfield 15, 3) := by decide +kernel
theorem dX10_behindBlanks_52 : decode cX10_behindBlanks 52 = .ok (.ireturn, 1) := by decide +kernel
theorem dX10_behindBlanks_7 : decode cX10_behindBlanks 7 = .ok (.if_icmp .ge 41, 3) := by decide +kernel
theorem dX10_byteAt_0 : decode cX10_byteAt 0 = .ok (.iload_n 1, 1) := by decide +kernel
theorem dX10_byteAt_1 : decode cX10_byteAt 1 = .ok (.ifCond .lt 29, 3) := by decide +kernel
theorem dX10_byteAt_30 : decode cX10_byteAt 30 = .ok (.iconst (-1), 1) := by decide +kernel
theorem dX10_byteAt_31 : decode cX10_byteAt 31 = .ok (.ireturn, 1) := by decide +kernel
theorem dX10_byteAt_4 : decode cX10_byteAt 4 = .ok (.iload_n 1, 1) := by decide +kernel
theorem dX10_byteAt_5 : decode cX10_byteAt 5 = .ok (.aload_n 0, 1) := by decide +kernel
theorem dX10_byteAt_6 : decode cX10_byteAt 6 = .ok (.getfield 15, 3) := by decide +kernel
theorem dX10_byteAt_9 : decode cX10_byteAt 9 = .ok (.if_icmp .ge 21, 3) := by decide +kernel
theorem dX10_init_0 : decode cX10_init 0 = .ok (.aload_n 0, 1) := by decide +kernel
theorem dX10_init_1 : decode cX10_init 1 = .ok (.invokespecial 3, 3) := by decide +kernel
theorem dX10_init_10 : decode cX10_init 10 = .ok (.putfield 9, 3) := by decide +kernel
theorem dX10_init_13 : decode cX10_init 13 = .ok (.return_, 1) := by decide +kernel
theorem dX10_init_4 : decode cX10_init 4 = .ok (.aload_n 0, 1) := by decide +kernel
theorem dX10_init_5 : decode cX10_init 5 = .ok (.sipush 2000, 3) := by decide +kernel
theorem dX10_init_8 : decode cX10_init 8 = .ok (.newarray .int, 2) := by decide +kernel
theorem dX10_toFirstToken_0 : decode cX10_toFirstToken 0 = .ok (.aload_n 0, 1) := by decide +kernel
theorem dX10_toFirstToken_1 : decode cX10_toFirstToken 1 = .ok (.iconst 0, 1) := by decide +kernel
theorem dX10_toFirstToken_10 : decode cX10_toFirstToken 10 = .ok (.aload_n 0, 1) := by decide +kernel
theorem dX10_toFirstToken_11 : decode cX10_toFirstToken 11 = .ok (.invokevirtual 25, 3) := by decide +kernel
theorem dX10_toFirstToken_14 : decode cX10_toFirstToken 14 = .ok (.return_, 1) := by decide +kernel
theorem dX10_toFirstToken_2 : decode cX10_toFirstToken 2 = .ok (.putfield 19, 3) := by decide +kernel
theorem dX10_toFirstToken_5 : decode cX10_toFirstToken 5 = .ok (.aload_n 0, 1) := by decide +kernel
theorem dX10_toFirstToken_6 : decode cX10_toFirstToken 6 = .ok (.iconst 0, 1) := by decide +kernel
theorem dX10_toFirstToken_7 : decode cX10_toFirstToken 7 = .ok (.putfield 22, 3) := by decide +kernel
theorem dX10_toNextToken_0 : decode cX10_toNextToken 0 = .ok (.aload_n 0, 1) := by decide +kernel
theorem dX10_toNextToken_1 : decode cX10_toNextToken 1 = .ok (.aload_n 0, 1) := by decide +kernel
theorem dX10_toNextToken_119 : decode cX10_toNextToken 119 = .ok (.return_, 1) := by decide +kernel
theorem dX10_toNextToken_12 : decode cX10_toNextToken 12 = .ok (.aload_n 0, 1) := by decide +kernel
theorem dX10_toNextToken_13 : decode cX10_toNextToken 13 = .ok (.dup, 1) := by decide +kernel
theorem dX10_toNextToken_14 : decode cX10_toNextToken 14 = .ok (.getfield 22, 3) := by decide +kernel
theorem dX10_toNextToken_17 : decode cX10_toNextToken 17 = .ok (.iconst 1, 1) := by decide +kernel
theorem dX10_toNextToken_18 : decode cX10_toNextToken 18 = .ok (.iadd, 1) := by decide +kernel
theorem dX10_toNextToken_19 : decode cX10_toNextToken 19 = .ok (.putfield 22, 3) := by decide +kernel
theorem dX10_toNextToken_2 : decode cX10_toNextToken 2 = .ok (.aload_n 0, 1) := by decide +kernel
theorem dX10_toNextToken_22 : decode cX10_toNextToken 22 = .ok (.aload_n 0, 1) := by decide +kernel
theorem dX10_toNextToken_23 : decode cX10_toNextToken 23 = .ok (.iconst 0, 1) := by decide +kernel
theorem dX10_toNextToken_24 : decode cX10_toNextToken 24 = .ok (.putfield 35, 3) := by decide +kernel
theorem dX10_toNextToken_27 : decode cX10_toNextToken 27 = .ok (.aload_n 0, 1) := by decide +kernel
theorem dX10_toNextToken_28 : decode cX10_toNextToken 28 = .ok (.aload_n 0, 1) := by decide +kernel
theorem dX10_toNextToken_29 : decode cX10_toNextToken 29 = .ok (.getfield 32, 3) := by decide +kernel
theorem dX10_toNextToken_3 : decode cX10_toNextToken 3 = .ok (.getfield 19, 3) := by decide +kernel
theorem dX10_toNextToken_32 : decode cX10_toNextToken 32 = .ok (.invokevirtual 38, 3) := by decide +kernel
theorem dX10_toNextToken_35 : decode cX10_toNextToken 35 = .ok (.istore_n 1, 1) := by decide +kernel
theorem dX10_toNextToken_36 : decode cX10_toNextToken 36 = .ok (.iload_n 1, 1) := by decide +kernel
theorem dX10_toNextToken_37 : decode cX10_toNextToken 37 = .ok (.ifCond .ge 19, 3) := by decide +kernel
theorem dX10_toNextToken_40 : decode cX10_toNextToken 40 = .ok (.aload_n 0, 1) := by decide +kernel
theorem dX10_toNextToken_41 : decode cX10_toNextToken 41 = .ok (.iconst 0, 1) := by decide +kernel
theorem dX10_toNextToken_42 : decode cX10_toNextToken 42 = .ok (.putfield 41, 3) := by decide +kernel
theorem dX10_toNextToken_45 : decode cX10_toNextToken 45 = .ok (.aload_n 0, 1) := by decide +kernel
theorem dX10_toNextToken_46 : decode cX10_toNextToken 46 = .ok (.aload_n 0, 1) := by decide +kernel
theorem dX10_toNextToken_47 : decode cX10_toNextToken 47 = .ok (.getfield 32, 3) := by decide +kernel
theorem dX10_toNextToken_50 : decode cX10_toNextToken 50 = .ok (.putfield 19, 3) := by decide +kernel
theorem dX10_toNextToken_53 : decode cX10_toNextToken 53 = .ok (.goto 66, 3) := by decide +kernel
theorem dX10_toNextToken_6 : decode cX10_toNextToken 6 = .ok (.invokevirtual 28, 3) := by decide +kernel
theorem dX10_toNextToken_9 : decode cX10_toNextToken 9 = .ok (.putfield 32, 3) := by decide +kernel
theorem dX11_alike_0 : decode cX11_alike 0 = .ok (.aload_n 0, 1) := by decide +kernel
theorem dX11_alike_1 : decode cX11_alike 1 = .ok (.getfield 35, 3) := by decide +kernel
theorem dX11_alike_22 : decode cX11_alike 22 = .ok (.iconst (-1), 1) := by decide +kernel
theorem dX11_alike_23 : decode cX11_alike 23 = .ok (.ireturn, 1) := by decide +kernel
theorem dX11_alike_4 : decode cX11_alike 4 = .ok (.iload_n 1, 1) := by decide +kernel
theorem dX11_alike_5 : decode cX11_alike 5 = .ok (.invokevirtual 251, 3) := by decide +kernel
theorem dX11_alike_8 : decode cX11_alike 8 = .ok (.ifCond .eq 14, 3) := by decide +kernel
theorem dX11_appendPlace_0 : decode cX11_appendPlace 0 = .ok (.aload_n 0, 1) := by decide +kernel
theorem dX11_appendPlace_1 : decode cX11_appendPlace 1 = .ok (.getfield 28, 3) := by decide +kernel
theorem dX11_appendPlace_13 : decode cX11_appendPlace 13 = .ok (.aload_n 0, 1) := by decide +kernel
theorem dX11_appendPlace_14 : decode cX11_appendPlace 14 = .ok (.getfield 49, 3) := by decide +kernel
theorem dX11_appendPlace_17 : decode cX11_appendPlace 17 = .ok (.iconst 0, 1) := by decide +kernel
theorem dX11_appendPlace_18 : decode cX11_appendPlace 18 = .ok (.iconst 0, 1) := by decide +kernel
theorem dX11_appendPlace_19 : decode cX11_appendPlace 19 = .ok (.iconst 0, 1) := by decide +kernel
theorem dX11_appendPlace_20 : decode cX11_appendPlace 20 = .ok (.invokevirtual 134, 3) := by decide +kernel
theorem dX11_appendPlace_23 : decode cX11_appendPlace 23 = .ok (.aload_n 0, 1) := by decide +kernel
theorem dX11_appendPlace_24 : decode cX11_appendPlace 24 = .ok (.getfield 28, 3) := by decide +kernel
theorem dX11_appendPlace_27 : decode cX11_appendPlace 27 = .ok (.getfield 138, 3) := by decide +kernel
theorem dX11_appendPlace_30 : decode cX11_appendPlace 30 = .ok (.ireturn, 1) := by decide +kernel
theorem dX11_appendPlace_4 : decode cX11_appendPlace 4 = .ok (.iload_n 1, 1) := by decide +kernel
theorem dX11_appendPlace_5 : decode cX11_appendPlace 5 = .ok (.invokevirtual 130, 3) := by decide +kernel
theorem dX11_appendPlace_8 : decode cX11_appendPlace 8 = .ok (.ifCond .ne 5, 3) := by decide +kernel
theorem dX11_at_0 : decode cX11_at 0 = .ok (.aload_n 0, 1) := by decide +kernel
theorem dX11_at_1 : decode cX11_at 1 = .ok (.getfield 28, 3) := by decide +kernel
theorem dX11_at_4 : decode cX11_at 4 = .ok (.iload_n 1, 1) := by decide +kernel
theorem dX11_at_5 : decode cX11_at 5 = .ok (.invokevirtual 120, 3) := by decide +kernel
theorem dX11_at_8 : decode cX11_at 8 = .ok (.ireturn, 1) := by decide +kernel
theorem dX11_back_0 : decode cX11_back 0 = .ok (.iload_n 1, 1) := by decide +kernel
theorem dX11_back_1 : decode cX11_back 1 = .ok (.ifCond .lt 14, 3) := by decide +kernel
theorem dX11_back_12 : decode cX11_back 12 = .ok (.if_icmp .le 5, 3) := by decide +kernel
theorem dX11_back_15 : decode cX11_back 15 = .ok (.iconst (-1), 1) := by decide +kernel
theorem dX11_back_16 : decode cX11_back 16 = .ok (.ireturn, 1) := by decide +kernel
theorem dX11_back_17 : decode cX11_back 17 = .ok (.aload_n 0, 1) := by decide +kernel
theorem dX11_back_18 : decode cX11_back 18 = .ok (.getfield 10, 3) := by decide +kernel
theorem dX11_back_21 : decode cX11_back 21 = .ok (.dup, 1) := by decide +kernel
theorem dX11_back_22 : decode cX11_back 22 = .ok (.getfield 85, 3) := by decide +kernel
theorem dX11_back_25 : decode cX11_back 25 = .ok (.iload_n 1, 1) := by decide +kernel
theorem dX11_back_26 : decode cX11_back 26 = .ok (.isub, 1) := by decide +kernel
theorem dX11_back_27 : decode cX11_back 27 = .ok (.putfield 85, 3) := by decide +kernel
theorem dX11_back_30 : decode cX11_back 30 = .ok (.aload_n 0, 1) := by decide +kernel
theorem dX11_back_31 : decode cX11_back 31 = .ok (.getfield 10, 3) := by decide +kernel
theorem dX11_back_34 : decode cX11_back 34 = .ok (.getfield 85, 3) := by decide +kernel
theorem dX11_back_37 : decode cX11_back 37 = .ok (.ireturn, 1) := by decide +kernel
theorem dX11_back_4 : decode cX11_back 4 = .ok (.iload_n 1, 1) := by decide +kernel
theorem dX11_back_5 : decode cX11_back 5 = .ok (.aload_n 0, 1) := by decide +kernel
theorem dX11_back_6 : decode cX11_back 6 = .ok (.getfield 10, 3) := by decide +kernel
theorem dX11_back_9 : decode cX11_back 9 = .ok (.getfield 85, 3) := by decide +kernel
theorem dX11_best_0 : decode cX11_best 0 = .ok (.iload_n 2, 1) := by decide +kernel
theorem dX11_best_1 : decode cX11_best 1 = .ok (.ifCond .lt 19, 3) := by decide +kernel
theorem dX11_best_10 : decode cX11_best 10 = .ok (.getfield 35, 3) := by decide +kernel
theorem dX11_best_13 : decode cX11_best 13 = .ok (.iload_n 1, 1) := by decide +kernel
theorem dX11_best_14 : decode cX11_best 14 = .ok (.invokevirtual 251, 3) := by decide +kernel
theorem dX11_best_17 : decode cX11_best 17 = .ok (.ifCond .ne 5, 3) := by decide +kernel
theorem dX11_best_20 : decode cX11_best 20 = .ok (.iconst (-1), 1) := by decide +kernel
theorem dX11_best_21 : decode cX11_best 21 = .ok (.ireturn, 1) := by decide +kernel
theorem dX11_best_4 : decode cX11_best 4 = .ok (.iload_n 2, 1) := by decide +kernel
theorem dX11_best_5 : decode cX11_best 5 = .ok (.iconst 1, 1) := by decide +kernel
theorem dX11_best_6 : decode cX11_best 6 = .ok (.if_icmp .gt 14, 3) := by decide +kernel
theorem dX11_best_9 : decode cX11_best 9 = .ok (.aload_n 0, 1) := by decide +kernel
theorem dX11_bound_0 : decode cX11_bound 0 = .ok (.aload_n 0, 1) := by decide +kernel
theorem dX11_bound_1 : decode cX11_bound 1 = .ok (.getfield 65, 3) := by decide +kernel
theorem dX11_bound_12 : decode cX11_bound 12 = .ok (.iconst (-1), 1) := by decide +kernel
theorem dX11_bound_13 : decode cX11_bound 13 = .ok (.ireturn, 1) := by decide +kernel
theorem dX11_bound_4 : decode cX11_bound 4 = .ok (.iload_n 1, 1) := by decide +kernel
theorem dX11_bound_5 : decode cX11_bound 5 = .ok (.iload_n 2, 1) := by decide +kernel
theorem dX11_bound_6 : decode cX11_bound 6 = .ok (.invokevirtual 212, 3) := by decide +kernel
theorem dX11_bound_9 : decode cX11_bound 9 = .ok (.ifCond .ne 5, 3) := by decide +kernel
theorem dX11_cause_0 : decode cX11_cause 0 = .ok (.aload_n 0, 1) := by decide +kernel
theorem dX11_cause_1 : decode cX11_cause 1 = .ok (.getfield 21, 3) := by decide +kernel
theorem dX11_cause_4 : decode cX11_cause 4 = .ok (.getfield 117, 3) := by decide +kernel
theorem dX11_cause_7 : decode cX11_cause 7 = .ok (.ireturn, 1) := by decide +kernel
theorem dX11_count_0 : decode cX11_count 0 = .ok (.iload_n 1, 1) := by decide +kernel
theorem dX11_count_1 : decode cX11_count 1 = .ok (.tableswitch 221 0 14 #[75, 83, 91, 99, 108, 117, 126, 135, 143, 151, 159, 175, 180, 196, 212], 75) := by decide +kernel
theorem dX11_count_100 : decode cX11_count 100 = .ok (.aload_n 0, 1) := by decide +kernel
theorem dX11_count_101 : decode cX11_count 101 = .ok (.getfield 42, 3) := by decide +kernel
theorem dX11_count_104 : decode cX11_count 104 = .ok (.iconst 0, 1) := by decide +kernel
theorem dX11_count_105 : decode cX11_count 105 = .ok (.invokevirtual 154, 3) := by decide +kernel
theorem dX11_count_108 : decode cX11_count 108 = .ok (.ireturn, 1) := by decide +kernel
theorem dX11_count_109 : decode cX11_count 109 = .ok (.aload_n 0, 1) := by decide +kernel
theorem dX11_count_110 : decode cX11_count 110 = .ok (.getfield 42, 3) := by decide +kernel
theorem dX11_count_113 : decode cX11_count 113 = .ok (.iconst 1, 1) := by decide +kernel
theorem dX11_count_114 : decode cX11_count 114 = .ok (.invokevirtual 154, 3) := by decide +kernel
theorem dX11_count_117 : decode cX11_count 117 = .ok (.ireturn, 1) := by decide +kernel
theorem dX11_count_118 : decode cX11_count 118 = .ok (.aload_n 0, 1) := by decide +kernel
theorem dX11_count_119 : decode cX11_count 119 = .ok (.getfield 42, 3) := by decide +kernel
theorem dX11_count_122 : decode cX11_count 122 = .ok (.iconst 2, 1) := by decide +kernel
theorem dX11_count_123 : decode cX11_count 123 = .ok (.invokevirtual 154, 3) := by decide +kernel
theorem dX11_count_126 : decode cX11_count 126 = .ok (.ireturn, 1) := by decide +kernel
theorem dX11_count_127 : decode cX11_count 127 = .ok (.aload_n 0, 1) := by decide +kernel
theorem dX11_count_128 : decode cX11_count 128 = .ok (.getfield 42, 3) := by decide +kernel
theorem dX11_count_131 : decode cX11_count 131 = .ok (.iconst 3, 1) := by decide +kernel
theorem dX11_count_132 : decode cX11_count 132 = .ok (.invokevirtual 154, 3) := by decide +kernel
theorem dX11_count_135 : decode cX11_count 135 = .ok (.ireturn, 1) := by decide +kernel
theorem dX11_count_136 : decode cX11_count 136 = .ok (.aload_n 0, 1) := by decide +kernel
theorem dX11_count_137 : decode cX11_count 137 = .ok (.getfield 28, 3) := by decide +kernel
theorem dX11_count_140 : decode cX11_count 140 = .ok (.invokevirtual 378, 3) := by decide +kernel
theorem dX11_count_143 : decode cX11_count 143 = .ok (.ireturn, 1) := by decide +kernel
theorem dX11_count_144 : decode cX11_count 144 = .ok (.aload_n 0, 1) := by decide +kernel
theorem dX11_count_145 : decode cX11_count 145 = .ok (.getfield 10, 3) := by decide +kernel
theorem dX11_count_148 : decode cX11_count 148 = .ok (.getfield 85, 3) := by decide +kernel
theorem dX11_count_151 : decode cX11_count 151 = .ok (.ireturn, 1) := by decide +kernel
theorem dX11_count_152 : decode cX11_count 152 = .ok (.aload_n 0, 1) := by decide +kernel
theorem dX11_count_153 : decode cX11_count 153 = .ok (.getfield 49, 3) := by decide +kernel
theorem dX11_count_156 : decode cX11_count 156 = .ok (.getfield 381, 3) := by decide +kernel
theorem dX11_count_159 : decode cX11_count 159 = .ok (.ireturn, 1) := by decide +kernel
theorem dX11_count_160 : decode cX11_count 160 = .ok (.aload_n 0, 1) := by decide +kernel
theorem dX11_count_161 : decode cX11_count 161 = .ok (.getfield 28, 3) := by decide +kernel
theorem dX11_count_164 : decode cX11_count 164 = .ok (.iconst 0, 1) := by decide +kernel
theorem dX11_count_165 : decode cX11_count 165 = .ok (.aload_n 0, 1) := by decide +kernel
theorem dX11_count_166 : decode cX11_count 166 = .ok (.getfield 28, 3) := by decide +kernel
theorem dX11_count_169 : decode cX11_count 169 = .ok (.getfield 138, 3) := by decide +kernel
theorem dX11_count_172 : decode cX11_count 172 = .ok (.invokevirtual 187, 3) := by decide +kernel
theorem dX11_count_175 : decode cX11_count 175 = .ok (.ireturn, 1) := by decide +kernel
theorem dX11_count_176 : decode cX11_count 176 = .ok (.aload_n 0, 1) := by decide +kernel
theorem dX11_count_177 : decode cX11_count 177 = .ok (.invokevirtual 382, 3) := by decide +kernel
theorem dX11_count_180 : decode cX11_count 180 = .ok (.ireturn, 1) := by decide +kernel
theorem dX11_count_181 : decode cX11_count 181 = .ok (.aload_n 0, 1) := by decide +kernel
theorem dX11_count_182 : decode cX11_count 182 = .ok (.getfield 28, 3) := by decide +kernel
theorem dX11_count_185 : decode cX11_count 185 = .ok (.iconst 0, 1) := by decide +kernel
theorem dX11_count_186 : decode cX11_count 186 = .ok (.aload_n 0, 1) := by decide +kernel
theorem dX11_count_187 : decode cX11_count 187 = .ok (.getfield 28, 3) := by decide +kernel
theorem dX11_count_190 : decode cX11_count 190 = .ok (.getfield 138, 3) := by decide +kernel
theorem dX11_count_193 : decode cX11_count 193 = .ok (.invokevirtual 193, 3) := by decide +kernel
theorem dX11_count_196 : decode cX11_count 196 = .ok (.ireturn, 1) := by decide +kernel
theorem dX11_count_197 : decode cX11_count 197 = .ok (.aload_n 0, 1) := by decide +kernel
theorem dX11_count_198 : decode cX11_count 198 = .ok (.getfield 28, 3) := by decide +kernel
theorem dX11_count_201 : decode cX11_count 201 = .ok (.iconst 0, 1) := by decide +kernel
theorem dX11_count_202 : decode cX11_count 202 = .ok (.aload_n 0, 1) := by decide +kernel
theorem dX11_count_203 : decode cX11_count 203 = .ok (.getfield 28, 3) := by decide +kernel
theorem dX11_count_206 : decode cX11_count 206 = .ok (.getfield 138, 3) := by decide +kernel
theorem dX11_count_209 : decode cX11_count 209 = .ok (.invokevirtual 190, 3) := by decide +kernel
theorem dX11_count_212 : decode cX11_count 212 = .ok (.ireturn, 1) := by decide +kernel
theorem dX11_count_213 : decode cX11_count 213 = .ok (.aload_n 0, 1) := by decide +kernel
theorem dX11_count_214 : decode cX11_count 214 = .ok (.getfield 28, 3) := by decide +kernel
theorem dX11_count_217 : decode cX11_count 217 = .ok (.iconst 0, 1) := by decide +kernel
theorem dX11_count_218 : decode cX11_count 218 = .ok (.invokevirtual 359, 3) := by decide +kernel
theorem dX11_count_221 : decode cX11_count 221 = .ok (.ireturn, 1) := by decide +kernel
theorem dX11_count_222 : decode cX11_count 222 = .ok (.iconst (-1), 1) := by decide +kernel
theorem dX11_count_223 : decode cX11_count 223 = .ok (.ireturn, 1) := by decide +kernel
theorem dX11_count_76 : decode cX11_count 76 = .ok (.aload_n 0, 1) := by decide +kernel
theorem dX11_count_77 : decode cX11_count 77 = .ok (.getfield 28, 3) := by decide +kernel
theorem dX11_count_80 : decode cX11_count 80 = .ok (.getfield 138, 3) := by decide +kernel
theorem dX11_count_83 : decode cX11_count 83 = .ok (.ireturn, 1) := by decide +kernel
theorem dX11_count_84 : decode cX11_count 84 = .ok (.aload_n 0, 1) := by decide +kernel
theorem dX11_count_85 : decode cX11_count 85 = .ok (.getfield 28, 3) := by decide +kernel
theorem dX11_count_88 : decode cX11_count 88 = .ok (.invokevirtual 374, 3) := by decide +kernel
theorem dX11_count_91 : decode cX11_count 91 = .ok (.ireturn, 1) := by decide +kernel
theorem dX11_count_92 : decode cX11_count 92 = .ok (.aload_n 0, 1) := by decide +kernel
theorem dX11_count_93 : decode cX11_count 93 = .ok (.getfield 35, 3) := by decide +kernel
theorem dX11_count_96 : decode cX11_count 96 = .ok (.getfield 377, 3) := by decide +kernel
theorem dX11_count_99 : decode cX11_count 99 = .ok (.ireturn, 1) := by decide +kernel
theorem dX11_cover_0 : decode cX11_cover 0 = .ok (.iload_n 2, 1) := by decide +kernel
theorem dX11_cover_1 : decode cX11_cover 1 = .ok (.ifCond .lt 14, 3) := by decide +kernel
theorem dX11_cover_12 : decode cX11_cover 12 = .ok (.ifCond .ne 5, 3) := by decide +kernel
theorem dX11_cover_15 : decode cX11_cover 15 = .ok (.iconst (-1), 1) := by decide +kernel
theorem dX11_cover_16 : decode cX11_cover 16 = .ok (.ireturn, 1) := by decide +kernel
theorem dX11_cover_4 : decode cX11_cover 4 = .ok (.aload_n 0, 1) := by decide +kernel
theorem dX11_cover_5 : decode cX11_cover 5 = .ok (.getfield 35, 3) := by decide +kernel
theorem dX11_cover_8 : decode cX11_cover 8 = .ok (.iload_n 1, 1) := by decide +kernel
theorem dX11_cover_9 : decode cX11_cover 9 = .ok (.invokevirtual 251, 3) := by decide +kernel
theorem dX11_distance_0 : decode cX11_distance 0 = .ok (.aload_n 0, 1) := by decide +kernel
theorem dX11_distance_1 : decode cX11_distance 1 = .ok (.getfield 65, 3) := by decide +kernel
theorem dX11_distance_25 : decode cX11_distance 25 = .ok (.iconst (-1), 1) := by decide +kernel
theorem dX11_distance_26 : decode cX11_distance 26 = .ok (.ireturn, 1) := by decide +kernel
theorem dX11_distance_4 : decode cX11_distance 4 = .ok (.iload_n 1, 1) := by decide +kernel
theorem dX11_distance_5 : decode cX11_distance 5 = .ok (.iload_n 2, 1) := by decide +kernel
theorem dX11_distance_6 : decode cX11_distance 6 = .ok (.invokevirtual 212, 3) := by decide +kernel
theorem dX11_distance_9 : decode cX11_distance 9 = .ok (.ifCond .eq 16, 3) := by decide +kernel
theorem dX11_drop_0 : decode cX11_drop 0 = .ok (.aload_n 0, 1) := by decide +kernel
theorem dX11_drop_1 : decode cX11_drop 1 = .ok (.getfield 28, 3) := by decide +kernel
theorem dX11_drop_11 : decode cX11_drop 11 = .ok (.iconst 0, 1) := by decide +kernel
theorem dX11_drop_12 : decode cX11_drop 12 = .ok (.ireturn, 1) := by decide +kernel
theorem dX11_drop_4 : decode cX11_drop 4 = .ok (.iload_n 1, 1) := by decide +kernel
theorem dX11_drop_5 : decode cX11_drop 5 = .ok (.invokevirtual 151, 3) := by decide +kernel
theorem dX11_drop_8 : decode cX11_drop 8 = .ok (.ifCond .ne 5, 3) := by decide +kernel
theorem dX11_feed_0 : decode cX11_feed 0 = .ok (.aload_n 0, 1) := by decide +kernel
theorem dX11_feed_1 : decode cX11_feed 1 = .ok (.getfield 10, 3) := by decide +kernel
theorem dX11_feed_10 : decode cX11_feed 10 = .ok (.if_icmp .le 5, 3) := by decide +kernel
theorem dX11_feed_15 : decode cX11_feed 15 = .ok (.aload_n 0, 1) := by decide +kernel
theorem dX11_feed_16 : decode cX11_feed 16 = .ok (.getfield 10, 3) := by decide +kernel
theorem dX11_feed_19 : decode cX11_feed 19 = .ok (.iload_n 1, 1) := by decide +kernel
theorem dX11_feed_20 : decode cX11_feed 20 = .ok (.invokevirtual 89, 3) := by decide +kernel
theorem dX11_feed_23 : decode cX11_feed 23 = .ok (.aload_n 0, 1) := by decide +kernel
theorem dX11_feed_24 : decode cX11_feed 24 = .ok (.getfield 10, 3) := by decide +kernel
theorem dX11_feed_27 : decode cX11_feed 27 = .ok (.iload_n 2, 1) := by decide +kernel
theorem dX11_feed_28 : decode cX11_feed 28 = .ok (.invokevirtual 89, 3) := by decide +kernel
theorem dX11_feed_31 : decode cX11_feed 31 = .ok (.aload_n 0, 1) := by decide +kernel
theorem dX11_feed_32 : decode cX11_feed 32 = .ok (.getfield 10, 3) := by decide +kernel
theorem dX11_feed_35 : decode cX11_feed 35 = .ok (.iload_n 3, 1) := by decide +kernel
theorem dX11_feed_36 : decode cX11_feed 36 = .ok (.invokevirtual 89, 3) := by decide +kernel
theorem dX11_feed_39 : decode cX11_feed 39 = .ok (.aload_n 0, 1) := by decide +kernel
theorem dX11_feed_4 : decode cX11_feed 4 = .ok (.getfield 85, 3) := by decide +kernel
theorem dX11_feed_40 : decode cX11_feed 40 = .ok (.getfield 10, 3) := by decide +kernel
theorem dX11_feed_43 : decode cX11_feed 43 = .ok (.iload 4, 2) := by decide +kernel
theorem dX11_feed_45 : decode cX11_feed 45 = .ok (.invokevirtual 89, 3) := by decide +kernel
theorem dX11_feed_48 : decode cX11_feed 48 = .ok (.aload_n 0, 1) := by decide +kernel
theorem dX11_feed_49 : decode cX11_feed 49 = .ok (.getfield 10, 3) := by decide +kernel
theorem dX11_feed_52 : decode cX11_feed 52 = .ok (.iload 5, 2) := by decide +kernel
theorem dX11_feed_54 : decode cX11_feed 54 = .ok (.invokevirtual 89, 3) := by decide +kernel
theorem dX11_feed_57 : decode cX11_feed 57 = .ok (.aload_n 0, 1) := by decide +kernel
theorem dX11_feed_58 : decode cX11_feed 58 = .ok (.getfield 10, 3) := by decide +kernel
theorem dX11_feed_61 : decode cX11_feed 61 = .ok (.getfield 85, 3) := by decide +kernel
theorem dX11_feed_64 : decode cX11_feed 64 = .ok (.ireturn, 1) := by decide +kernel
theorem dX11_feed_7 : decode cX11_feed 7 = .ok (.sipush 1980, 3) := by decide +kernel
theorem dX11_fired_0 : decode cX11_fired 0 = .ok (.iload_n 1, 1) := by decide +kernel
theorem dX11_fired_1 : decode cX11_fired 1 = .ok (.ifCond .ge 7, 3) := by decide +kernel
theorem dX11_fired_12 : decode cX11_fired 12 = .ok (.iload_n 1, 1) := by decide +kernel
theorem dX11_fired_13 : decode cX11_fired 13 = .ok (.invokevirtual 266, 3) := by decide +kernel
theorem dX11_fired_16 : decode cX11_fired 16 = .ok (.ireturn, 1) := by decide +kernel
theorem dX11_fired_4 : decode cX11_fired 4 = .ok (.iconst (-1), 1) := by decide +kernel
theorem dX11_fired_5 : decode cX11_fired 5 = .ok (.goto 11, 3) := by decide +kernel
theorem dX11_fired_8 : decode cX11_fired 8 = .ok (.aload_n 0, 1) := by decide +kernel
theorem dX11_fired_9 : decode cX11_fired 9 = .ok (.getfield 74, 3) := by decide +kernel
theorem dX11_flat_0 : decode cX11_flat 0 = .ok (.iload_n 1, 1) := by decide +kernel
theorem dX11_flat_1 : decode cX11_flat 1 = .ok (.iconst 1, 1) := by decide +kernel
theorem dX11_flat_12 : decode cX11_flat 12 = .ok (.iconst (-1), 1) := by decide +kernel
theorem dX11_flat_13 : decode cX11_flat 13 = .ok (.goto 11, 3) := by decide +kernel
theorem dX11_flat_16 : decode cX11_flat 16 = .ok (.aload_n 0, 1) := by decide +kernel
theorem dX11_flat_17 : decode cX11_flat 17 = .ok (.getfield 28, 3) := by decide +kernel
theorem dX11_flat_2 : decode cX11_flat 2 = .ok (.if_icmp .lt 10, 3) := by decide +kernel
theorem dX11_flat_20 : decode cX11_flat 20 = .ok (.iload_n 1, 1) := by decide +kernel
theorem dX11_flat_21 : decode cX11_flat 21 = .ok (.invokevirtual 353, 3) := by decide +kernel
theorem dX11_flat_24 : decode cX11_flat 24 = .ok (.ireturn, 1) := by decide +kernel
theorem dX11_flat_5 : decode cX11_flat 5 = .ok (.iload_n 1, 1) := by decide +kernel
theorem dX11_flat_6 : decode cX11_flat 6 = .ok (.sipush 160, 3) := by decide +kernel
theorem dX11_flat_9 : decode cX11_flat 9 = .ok (.if_icmp .le 7, 3) := by decide +kernel
theorem dX11_gap_0 : decode cX11_gap 0 = .ok (.aload_n 0, 1) := by decide +kernel
theorem dX11_gap_1 : decode cX11_gap 1 = .ok (.sipush (-1000), 3) := by decide +kernel
theorem dX11_gap_4 : decode cX11_gap 4 = .ok (.invokevirtual 127, 3) := by decide +kernel
theorem dX11_gap_7 : decode cX11_gap 7 = .ok (.ireturn, 1) := by decide +kernel
theorem dX11_goOnFrom_0 : decode cX11_goOnFrom 0 = .ok (.aload_n 0, 1) := by decide +kernel
theorem dX11_goOnFrom_1 : decode cX11_goOnFrom 1 = .ok (.getfield 28, 3) := by decide +kernel
theorem dX11_goOnFrom_12 : decode cX11_goOnFrom 12 = .ok (.aload_n 1, 1) := by decide +kernel
theorem dX11_goOnFrom_13 : decode cX11_goOnFrom 13 = .ok (.getfield 365, 3) := by decide +kernel
theorem dX11_goOnFrom_16 : decode cX11_goOnFrom 16 = .ok (.invokevirtual 366, 3) := by decide +kernel
theorem dX11_goOnFrom_19 : decode cX11_goOnFrom 19 = .ok (.aload_n 0, 1) := by decide +kernel
theorem dX11_goOnFrom_20 : decode cX11_goOnFrom 20 = .ok (.getfield 49, 3) := by decide +kernel
theorem dX11_goOnFrom_23 : decode cX11_goOnFrom 23 = .ok (.invokevirtual 371, 3) := by decide +kernel
theorem dX11_goOnFrom_26 : decode cX11_goOnFrom 26 = .ok (.return_, 1) := by decide +kernel
theorem dX11_goOnFrom_4 : decode cX11_goOnFrom 4 = .ok (.aload_n 1, 1) := by decide +kernel
theorem dX11_goOnFrom_5 : decode cX11_goOnFrom 5 = .ok (.invokevirtual 369, 3) := by decide +kernel
theorem dX11_goOnFrom_8 : decode cX11_goOnFrom 8 = .ok (.aload_n 0, 1) := by decide +kernel
theorem dX11_goOnFrom_9 : decode cX11_goOnFrom 9 = .ok (.getfield 42, 3) := by decide +kernel
theorem dX11_hold_0 : decode cX11_hold 0 = .ok (.iload_n 1, 1) := by decide +kernel
theorem dX11_hold_1 : decode cX11_hold 1 = .ok (.ifCond .lt 12, 3) := by decide +kernel
theorem dX11_hold_10 : decode cX11_hold 10 = .ok (.if_icmp .lt 5, 3) := by decide +kernel
theorem dX11_hold_13 : decode cX11_hold 13 = .ok (.iconst 0, 1) := by decide +kernel
theorem dX11_hold_14 : decode cX11_hold 14 = .ok (.ireturn, 1) := by decide +kernel
theorem dX11_hold_15 : decode cX11_hold 15 = .ok (.aload_n 0, 1) := by decide +kernel
theorem dX11_hold_16 : decode cX11_hold 16 = .ok (.getfield 56, 3) := by decide +kernel
theorem dX11_hold_19 : decode cX11_hold 19 = .ok (.iload_n 1, 1) := by decide +kernel
theorem dX11_hold_20 : decode cX11_hold 20 = .ok (.aaload, 1) := by decide +kernel
theorem dX11_hold_21 : decode cX11_hold 21 = .ok (.astore_n 2, 1) := by decide +kernel
theorem dX11_hold_22 : decode cX11_hold 22 = .ok (.aload_n 0, 1) := by decide +kernel
theorem dX11_hold_23 : decode cX11_hold 23 = .ok (.getfield 28, 3) := by decide +kernel
theorem dX11_hold_26 : decode cX11_hold 26 = .ok (.aload_n 2, 1) := by decide +kernel
theorem dX11_hold_27 : decode cX11_hold 27 = .ok (.invokevirtual 362, 3) := by decide +kernel
theorem dX11_hold_30 : decode cX11_hold 30 = .ok (.aload_n 2, 1) := by decide +kernel
theorem dX11_hold_31 : decode cX11_hold 31 = .ok (.getfield 365, 3) := by decide +kernel
theorem dX11_hold_34 : decode cX11_hold 34 = .ok (.aload_n 0, 1) := by decide +kernel
theorem dX11_hold_35 : decode cX11_hold 35 = .ok (.getfield 42, 3) := by decide +kernel
theorem dX11_hold_38 : decode cX11_hold 38 = .ok (.invokevirtual 366, 3) := by decide +kernel
theorem dX11_hold_4 : decode cX11_hold 4 = .ok (.iload_n 1, 1) := by decide +kernel
theorem dX11_hold_41 : decode cX11_hold 41 = .ok (.aload_n 2, 1) := by decide +kernel
theorem dX11_hold_42 : decode cX11_hold 42 = .ok (.iconst 1, 1) := by decide +kernel
theorem dX11_hold_43 : decode cX11_hold 43 = .ok (.putfield 110, 3) := by decide +kernel
theorem dX11_hold_46 : decode cX11_hold 46 = .ok (.iconst 1, 1) := by decide +kernel
theorem dX11_hold_47 : decode cX11_hold 47 = .ok (.ireturn, 1) := by decide +kernel
theorem dX11_hold_5 : decode cX11_hold 5 = .ok (.aload_n 0, 1) := by decide +kernel
theorem dX11_hold_6 : decode cX11_hold 6 = .ok (.getfield 56, 3) := by decide +kernel
theorem dX11_hold_9 : decode cX11_hold 9 = .ok (.arraylength, 1) := by decide +kernel
theorem dX11_init_0 : decode cX11_init 0 = .ok (.aload_n 0, 1) := by decide +kernel
theorem dX11_init_1 : decode cX11_init 1 = .ok (.invokespecial 1, 3) := by decide +kernel
theorem dX11_init_100 : decode cX11_init 100 = .ok (.iconst 2, 1) := by decide +kernel
theorem dX11_init_101 : decode cX11_init 101 = .ok (.new 53, 3) := by decide +kernel
theorem dX11_init_104 : decode cX11_init 104 = .ok (.dup, 1) := by decide +kernel
theorem dX11_init_105 : decode cX11_init 105 = .ok (.invokespecial 55, 3) := by decide +kernel
theorem dX11_init_108 : decode cX11_init 108 = .ok (.aastore, 1) := by decide +kernel
theorem dX11_init_109 : decode cX11_init 109 = .ok (.putfield 56, 3) := by decide +kernel
theorem dX11_init_112 : decode cX11_init 112 = .ok (.aload_n 0, 1) := by decide +kernel
theorem dX11_init_113 : decode cX11_init 113 = .ok (.new 60, 3) := by decide +kernel
theorem dX11_init_116 : decode cX11_init 116 = .ok (.dup, 1) := by decide +kernel
theorem dX11_init_117 : decode cX11_init 117 = .ok (.aload_n 0, 1) := by decide +kernel
theorem dX11_init_118 : decode cX11_init 118 = .ok (.getfield 28, 3) := by decide +kernel
theorem dX11_init_12 : decode cX11_init 12 = .ok (.putfield 10, 3) := by decide +kernel
theorem dX11_init_121 : decode cX11_init 121 = .ok (.aload_n 0, 1) := by decide +kernel
theorem dX11_init_122 : decode cX11_init 122 = .ok (.getfield 35, 3) := by decide +kernel
theorem dX11_init_125 : decode cX11_init 125 = .ok (.aload_n 0, 1) := by decide +kernel
theorem dX11_init_126 : decode cX11_init 126 = .ok (.getfield 42, 3) := by decide +kernel
theorem dX11_init_129 : decode cX11_init 129 = .ok (.invokespecial 62, 3) := by decide +kernel
theorem dX11_init_132 : decode cX11_init 132 = .ok (.putfield 65, 3) := by decide +kernel
theorem dX11_init_135 : decode cX11_init 135 = .ok (.aload_n 0, 1) := by decide +kernel
theorem dX11_init_136 : decode cX11_init 136 = .ok (.new 69, 3) := by decide +kernel
theorem dX11_init_139 : decode cX11_init 139 = .ok (.dup, 1) := by decide +kernel
theorem dX11_init_140 : decode cX11_init 140 = .ok (.aload_n 0, 1) := by decide +kernel
theorem dX11_init_141 : decode cX11_init 141 = .ok (.getfield 65, 3) := by decide +kernel
theorem dX11_init_144 : decode cX11_init 144 = .ok (.invokespecial 71, 3) := by decide +kernel
theorem dX11_init_147 : decode cX11_init 147 = .ok (.putfield 74, 3) := by decide +kernel
theorem dX11_init_15 : decode cX11_init 15 = .ok (.aload_n 0, 1) := by decide +kernel
theorem dX11_init_150 : decode cX11_init 150 = .ok (.aload_n 0, 1) := by decide +kernel
theorem dX11_init_151 : decode cX11_init 151 = .ok (.new 78, 3) := by decide +kernel
theorem dX11_init_154 : decode cX11_init 154 = .ok (.dup, 1) := by decide +kernel
theorem dX11_init_155 : decode cX11_init 155 = .ok (.aload_n 0, 1) := by decide +kernel
theorem dX11_init_156 : decode cX11_init 156 = .ok (.getfield 65, 3) := by decide +kernel
theorem dX11_init_159 : decode cX11_init 159 = .ok (.invokespecial 80, 3) := by decide +kernel
theorem dX11_init_16 : decode cX11_init 16 = .ok (.new 16, 3) := by decide +kernel
theorem dX11_init_162 : decode cX11_init 162 = .ok (.putfield 81, 3) := by decide +kernel
theorem dX11_init_165 : decode cX11_init 165 = .ok (.return_, 1) := by decide +kernel
theorem dX11_init_19 : decode cX11_init 19 = .ok (.dup, 1) := by decide +kernel
theorem dX11_init_20 : decode cX11_init 20 = .ok (.aload_n 0, 1) := by decide +kernel
theorem dX11_init_21 : decode cX11_init 21 = .ok (.getfield 10, 3) := by decide +kernel
theorem dX11_init_24 : decode cX11_init 24 = .ok (.invokespecial 18, 3) := by decide +kernel
theorem dX11_init_27 : decode cX11_init 27 = .ok (.putfield 21, 3) := by decide +kernel
theorem dX11_init_30 : decode cX11_init 30 = .ok (.aload_n 0, 1) := by decide +kernel
theorem dX11_init_31 : decode cX11_init 31 = .ok (.new 25, 3) := by decide +kernel
theorem dX11_init_34 : decode cX11_init 34 = .ok (.dup, 1) := by decide +kernel
theorem dX11_init_35 : decode cX11_init 35 = .ok (.invokespecial 27, 3) := by decide +kernel
theorem dX11_init_38 : decode cX11_init 38 = .ok (.putfield 28, 3) := by decide +kernel
theorem dX11_init_4 : decode cX11_init 4 = .ok (.aload_n 0, 1) := by decide +kernel
theorem dX11_init_41 : decode cX11_init 41 = .ok (.aload_n 0, 1) := by decide +kernel
theorem dX11_init_42 : decode cX11_init 42 = .ok (.new 32, 3) := by decide +kernel
theorem dX11_init_45 : decode cX11_init 45 = .ok (.dup, 1) := by decide +kernel
theorem dX11_init_46 : decode cX11_init 46 = .ok (.invokespecial 34, 3) := by decide +kernel
theorem dX11_init_49 : decode cX11_init 49 = .ok (.putfield 35, 3) := by decide +kernel
theorem dX11_init_5 : decode cX11_init 5 = .ok (.new 7, 3) := by decide +kernel
theorem dX11_init_52 : decode cX11_init 52 = .ok (.aload_n 0, 1) := by decide +kernel
theorem dX11_init_53 : decode cX11_init 53 = .ok (.new 39, 3) := by decide +kernel
theorem dX11_init_56 : decode cX11_init 56 = .ok (.dup, 1) := by decide +kernel
theorem dX11_init_57 : decode cX11_init 57 = .ok (.invokespecial 41, 3) := by decide +kernel
theorem dX11_init_60 : decode cX11_init 60 = .ok (.putfield 42, 3) := by decide +kernel
theorem dX11_init_63 : decode cX11_init 63 = .ok (.aload_n 0, 1) := by decide +kernel
theorem dX11_init_64 : decode cX11_init 64 = .ok (.new 46, 3) := by decide +kernel
theorem dX11_init_67 : decode cX11_init 67 = .ok (.dup, 1) := by decide +kernel
theorem dX11_init_68 : decode cX11_init 68 = .ok (.invokespecial 48, 3) := by decide +kernel
theorem dX11_init_71 : decode cX11_init 71 = .ok (.putfield 49, 3) := by decide +kernel
theorem dX11_init_74 : decode cX11_init 74 = .ok (.aload_n 0, 1) := by decide +kernel
theorem dX11_init_75 : decode cX11_init 75 = .ok (.iconst 3, 1) := by decide +kernel
theorem dX11_init_76 : decode cX11_init 76 = .ok (.anewarray 53, 3) := by decide +kernel
theorem dX11_init_79 : decode cX11_init 79 = .ok (.dup, 1) := by decide +kernel
theorem dX11_init_8 : decode cX11_init 8 = .ok (.dup, 1) := by decide +kernel
theorem dX11_init_80 : decode cX11_init 80 = .ok (.iconst 0, 1) := by decide +kernel
theorem dX11_init_81 : decode cX11_init 81 = .ok (.new 53, 3) := by decide +kernel
theorem dX11_init_84 : decode cX11_init 84 = .ok (.dup, 1) := by decide +kernel
theorem dX11_init_85 : decode cX11_init 85 = .ok (.invokespecial 55, 3) := by decide +kernel
theorem dX11_init_88 : decode cX11_init 88 = .ok (.aastore, 1) := by decide +kernel
theorem dX11_init_89 : decode cX11_init 89 = .ok (.dup, 1) := by decide +kernel
theorem dX11_init_9 : decode cX11_init 9 = .ok (.invokespecial 9, 3) := by decide +kernel
theorem dX11_init_90 : decode cX11_init 90 = .ok (.iconst 1, 1) := by decide +kernel
theorem dX11_init_91 : decode cX11_init 91 = .ok (.new 53, 3) := by decide +kernel
theorem dX11_init_94 : decode cX11_init 94 = .ok (.dup, 1) := by decide +kernel
theorem dX11_init_95 : decode cX11_init 95 = .ok (.invokespecial 55, 3) := by decide +kernel
theorem dX11_init_98 : decode cX11_init 98 = .ok (.aastore, 1) := by decide +kernel
theorem dX11_init_99 : decode cX11_init 99 = .ok (.dup, 1) := by decide +kernel
theorem dX11_isStretch_0 : decode cX11_isStretch 0 = .ok (.iload_n 0, 1) := by decide +kernel
theorem dX11_isStretch_1 : decode cX11_isStretch 1 = .ok (.iconst 2, 1) := by decide +kernel
theorem dX11_isStretch_11 : decode cX11_isStretch 11 = .ok (.iconst 1, 1) := by decide +kernel
theorem dX11_isStretch_12 : decode cX11_isStretch 12 = .ok (.goto 4, 3) := by decide +kernel
theorem dX11_isStretch_15 : decode cX11_isStretch 15 = .ok (.iconst 0, 1) := by decide +kernel
theorem dX11_isStretch_16 : decode cX11_isStretch 16 = .ok (.ireturn, 1) := by decide +kernel
theorem dX11_isStretch_2 : decode cX11_isStretch 2 = .ok (.if_icmp .lt 13, 3) := by decide +kernel
theorem dX11_isStretch_5 : decode cX11_isStretch 5 = .ok (.iload_n 0, 1) := by decide +kernel
theorem dX11_isStretch_6 : decode cX11_isStretch 6 = .ok (.bipush 16, 2) := by decide +kernel
theorem dX11_isStretch_8 : decode cX11_isStretch 8 = .ok (.if_icmp .gt 7, 3) := by decide +kernel
theorem dX11_kth_0 : decode cX11_kth 0 = .ok (.iload_n 2, 1) := by decide +kernel
theorem dX11_kth_1 : decode cX11_kth 1 = .ok (.ifCond .lt 23, 3) := by decide +kernel
theorem dX11_kth_10 : decode cX11_kth 10 = .ok (.if_icmp .gt 14, 3) := by decide +kernel
theorem dX11_kth_13 : decode cX11_kth 13 = .ok (.aload_n 0, 1) := by decide +kernel
theorem dX11_kth_14 : decode cX11_kth 14 = .ok (.getfield 35, 3) := by decide +kernel
theorem dX11_kth_17 : decode cX11_kth 17 = .ok (.iload_n 1, 1) := by decide +kernel
theorem dX11_kth_18 : decode cX11_kth 18 = .ok (.invokevirtual 251, 3) := by decide +kernel
theorem dX11_kth_21 : decode cX11_kth 21 = .ok (.ifCond .ne 5, 3) := by decide +kernel
theorem dX11_kth_24 : decode cX11_kth 24 = .ok (.iconst (-1), 1) := by decide +kernel
theorem dX11_kth_25 : decode cX11_kth 25 = .ok (.ireturn, 1) := by decide +kernel
theorem dX11_kth_4 : decode cX11_kth 4 = .ok (.iload_n 3, 1) := by decide +kernel
theorem dX11_kth_5 : decode cX11_kth 5 = .ok (.ifCond .lt 19, 3) := by decide +kernel
theorem dX11_kth_8 : decode cX11_kth 8 = .ok (.iload_n 3, 1) := by decide +kernel
theorem dX11_kth_9 : decode cX11_kth 9 = .ok (.iconst 1, 1) := by decide +kernel
theorem dX11_lean_0 : decode cX11_lean 0 = .ok (.iload_n 3, 1) := by decide +kernel
theorem dX11_lean_1 : decode cX11_lean 1 = .ok (.ifCond .lt 20, 3) := by decide +kernel
theorem dX11_lean_10 : decode cX11_lean 10 = .ok (.getfield 65, 3) := by decide +kernel
theorem dX11_lean_13 : decode cX11_lean 13 = .ok (.iload_n 1, 1) := by decide +kernel
theorem dX11_lean_14 : decode cX11_lean 14 = .ok (.iload_n 2, 1) := by decide +kernel
theorem dX11_lean_15 : decode cX11_lean 15 = .ok (.invokevirtual 212, 3) := by decide +kernel
theorem dX11_lean_18 : decode cX11_lean 18 = .ok (.ifCond .ne 5, 3) := by decide +kernel
theorem dX11_lean_21 : decode cX11_lean 21 = .ok (.iconst (-1), 1) := by decide +kernel
theorem dX11_lean_22 : decode cX11_lean 22 = .ok (.ireturn, 1) := by decide +kernel
theorem dX11_lean_4 : decode cX11_lean 4 = .ok (.iload_n 3, 1) := by decide +kernel
theorem dX11_lean_5 : decode cX11_lean 5 = .ok (.iconst 1, 1) := by decide +kernel
theorem dX11_lean_6 : decode cX11_lean 6 = .ok (.if_icmp .gt 15, 3) := by decide +kernel
theorem dX11_lean_9 : decode cX11_lean 9 = .ok (.aload_n 0, 1) := by decide +kernel
theorem dX11_level_0 : decode cX11_level 0 = .ok (.iload_n 2, 1) := by decide +kernel
theorem dX11_level_1 : decode cX11_level 1 = .ok (.invokestatic 196, 3) := by decide +kernel
theorem dX11_level_11 : decode cX11_level 11 = .ok (.iload_n 3, 1) := by decide +kernel
theorem dX11_level_12 : decode cX11_level 12 = .ok (.iload_n 2, 1) := by decide +kernel
theorem dX11_level_13 : decode cX11_level 13 = .ok (.if_icmp .ge 15, 3) := by decide +kernel
theorem dX11_level_16 : decode cX11_level 16 = .ok (.aload_n 0, 1) := by decide +kernel
theorem dX11_level_17 : decode cX11_level 17 = .ok (.getfield 28, 3) := by decide +kernel
theorem dX11_level_20 : decode cX11_level 20 = .ok (.iload_n 1, 1) := by decide +kernel
theorem dX11_level_21 : decode cX11_level 21 = .ok (.iload_n 2, 1) := by decide +kernel
theorem dX11_level_22 : decode cX11_level 22 = .ok (.invokevirtual 183, 3) := by decide +kernel
theorem dX11_level_25 : decode cX11_level 25 = .ok (.ifCond .ne 6, 3) := by decide +kernel
theorem dX11_level_28 : decode cX11_level 28 = .ok (.ldc 186, 2) := by decide +kernel
theorem dX11_level_30 : decode cX11_level 30 = .ok (.ireturn, 1) := by decide +kernel
theorem dX11_level_4 : decode cX11_level 4 = .ok (.ifCond .eq 24, 3) := by decide +kernel
theorem dX11_level_7 : decode cX11_level 7 = .ok (.iload_n 3, 1) := by decide +kernel
theorem dX11_level_8 : decode cX11_level 8 = .ok (.ifCond .lt 20, 3) := by decide +kernel
theorem dX11_look_0 : decode cX11_look 0 = .ok (.iload_n 3, 1) := by decide +kernel
theorem dX11_look_1 : decode cX11_look 1 = .ok (.ifCond .lt 26, 3) := by decide +kernel
theorem dX11_look_11 : decode cX11_look 11 = .ok (.iconst 2, 1) := by decide +kernel
theorem dX11_look_12 : decode cX11_look 12 = .ok (.if_icmp .gt 15, 3) := by decide +kernel
theorem dX11_look_15 : decode cX11_look 15 = .ok (.aload_n 0, 1) := by decide +kernel
theorem dX11_look_16 : decode cX11_look 16 = .ok (.getfield 65, 3) := by decide +kernel
theorem dX11_look_19 : decode cX11_look 19 = .ok (.iload_n 1, 1) := by decide +kernel
theorem dX11_look_20 : decode cX11_look 20 = .ok (.iload_n 2, 1) := by decide +kernel
theorem dX11_look_21 : decode cX11_look 21 = .ok (.invokevirtual 212, 3) := by decide +kernel
theorem dX11_look_24 : decode cX11_look 24 = .ok (.ifCond .ne 5, 3) := by decide +kernel
theorem dX11_look_27 : decode cX11_look 27 = .ok (.iconst (-1), 1) := by decide +kernel
theorem dX11_look_28 : decode cX11_look 28 = .ok (.ireturn, 1) := by decide +kernel
theorem dX11_look_4 : decode cX11_look 4 = .ok (.iload 4, 2) := by decide +kernel
theorem dX11_look_6 : decode cX11_look 6 = .ok (.ifCond .lt 21, 3) := by decide +kernel
theorem dX11_look_9 : decode cX11_look 9 = .ok (.iload 4, 2) := by decide +kernel
theorem dX11_match_0 : decode cX11_match 0 = .ok (.iload_n 2, 1) := by decide +kernel
theorem dX11_match_1 : decode cX11_match 1 = .ok (.ifCond .lt 23, 3) := by decide +kernel
theorem dX11_match_10 : decode cX11_match 10 = .ok (.if_icmp .gt 14, 3) := by decide +kernel
theorem dX11_match_13 : decode cX11_match 13 = .ok (.aload_n 0, 1) := by decide +kernel
theorem dX11_match_14 : decode cX11_match 14 = .ok (.getfield 35, 3) := by decide +kernel
theorem dX11_match_17 : decode cX11_match 17 = .ok (.iload_n 1, 1) := by decide +kernel
theorem dX11_match_18 : decode cX11_match 18 = .ok (.invokevirtual 251, 3) := by decide +kernel
theorem dX11_match_21 : decode cX11_match 21 = .ok (.ifCond .ne 5, 3) := by decide +kernel
theorem dX11_match_24 : decode cX11_match 24 = .ok (.iconst (-1), 1) := by decide +kernel
theorem dX11_match_25 : decode cX11_match 25 = .ok (.ireturn, 1) := by decide +kernel
theorem dX11_match_4 : decode cX11_match 4 = .ok (.iload_n 3, 1) := by decide +kernel
theorem dX11_match_5 : decode cX11_match 5 = .ok (.ifCond .lt 19, 3) := by decide +kernel
theorem dX11_match_8 : decode cX11_match 8 = .ok (.iload_n 3, 1) := by decide +kernel
theorem dX11_match_9 : decode cX11_match 9 = .ok (.iconst 1, 1) := by decide +kernel
theorem dX11_mend_0 : decode cX11_mend 0 = .ok (.iload_n 1, 1) := by decide +kernel
theorem dX11_mend_1 : decode cX11_mend 1 = .ok (.iconst 1, 1) := by decide +kernel
theorem dX11_mend_10 : decode cX11_mend 10 = .ok (.getfield 138, 3) := by decide +kernel
theorem dX11_mend_13 : decode cX11_mend 13 = .ok (.iconst 1, 1) := by decide +kernel
theorem dX11_mend_14 : decode cX11_mend 14 = .ok (.isub, 1) := by decide +kernel
theorem dX11_mend_15 : decode cX11_mend 15 = .ok (.if_icmp .ge 14, 3) := by decide +kernel
theorem dX11_mend_2 : decode cX11_mend 2 = .ok (.if_icmp .lt 27, 3) := by decide +kernel
theorem dX11_mend_29 : decode cX11_mend 29 = .ok (.sipush (-1000), 3) := by decide +kernel
theorem dX11_mend_32 : decode cX11_mend 32 = .ok (.ireturn, 1) := by decide +kernel
theorem dX11_mend_5 : decode cX11_mend 5 = .ok (.iload_n 1, 1) := by decide +kernel
theorem dX11_mend_6 : decode cX11_mend 6 = .ok (.aload_n 0, 1) := by decide +kernel
theorem dX11_mend_7 : decode cX11_mend 7 = .ok (.getfield 28, 3) := by decide +kernel
theorem dX11_near_0 : decode cX11_near 0 = .ok (.iload_n 2, 1) := by decide +kernel
theorem dX11_near_1 : decode cX11_near 1 = .ok (.invokestatic 196, 3) := by decide +kernel
theorem dX11_near_11 : decode cX11_near 11 = .ok (.iload_n 3, 1) := by decide +kernel
theorem dX11_near_12 : decode cX11_near 12 = .ok (.iconst 1, 1) := by decide +kernel
theorem dX11_near_13 : decode cX11_near 13 = .ok (.if_icmp .gt 15, 3) := by decide +kernel
theorem dX11_near_16 : decode cX11_near 16 = .ok (.aload_n 0, 1) := by decide +kernel
theorem dX11_near_17 : decode cX11_near 17 = .ok (.getfield 28, 3) := by decide +kernel
theorem dX11_near_20 : decode cX11_near 20 = .ok (.iload_n 1, 1) := by decide +kernel
theorem dX11_near_21 : decode cX11_near 21 = .ok (.iload_n 2, 1) := by decide +kernel
theorem dX11_near_22 : decode cX11_near 22 = .ok (.invokevirtual 183, 3) := by decide +kernel
theorem dX11_near_25 : decode cX11_near 25 = .ok (.ifCond .ne 5, 3) := by decide +kernel
theorem dX11_near_28 : decode cX11_near 28 = .ok (.iconst (-1), 1) := by decide +kernel
theorem dX11_near_29 : decode cX11_near 29 = .ok (.ireturn, 1) := by decide +kernel
theorem dX11_near_4 : decode cX11_near 4 = .ok (.ifCond .eq 24, 3) := by decide +kernel
theorem dX11_near_7 : decode cX11_near 7 = .ok (.iload_n 3, 1) := by decide +kernel
theorem dX11_near_8 : decode cX11_near 8 = .ok (.ifCond .lt 20, 3) := by decide +kernel
theorem dX11_needs_0 : decode cX11_needs 0 = .ok (.aload_n 0, 1) := by decide +kernel
theorem dX11_needs_1 : decode cX11_needs 1 = .ok (.getfield 65, 3) := by decide +kernel
theorem dX11_needs_24 : decode cX11_needs 24 = .ok (.iconst (-1), 1) := by decide +kernel
theorem dX11_needs_25 : decode cX11_needs 25 = .ok (.ireturn, 1) := by decide +kernel
theorem dX11_needs_4 : decode cX11_needs 4 = .ok (.iload_n 1, 1) := by decide +kernel
theorem dX11_needs_5 : decode cX11_needs 5 = .ok (.iload_n 2, 1) := by decide +kernel
theorem dX11_needs_6 : decode cX11_needs 6 = .ok (.invokevirtual 299, 3) := by decide +kernel
theorem dX11_needs_9 : decode cX11_needs 9 = .ok (.ifCond .eq 15, 3) := by decide +kernel
theorem dX11_odd_0 : decode cX11_odd 0 = .ok (.iload_n 1, 1) := by decide +kernel
theorem dX11_odd_1 : decode cX11_odd 1 = .ok (.invokestatic 196, 3) := by decide +kernel
theorem dX11_odd_11 : decode cX11_odd 11 = .ok (.iload_n 2, 1) := by decide +kernel
theorem dX11_odd_12 : decode cX11_odd 12 = .ok (.iconst 1, 1) := by decide +kernel
theorem dX11_odd_13 : decode cX11_odd 13 = .ok (.if_icmp .le 5, 3) := by decide +kernel
theorem dX11_odd_16 : decode cX11_odd 16 = .ok (.iconst (-1), 1) := by decide +kernel
theorem dX11_odd_17 : decode cX11_odd 17 = .ok (.ireturn, 1) := by decide +kernel
theorem dX11_odd_18 : decode cX11_odd 18 = .ok (.aload_n 0, 1) := by decide +kernel
theorem dX11_odd_19 : decode cX11_odd 19 = .ok (.getfield 81, 3) := by decide +kernel
theorem dX11_odd_22 : decode cX11_odd 22 = .ok (.iload_n 1, 1) := by decide +kernel
theorem dX11_odd_23 : decode cX11_odd 23 = .ok (.invokevirtual 344, 3) := by decide +kernel
theorem dX11_odd_26 : decode cX11_odd 26 = .ok (.iload_n 2, 1) := by decide +kernel
theorem dX11_odd_27 : decode cX11_odd 27 = .ok (.ifCond .ne 13, 3) := by decide +kernel
theorem dX11_odd_30 : decode cX11_odd 30 = .ok (.aload_n 0, 1) := by decide +kernel
theorem dX11_odd_31 : decode cX11_odd 31 = .ok (.getfield 81, 3) := by decide +kernel
theorem dX11_odd_34 : decode cX11_odd 34 = .ok (.getfield 347, 3) := by decide +kernel
theorem dX11_odd_37 : decode cX11_odd 37 = .ok (.goto 10, 3) := by decide +kernel
theorem dX11_odd_4 : decode cX11_odd 4 = .ok (.ifCond .eq 12, 3) := by decide +kernel
theorem dX11_odd_40 : decode cX11_odd 40 = .ok (.aload_n 0, 1) := by decide +kernel
theorem dX11_odd_41 : decode cX11_odd 41 = .ok (.getfield 81, 3) := by decide +kernel
theorem dX11_odd_44 : decode cX11_odd 44 = .ok (.getfield 350, 3) := by decide +kernel
theorem dX11_odd_47 : decode cX11_odd 47 = .ok (.ireturn, 1) := by decide +kernel
theorem dX11_odd_7 : decode cX11_odd 7 = .ok (.iload_n 2, 1) := by decide +kernel
theorem dX11_odd_8 : decode cX11_odd 8 = .ok (.ifCond .lt 8, 3) := by decide +kernel
theorem dX11_pair_0 : decode cX11_pair 0 = .ok (.iload_n 1, 1) := by decide +kernel
theorem dX11_pair_1 : decode cX11_pair 1 = .ok (.invokestatic 196, 3) := by decide +kernel
theorem dX11_pair_11 : decode cX11_pair 11 = .ok (.iload_n 2, 1) := by decide +kernel
theorem dX11_pair_12 : decode cX11_pair 12 = .ok (.iconst 2, 1) := by decide +kernel
theorem dX11_pair_13 : decode cX11_pair 13 = .ok (.if_icmp .le 5, 3) := by decide +kernel
theorem dX11_pair_16 : decode cX11_pair 16 = .ok (.iconst (-1), 1) := by decide +kernel
theorem dX11_pair_17 : decode cX11_pair 17 = .ok (.ireturn, 1) := by decide +kernel
theorem dX11_pair_18 : decode cX11_pair 18 = .ok (.aload_n 0, 1) := by decide +kernel
theorem dX11_pair_19 : decode cX11_pair 19 = .ok (.getfield 81, 3) := by decide +kernel
theorem dX11_pair_22 : decode cX11_pair 22 = .ok (.iload_n 1, 1) := by decide +kernel
theorem dX11_pair_23 : decode cX11_pair 23 = .ok (.invokevirtual 332, 3) := by decide +kernel
theorem dX11_pair_26 : decode cX11_pair 26 = .ok (.iload_n 2, 1) := by decide +kernel
theorem dX11_pair_27 : decode cX11_pair 27 = .ok (.iconst 2, 1) := by decide +kernel
theorem dX11_pair_28 : decode cX11_pair 28 = .ok (.if_icmp .ne 11, 3) := by decide +kernel
theorem dX11_pair_31 : decode cX11_pair 31 = .ok (.aload_n 0, 1) := by decide +kernel
theorem dX11_pair_32 : decode cX11_pair 32 = .ok (.getfield 81, 3) := by decide +kernel
theorem dX11_pair_35 : decode cX11_pair 35 = .ok (.getfield 335, 3) := by decide +kernel
theorem dX11_pair_38 : decode cX11_pair 38 = .ok (.ireturn, 1) := by decide +kernel
theorem dX11_pair_39 : decode cX11_pair 39 = .ok (.iload_n 2, 1) := by decide +kernel
theorem dX11_pair_4 : decode cX11_pair 4 = .ok (.ifCond .eq 12, 3) := by decide +kernel
theorem dX11_pair_40 : decode cX11_pair 40 = .ok (.ifCond .ne 13, 3) := by decide +kernel
theorem dX11_pair_43 : decode cX11_pair 43 = .ok (.aload_n 0, 1) := by decide +kernel
theorem dX11_pair_44 : decode cX11_pair 44 = .ok (.getfield 81, 3) := by decide +kernel
theorem dX11_pair_47 : decode cX11_pair 47 = .ok (.getfield 338, 3) := by decide +kernel
theorem dX11_pair_50 : decode cX11_pair 50 = .ok (.goto 10, 3) := by decide +kernel
theorem dX11_pair_53 : decode cX11_pair 53 = .ok (.aload_n 0, 1) := by decide +kernel
theorem dX11_pair_54 : decode cX11_pair 54 = .ok (.getfield 81, 3) := by decide +kernel
theorem dX11_pair_57 : decode cX11_pair 57 = .ok (.getfield 341, 3) := by decide +kernel
theorem dX11_pair_60 : decode cX11_pair 60 = .ok (.ireturn, 1) := by decide +kernel
theorem dX11_pair_7 : decode cX11_pair 7 = .ok (.iload_n 2, 1) := by decide +kernel
theorem dX11_pair_8 : decode cX11_pair 8 = .ok (.ifCond .lt 8, 3) := by decide +kernel
theorem dX11_place_0 : decode cX11_place 0 = .ok (.aload_n 0, 1) := by decide +kernel
theorem dX11_place_1 : decode cX11_place 1 = .ok (.getfield 21, 3) := by decide +kernel
theorem dX11_place_4 : decode cX11_place 4 = .ok (.getfield 114, 3) := by decide +kernel
theorem dX11_place_7 : decode cX11_place 7 = .ok (.ireturn, 1) := by decide +kernel
theorem dX11_push_0 : decode cX11_push 0 = .ok (.iload_n 1, 1) := by decide +kernel
theorem dX11_push_1 : decode cX11_push 1 = .ok (.sipush (-999), 3) := by decide +kernel
theorem dX11_push_11 : decode cX11_push 11 = .ok (.if_icmp .le 5, 3) := by decide +kernel
theorem dX11_push_14 : decode cX11_push 14 = .ok (.iconst (-1), 1) := by decide +kernel
theorem dX11_push_15 : decode cX11_push 15 = .ok (.ireturn, 1) := by decide +kernel
theorem dX11_push_16 : decode cX11_push 16 = .ok (.aload_n 0, 1) := by decide +kernel
theorem dX11_push_17 : decode cX11_push 17 = .ok (.iload_n 1, 1) := by decide +kernel
theorem dX11_push_18 : decode cX11_push 18 = .ok (.invokevirtual 127, 3) := by decide +kernel
theorem dX11_push_21 : decode cX11_push 21 = .ok (.ireturn, 1) := by decide +kernel
theorem dX11_push_4 : decode cX11_push 4 = .ok (.if_icmp .lt 10, 3) := by decide +kernel
theorem dX11_push_7 : decode cX11_push 7 = .ok (.iload_n 1, 1) := by decide +kernel
theorem dX11_push_8 : decode cX11_push 8 = .ok (.sipush 999, 3) := by decide +kernel
theorem dX11_query_0 : decode cX11_query 0 = .ok (.aload_n 0, 1) := by decide +kernel
theorem dX11_query_1 : decode cX11_query 1 = .ok (.getfield 35, 3) := by decide +kernel
theorem dX11_query_4 : decode cX11_query 4 = .ok (.iload_n 1, 1) := by decide +kernel
theorem dX11_query_5 : decode cX11_query 5 = .ok (.iload_n 2, 1) := by decide +kernel
theorem dX11_query_6 : decode cX11_query 6 = .ok (.invokevirtual 124, 3) := by decide +kernel
theorem dX11_query_9 : decode cX11_query 9 = .ok (.ireturn, 1) := by decide +kernel
theorem dX11_rank_0 : decode cX11_rank 0 = .ok (.aload_n 0, 1) := by decide +kernel
theorem dX11_rank_1 : decode cX11_rank 1 = .ok (.getfield 65, 3) := by decide +kernel
theorem dX11_rank_12 : decode cX11_rank 12 = .ok (.iconst (-1), 1) := by decide +kernel
theorem dX11_rank_13 : decode cX11_rank 13 = .ok (.ireturn, 1) := by decide +kernel
theorem dX11_rank_4 : decode cX11_rank 4 = .ok (.iload_n 1, 1) := by decide +kernel
theorem dX11_rank_5 : decode cX11_rank 5 = .ok (.iload_n 2, 1) := by decide +kernel
theorem dX11_rank_6 : decode cX11_rank 6 = .ok (.invokevirtual 299, 3) := by decide +kernel
theorem dX11_rank_9 : decode cX11_rank 9 = .ok (.ifCond .ne 5, 3) := by decide +kernel
theorem dX11_read_0 : decode cX11_read 0 = .ok (.aload_n 0, 1) := by decide +kernel
theorem dX11_read_1 : decode cX11_read 1 = .ok (.getfield 21, 3) := by decide +kernel
theorem dX11_read_12 : decode cX11_read 12 = .ok (.iconst 0, 1) := by decide +kernel
theorem dX11_read_13 : decode cX11_read 13 = .ok (.putfield 85, 3) := by decide +kernel
theorem dX11_read_16 : decode cX11_read 16 = .ok (.iload_n 1, 1) := by decide +kernel
theorem dX11_read_17 : decode cX11_read 17 = .ok (.ifCond .ne 55, 3) := by decide +kernel
theorem dX11_read_20 : decode cX11_read 20 = .ok (.aload_n 0, 1) := by decide +kernel
theorem dX11_read_21 : decode cX11_read 21 = .ok (.getfield 35, 3) := by decide +kernel
theorem dX11_read_24 : decode cX11_read 24 = .ok (.aload_n 0, 1) := by decide +kernel
theorem dX11_read_25 : decode cX11_read 25 = .ok (.getfield 21, 3) := by decide +kernel
theorem dX11_read_28 : decode cX11_read 28 = .ok (.getfield 97, 3) := by decide +kernel
theorem dX11_read_31 : decode cX11_read 31 = .ok (.invokevirtual 98, 3) := by decide +kernel
theorem dX11_read_34 : decode cX11_read 34 = .ok (.aload_n 0, 1) := by decide +kernel
theorem dX11_read_35 : decode cX11_read 35 = .ok (.aload_n 0, 1) := by decide +kernel
theorem dX11_read_36 : decode cX11_read 36 = .ok (.getfield 21, 3) := by decide +kernel
theorem dX11_read_39 : decode cX11_read 39 = .ok (.getfield 102, 3) := by decide +kernel
theorem dX11_read_4 : decode cX11_read 4 = .ok (.invokevirtual 93, 3) := by decide +kernel
theorem dX11_read_42 : decode cX11_read 42 = .ok (.invokevirtual 106, 3) := by decide +kernel
theorem dX11_read_45 : decode cX11_read 45 = .ok (.iconst 0, 1) := by decide +kernel
theorem dX11_read_46 : decode cX11_read 46 = .ok (.istore_n 2, 1) := by decide +kernel
theorem dX11_read_47 : decode cX11_read 47 = .ok (.iload_n 2, 1) := by decide +kernel
theorem dX11_read_48 : decode cX11_read 48 = .ok (.aload_n 0, 1) := by decide +kernel
theorem dX11_read_49 : decode cX11_read 49 = .ok (.getfield 56, 3) := by decide +kernel
theorem dX11_read_52 : decode cX11_read 52 = .ok (.arraylength, 1) := by decide +kernel
theorem dX11_read_53 : decode cX11_read 53 = .ok (.if_icmp .ge 19, 3) := by decide +kernel
theorem dX11_read_56 : decode cX11_read 56 = .ok (.aload_n 0, 1) := by decide +kernel
theorem dX11_read_57 : decode cX11_read 57 = .ok (.getfield 56, 3) := by decide +kernel
theorem dX11_read_60 : decode cX11_read 60 = .ok (.iload_n 2, 1) := by decide +kernel
theorem dX11_read_61 : decode cX11_read 61 = .ok (.aaload, 1) := by decide +kernel
theorem dX11_read_62 : decode cX11_read 62 = .ok (.iconst 0, 1) := by decide +kernel
theorem dX11_read_63 : decode cX11_read 63 = .ok (.putfield 110, 3) := by decide +kernel
theorem dX11_read_66 : decode cX11_read 66 = .ok (.iinc 2 1, 3) := by decide +kernel
theorem dX11_read_69 : decode cX11_read 69 = .ok (.goto (-22), 3) := by decide +kernel
theorem dX11_read_7 : decode cX11_read 7 = .ok (.istore_n 1, 1) := by decide +kernel
theorem dX11_read_72 : decode cX11_read 72 = .ok (.iload_n 1, 1) := by decide +kernel
theorem dX11_read_73 : decode cX11_read 73 = .ok (.ireturn, 1) := by decide +kernel
theorem dX11_read_8 : decode cX11_read 8 = .ok (.aload_n 0, 1) := by decide +kernel
theorem dX11_read_9 : decode cX11_read 9 = .ok (.getfield 10, 3) := by decide +kernel
theorem dX11_restore_0 : decode cX11_restore 0 = .ok (.iload_n 1, 1) := by decide +kernel
theorem dX11_restore_1 : decode cX11_restore 1 = .ok (.ifCond .lt 24, 3) := by decide +kernel
theorem dX11_restore_10 : decode cX11_restore 10 = .ok (.if_icmp .ge 15, 3) := by decide +kernel
theorem dX11_restore_13 : decode cX11_restore 13 = .ok (.aload_n 0, 1) := by decide +kernel
theorem dX11_restore_14 : decode cX11_restore 14 = .ok (.getfield 56, 3) := by decide +kernel
theorem dX11_restore_17 : decode cX11_restore 17 = .ok (.iload_n 1, 1) := by decide +kernel
theorem dX11_restore_18 : decode cX11_restore 18 = .ok (.aaload, 1) := by decide +kernel
theorem dX11_restore_19 : decode cX11_restore 19 = .ok (.getfield 110, 3) := by decide +kernel
theorem dX11_restore_22 : decode cX11_restore 22 = .ok (.ifCond .ne 5, 3) := by decide +kernel
theorem dX11_restore_25 : decode cX11_restore 25 = .ok (.iconst 0, 1) := by decide +kernel
theorem dX11_restore_26 : decode cX11_restore 26 = .ok (.ireturn, 1) := by decide +kernel
theorem dX11_restore_4 : decode cX11_restore 4 = .ok (.iload_n 1, 1) := by decide +kernel
theorem dX11_restore_5 : decode cX11_restore 5 = .ok (.aload_n 0, 1) := by decide +kernel
theorem dX11_restore_6 : decode cX11_restore 6 = .ok (.getfield 56, 3) := by decide +kernel
theorem dX11_restore_9 : decode cX11_restore 9 = .ok (.arraylength, 1) := by decide +kernel
theorem dX11_search_0 : decode cX11_search 0 = .ok (.iload_n 2, 1) := by decide +kernel
theorem dX11_search_1 : decode cX11_search 1 = .ok (.ifCond .lt 20, 3) := by decide +kernel
theorem dX11_search_10 : decode cX11_search 10 = .ok (.aload_n 0, 1) := by decide +kernel
theorem dX11_search_11 : decode cX11_search 11 = .ok (.getfield 35, 3) := by decide +kernel
theorem dX11_search_14 : decode cX11_search 14 = .ok (.iload_n 1, 1) := by decide +kernel
theorem dX11_search_15 : decode cX11_search 15 = .ok (.invokevirtual 251, 3) := by decide +kernel
theorem dX11_search_18 : decode cX11_search 18 = .ok (.ifCond .ne 5, 3) := by decide +kernel
theorem dX11_search_21 : decode cX11_search 21 = .ok (.iconst (-1), 1) := by decide +kernel
theorem dX11_search_22 : decode cX11_search 22 = .ok (.ireturn, 1) := by decide +kernel
theorem dX11_search_4 : decode cX11_search 4 = .ok (.iload_n 2, 1) := by decide +kernel
theorem dX11_search_5 : decode cX11_search 5 = .ok (.bipush 9, 2) := by decide +kernel
theorem dX11_search_7 : decode cX11_search 7 = .ok (.if_icmp .ge 14, 3) := by decide +kernel
theorem dX11_set_0 : decode cX11_set 0 = .ok (.aload_n 0, 1) := by decide +kernel
theorem dX11_set_1 : decode cX11_set 1 = .ok (.getfield 42, 3) := by decide +kernel
theorem dX11_set_10 : decode cX11_set 10 = .ok (.iload_n 2, 1) := by decide +kernel
theorem dX11_set_11 : decode cX11_set 11 = .ok (.invokestatic 157, 3) := by decide +kernel
theorem dX11_set_14 : decode cX11_set 14 = .ok (.ifCond .eq 8, 3) := by decide +kernel
theorem dX11_set_17 : decode cX11_set 17 = .ok (.iload_n 3, 1) := by decide +kernel
theorem dX11_set_18 : decode cX11_set 18 = .ok (.iload_n 2, 1) := by decide +kernel
theorem dX11_set_19 : decode cX11_set 19 = .ok (.if_icmp .ne 5, 3) := by decide +kernel
theorem dX11_set_22 : decode cX11_set 22 = .ok (.iconst 0, 1) := by decide +kernel
theorem dX11_set_23 : decode cX11_set 23 = .ok (.ireturn, 1) := by decide +kernel
theorem dX11_set_24 : decode cX11_set 24 = .ok (.aload_n 0, 1) := by decide +kernel
theorem dX11_set_25 : decode cX11_set 25 = .ok (.getfield 42, 3) := by decide +kernel
theorem dX11_set_28 : decode cX11_set 28 = .ok (.iload_n 1, 1) := by decide +kernel
theorem dX11_set_29 : decode cX11_set 29 = .ok (.iload_n 2, 1) := by decide +kernel
theorem dX11_set_30 : decode cX11_set 30 = .ok (.invokevirtual 161, 3) := by decide +kernel
theorem dX11_set_33 : decode cX11_set 33 = .ok (.aload_n 0, 1) := by decide +kernel
theorem dX11_set_34 : decode cX11_set 34 = .ok (.getfield 49, 3) := by decide +kernel
theorem dX11_set_37 : decode cX11_set 37 = .ok (.iconst 3, 1) := by decide +kernel
theorem dX11_set_38 : decode cX11_set 38 = .ok (.iload_n 1, 1) := by decide +kernel
theorem dX11_set_39 : decode cX11_set 39 = .ok (.iload_n 3, 1) := by decide +kernel
theorem dX11_set_4 : decode cX11_set 4 = .ok (.iload_n 1, 1) := by decide +kernel
theorem dX11_set_40 : decode cX11_set 40 = .ok (.invokevirtual 134, 3) := by decide +kernel
theorem dX11_set_43 : decode cX11_set 43 = .ok (.iconst 1, 1) := by decide +kernel
theorem dX11_set_44 : decode cX11_set 44 = .ok (.ireturn, 1) := by decide +kernel
theorem dX11_set_5 : decode cX11_set 5 = .ok (.invokevirtual 154, 3) := by decide +kernel
theorem dX11_set_8 : decode cX11_set 8 = .ok (.istore_n 3, 1) := by decide +kernel
theorem dX11_set_9 : decode cX11_set 9 = .ok (.iload_n 1, 1) := by decide +kernel
theorem dX11_slack_0 : decode cX11_slack 0 = .ok (.aload_n 0, 1) := by decide +kernel
theorem dX11_slack_1 : decode cX11_slack 1 = .ok (.getfield 35, 3) := by decide +kernel
theorem dX11_slack_22 : decode cX11_slack 22 = .ok (.iconst (-1), 1) := by decide +kernel
theorem dX11_slack_23 : decode cX11_slack 23 = .ok (.ireturn, 1) := by decide +kernel
theorem dX11_slack_4 : decode cX11_slack 4 = .ok (.iload_n 1, 1) := by decide +kernel
theorem dX11_slack_5 : decode cX11_slack 5 = .ok (.invokevirtual 251, 3) := by decide +kernel
theorem dX11_slack_8 : decode cX11_slack 8 = .ok (.ifCond .eq 14, 3) := by decide +kernel
theorem dX11_slotsHeld_0 : decode cX11_slotsHeld 0 = .ok (.iconst 0, 1) := by decide +kernel
theorem dX11_slotsHeld_1 : decode cX11_slotsHeld 1 = .ok (.istore_n 1, 1) := by decide +kernel
theorem dX11_slotsHeld_10 : decode cX11_slotsHeld 10 = .ok (.if_icmp .ge 24, 3) := by decide +kernel
theorem dX11_slotsHeld_13 : decode cX11_slotsHeld 13 = .ok (.aload_n 0, 1) := by decide +kernel
theorem dX11_slotsHeld_14 : decode cX11_slotsHeld 14 = .ok (.getfield 56, 3) := by decide +kernel
theorem dX11_slotsHeld_17 : decode cX11_slotsHeld 17 = .ok (.iload_n 2, 1) := by decide +kernel
theorem dX11_slotsHeld_18 : decode cX11_slotsHeld 18 = .ok (.aaload, 1) := by decide +kernel
theorem dX11_slotsHeld_19 : decode cX11_slotsHeld 19 = .ok (.getfield 110, 3) := by decide +kernel
theorem dX11_slotsHeld_2 : decode cX11_slotsHeld 2 = .ok (.iconst 0, 1) := by decide +kernel
theorem dX11_slotsHeld_22 : decode cX11_slotsHeld 22 = .ok (.ifCond .eq 6, 3) := by decide +kernel
theorem dX11_slotsHeld_28 : decode cX11_slotsHeld 28 = .ok (.iinc 2 1, 3) := by decide +kernel
theorem dX11_slotsHeld_3 : decode cX11_slotsHeld 3 = .ok (.istore_n 2, 1) := by decide +kernel
theorem dX11_slotsHeld_31 : decode cX11_slotsHeld 31 = .ok (.goto (-27), 3) := by decide +kernel
theorem dX11_slotsHeld_34 : decode cX11_slotsHeld 34 = .ok (.iload_n 1, 1) := by decide +kernel
theorem dX11_slotsHeld_35 : decode cX11_slotsHeld 35 = .ok (.ireturn, 1) := by decide +kernel
theorem dX11_slotsHeld_4 : decode cX11_slotsHeld 4 = .ok (.iload_n 2, 1) := by decide +kernel
theorem dX11_slotsHeld_5 : decode cX11_slotsHeld 5 = .ok (.aload_n 0, 1) := by decide +kernel
theorem dX11_slotsHeld_6 : decode cX11_slotsHeld 6 = .ok (.getfield 56, 3) := by decide +kernel
theorem dX11_slotsHeld_9 : decode cX11_slotsHeld 9 = .ok (.arraylength, 1) := by decide +kernel
theorem dX11_turns_0 : decode cX11_turns 0 = .ok (.aload_n 0, 1) := by decide +kernel
theorem dX11_turns_1 : decode cX11_turns 1 = .ok (.getfield 35, 3) := by decide +kernel
theorem dX11_turns_11 : decode cX11_turns 11 = .ok (.iconst (-1), 1) := by decide +kernel
theorem dX11_turns_12 : decode cX11_turns 12 = .ok (.ireturn, 1) := by decide +kernel
theorem dX11_turns_4 : decode cX11_turns 4 = .ok (.iload_n 1, 1) := by decide +kernel
theorem dX11_turns_5 : decode cX11_turns 5 = .ok (.invokevirtual 251, 3) := by decide +kernel
theorem dX11_turns_8 : decode cX11_turns 8 = .ok (.ifCond .ne 5, 3) := by decide +kernel
theorem dX11_undo_0 : decode cX11_undo 0 = .ok (.aload_n 0, 1) := by decide +kernel
theorem dX11_undo_1 : decode cX11_undo 1 = .ok (.getfield 49, 3) := by decide +kernel
theorem dX11_undo_10 : decode cX11_undo 10 = .ok (.iconst 0, 1) := by decide +kernel
theorem dX11_undo_11 : decode cX11_undo 11 = .ok (.ireturn, 1) := by decide +kernel
theorem dX11_undo_4 : decode cX11_undo 4 = .ok (.invokevirtual 164, 3) := by decide +kernel
theorem dX11_undo_7 : decode cX11_undo 7 = .ok (.ifCond .ne 5, 3) := by decide +kernel
theorem dX11_way_0 : decode cX11_way 0 = .ok (.aload_n 0, 1) := by decide +kernel
theorem dX11_way_1 : decode cX11_way 1 = .ok (.getfield 65, 3) := by decide +kernel
theorem dX11_way_12 : decode cX11_way 12 = .ok (.iconst (-1), 1) := by decide +kernel
theorem dX11_way_13 : decode cX11_way 13 = .ok (.ireturn, 1) := by decide +kernel
theorem dX11_way_4 : decode cX11_way 4 = .ok (.iload_n 1, 1) := by decide +kernel
theorem dX11_way_5 : decode cX11_way 5 = .ok (.iload_n 2, 1) := by decide +kernel
theorem dX11_way_6 : decode cX11_way 6 = .ok (.invokevirtual 212, 3) := by decide +kernel
theorem dX11_way_9 : decode cX11_way 9 = .ok (.ifCond .ne 5, 3) := by decide +kernel
theorem dX11_whole_0 : decode cX11_whole 0 = .ok (.iload_n 1, 1) := by decide +kernel
theorem dX11_whole_1 : decode cX11_whole 1 = .ok (.ifCond .lt 8, 3) := by decide +kernel
theorem dX11_whole_10 : decode cX11_whole 10 = .ok (.ireturn, 1) := by decide +kernel
theorem dX11_whole_11 : decode cX11_whole 11 = .ok (.aload_n 0, 1) := by decide +kernel
theorem dX11_whole_12 : decode cX11_whole 12 = .ok (.getfield 28, 3) := by decide +kernel
theorem dX11_whole_15 : decode cX11_whole 15 = .ok (.invokevirtual 356, 3) := by decide +kernel
theorem dX11_whole_18 : decode cX11_whole 18 = .ok (.istore_n 2, 1) := by decide +kernel
theorem dX11_whole_19 : decode cX11_whole 19 = .ok (.iload_n 2, 1) := by decide +kernel
theorem dX11_whole_20 : decode cX11_whole 20 = .ok (.ifCond .lt 7, 3) := by decide +kernel
theorem dX11_whole_27 : decode cX11_whole 27 = .ok (.iload_n 2, 1) := by decide +kernel
theorem dX11_whole_28 : decode cX11_whole 28 = .ok (.ireturn, 1) := by decide +kernel
theorem dX11_whole_4 : decode cX11_whole 4 = .ok (.iload_n 1, 1) := by decide +kernel
theorem dX11_whole_5 : decode cX11_whole 5 = .ok (.iconst 1, 1) := by decide +kernel
theorem dX11_whole_6 : decode cX11_whole 6 = .ok (.if_icmp .le 5, 3) := by decide +kernel
theorem dX11_whole_9 : decode cX11_whole 9 = .ok (.iconst (-1), 1) := by decide +kernel
theorem dX11_whose_0 : decode cX11_whose 0 = .ok (.aload_n 0, 1) := by decide +kernel
theorem dX11_whose_1 : decode cX11_whose 1 = .ok (.getfield 28, 3) := by decide +kernel
theorem dX11_whose_24 : decode cX11_whose 24 = .ok (.iconst (-1), 1) := by decide +kernel
theorem dX11_whose_25 : decode cX11_whose 25 = .ok (.ireturn, 1) := by decide +kernel
theorem dX11_whose_4 : decode cX11_whose 4 = .ok (.iload_n 1, 1) := by decide +kernel
theorem dX11_whose_5 : decode cX11_whose 5 = .ok (.iload_n 2, 1) := by decide +kernel
theorem dX11_whose_6 : decode cX11_whose 6 = .ok (.invokevirtual 183, 3) := by decide +kernel
theorem dX11_whose_9 : decode cX11_whose 9 = .ok (.ifCond .eq 15, 3) := by decide +kernel
theorem dX11_window_0 : decode cX11_window 0 = .ok (.iload_n 2, 1) := by decide +kernel
theorem dX11_window_1 : decode cX11_window 1 = .ok (.iconst 1, 1) := by decide +kernel
theorem dX11_window_10 : decode cX11_window 10 = .ok (.iload_n 2, 1) := by decide +kernel
theorem dX11_window_11 : decode cX11_window 11 = .ok (.invokevirtual 183, 3) := by decide +kernel
theorem dX11_window_14 : decode cX11_window 14 = .ok (.ifCond .ne 6, 3) := by decide +kernel
theorem dX11_window_17 : decode cX11_window 17 = .ok (.ldc 186, 2) := by decide +kernel
theorem dX11_window_19 : decode cX11_window 19 = .ok (.ireturn, 1) := by decide +kernel
theorem dX11_window_2 : decode cX11_window 2 = .ok (.if_icmp .lt 15, 3) := by decide +kernel
theorem dX11_window_5 : decode cX11_window 5 = .ok (.aload_n 0, 1) := by decide +kernel
theorem dX11_window_6 : decode cX11_window 6 = .ok (.getfield 28, 3) := by decide +kernel
theorem dX11_window_9 : decode cX11_window 9 = .ok (.iload_n 1, 1) := by decide +kernel
theorem dX11_within_0 : decode cX11_within 0 = .ok (.iload_n 2, 1) := by decide +kernel
theorem dX11_within_1 : decode cX11_within 1 = .ok (.ifCond .lt 14, 3) := by decide +kernel
theorem dX11_within_12 : decode cX11_within 12 = .ok (.ifCond .ne 5, 3) := by decide +kernel
theorem dX11_within_15 : decode cX11_within 15 = .ok (.iconst (-1), 1) := by decide +kernel
theorem dX11_within_16 : decode cX11_within 16 = .ok (.ireturn, 1) := by decide +kernel
theorem dX11_within_4 : decode cX11_within 4 = .ok (.aload_n 0, 1) := by decide +kernel
theorem dX11_within_5 : decode cX11_within 5 = .ok (.getfield 35, 3) := by decide +kernel
theorem dX11_within_8 : decode cX11_within 8 = .ok (.iload_n 1, 1) := by decide +kernel
theorem dX11_within_9 : decode cX11_within 9 = .ok (.invokevirtual 251, 3) := by decide +kernel
theorem dX12_alike_0 : decode cX12_alike 0 = .ok (.aload_n 0, 1) := by decide +kernel
theorem dX12_alike_1 : decode cX12_alike 1 = .ok (.iload_n 1, 1) := by decide +kernel
theorem dX12_alike_16 : decode cX12_alike 16 = .ok (.iconst (-1), 1) := by decide +kernel
theorem dX12_alike_17 : decode cX12_alike 17 = .ok (.ireturn, 1) := by decide +kernel
theorem dX12_alike_2 : decode cX12_alike 2 = .ok (.invokevirtual 251, 3) := by decide +kernel
theorem dX12_alike_5 : decode cX12_alike 5 = .ok (.ifCond .eq 11, 3) := by decide +kernel
theorem dX12_appends_0 : decode cX12_appends 0 = .ok (.iload_n 2, 1) := by decide +kernel
theorem dX12_appends_1 : decode cX12_appends 1 = .ok (.ifCond .ne 7, 3) := by decide +kernel
theorem dX12_appends_11 : decode cX12_appends 11 = .ok (.lload_n 0, 1) := by decide +kernel
theorem dX12_appends_12 : decode cX12_appends 12 = .ok (.lmul, 1) := by decide +kernel
theorem dX12_appends_13 : decode cX12_appends 13 = .ok (.iload_n 2, 1) := by decide +kernel
theorem dX12_appends_14 : decode cX12_appends 14 = .ok (.bipush 97, 2) := by decide +kernel
theorem dX12_appends_16 : decode cX12_appends 16 = .ok (.isub, 1) := by decide +kernel
theorem dX12_appends_17 : decode cX12_appends 17 = .ok (.iconst 1, 1) := by decide +kernel
theorem dX12_appends_18 : decode cX12_appends 18 = .ok (.iadd, 1) := by decide +kernel
theorem dX12_appends_19 : decode cX12_appends 19 = .ok (.i2l, 1) := by decide +kernel
theorem dX12_appends_20 : decode cX12_appends 20 = .ok (.ladd, 1) := by decide +kernel
theorem dX12_appends_21 : decode cX12_appends 21 = .ok (.lreturn, 1) := by decide +kernel
theorem dX12_appends_4 : decode cX12_appends 4 = .ok (.lload_n 0, 1) := by decide +kernel
theorem dX12_appends_5 : decode cX12_appends 5 = .ok (.goto 16, 3) := by decide +kernel
theorem dX12_appends_8 : decode cX12_appends 8 = .ok (.ldc2_w 133, 3) := by decide +kernel
theorem dX12_at_0 : decode cX12_at 0 = .ok (.aload_n 0, 1) := by decide +kernel
theorem dX12_at_1 : decode cX12_at 1 = .ok (.iload_n 1, 1) := by decide +kernel
theorem dX12_at_19 : decode cX12_at 19 = .ok (.sipush (-1000), 3) := by decide +kernel
theorem dX12_at_2 : decode cX12_at 2 = .ok (.invokevirtual 320, 3) := by decide +kernel
theorem dX12_at_22 : decode cX12_at 22 = .ok (.ireturn, 1) := by decide +kernel
theorem dX12_at_5 : decode cX12_at 5 = .ok (.ifCond .eq 14, 3) := by decide +kernel
theorem dX12_back_0 : decode cX12_back 0 = .ok (.iload_n 1, 1) := by decide +kernel
theorem dX12_back_1 : decode cX12_back 1 = .ok (.ifCond .lt 11, 3) := by decide +kernel
theorem dX12_back_12 : decode cX12_back 12 = .ok (.iconst (-1), 1) := by decide +kernel
theorem dX12_back_13 : decode cX12_back 13 = .ok (.ireturn, 1) := by decide +kernel
theorem dX12_back_14 : decode cX12_back 14 = .ok (.aload_n 0, 1) := by decide +kernel
theorem dX12_back_15 : decode cX12_back 15 = .ok (.dup, 1) := by decide +kernel
theorem dX12_back_16 : decode cX12_back 16 = .ok (.getfield 124, 3) := by decide +kernel
theorem dX12_back_19 : decode cX12_back 19 = .ok (.iload_n 1, 1) := by decide +kernel
theorem dX12_back_20 : decode cX12_back 20 = .ok (.isub, 1) := by decide +kernel
theorem dX12_back_21 : decode cX12_back 21 = .ok (.putfield 124, 3) := by decide +kernel
theorem dX12_back_24 : decode cX12_back 24 = .ok (.aload_n 0, 1) := by decide +kernel
theorem dX12_back_25 : decode cX12_back 25 = .ok (.getfield 124, 3) := by decide +kernel
theorem dX12_back_28 : decode cX12_back 28 = .ok (.ireturn, 1) := by decide +kernel
theorem dX12_back_4 : decode cX12_back 4 = .ok (.iload_n 1, 1) := by decide +kernel
theorem dX12_back_5 : decode cX12_back 5 = .ok (.aload_n 0, 1) := by decide +kernel
theorem dX12_back_6 : decode cX12_back 6 = .ok (.getfield 124, 3) := by decide +kernel
theorem dX12_back_9 : decode cX12_back 9 = .ok (.if_icmp .le 5, 3) := by decide +kernel
theorem dX12_begins_0 : decode cX12_begins 0 = .ok (.iconst 0, 1) := by decide +kernel
theorem dX12_begins_1 : decode cX12_begins 1 = .ok (.istore_n 1, 1) := by decide +kernel
theorem dX12_begins_10 : decode cX12_begins 10 = .ok (.getfield 73, 3) := by decide +kernel
theorem dX12_begins_102 : decode cX12_begins 102 = .ok (.aload_n 0, 1) := by decide +kernel
theorem dX12_begins_103 : decode cX12_begins 103 = .ok (.getfield 61, 3) := by decide +kernel
theorem dX12_begins_106 : decode cX12_begins 106 = .ok (.aload_n 0, 1) := by decide +kernel
theorem dX12_begins_107 : decode cX12_begins 107 = .ok (.getfield 197, 3) := by decide +kernel
theorem dX12_begins_110 : decode cX12_begins 110 = .ok (.iaload, 1) := by decide +kernel
theorem dX12_begins_111 : decode cX12_begins 111 = .ok (.iastore, 1) := by decide +kernel
theorem dX12_begins_112 : decode cX12_begins 112 = .ok (.aload_n 0, 1) := by decide +kernel
theorem dX12_begins_113 : decode cX12_begins 113 = .ok (.getfield 73, 3) := by decide +kernel
theorem dX12_begins_116 : decode cX12_begins 116 = .ok (.sipush 163, 3) := by decide +kernel
theorem dX12_begins_119 : decode cX12_begins 119 = .ok (.aload_n 0, 1) := by decide +kernel
theorem dX12_begins_120 : decode cX12_begins 120 = .ok (.getfield 64, 3) := by decide +kernel
theorem dX12_begins_123 : decode cX12_begins 123 = .ok (.aload_n 0, 1) := by decide +kernel
theorem dX12_begins_124 : decode cX12_begins 124 = .ok (.getfield 197, 3) := by decide +kernel
theorem dX12_begins_127 : decode cX12_begins 127 = .ok (.iaload, 1) := by decide +kernel
theorem dX12_begins_128 : decode cX12_begins 128 = .ok (.iastore, 1) := by decide +kernel
theorem dX12_begins_129 : decode cX12_begins 129 = .ok (.aload_n 0, 1) := by decide +kernel
theorem dX12_begins_13 : decode cX12_begins 13 = .ok (.iload_n 1, 1) := by decide +kernel
theorem dX12_begins_130 : decode cX12_begins 130 = .ok (.getfield 73, 3) := by decide +kernel
theorem dX12_begins_133 : decode cX12_begins 133 = .ok (.sipush 164, 3) := by decide +kernel
theorem dX12_begins_136 : decode cX12_begins 136 = .ok (.aload_n 0, 1) := by decide +kernel
theorem dX12_begins_137 : decode cX12_begins 137 = .ok (.getfield 67, 3) := by decide +kernel
theorem dX12_begins_14 : decode cX12_begins 14 = .ok (.iconst 0, 1) := by decide +kernel
theorem dX12_begins_140 : decode cX12_begins 140 = .ok (.aload_n 0, 1) := by decide +kernel
theorem dX12_begins_141 : decode cX12_begins 141 = .ok (.getfield 197, 3) := by decide +kernel
theorem dX12_begins_144 : decode cX12_begins 144 = .ok (.iaload, 1) := by decide +kernel
theorem dX12_begins_145 : decode cX12_begins 145 = .ok (.iastore, 1) := by decide +kernel
theorem dX12_begins_146 : decode cX12_begins 146 = .ok (.return_, 1) := by decide +kernel
theorem dX12_begins_15 : decode cX12_begins 15 = .ok (.iastore, 1) := by decide +kernel
theorem dX12_begins_16 : decode cX12_begins 16 = .ok (.iinc 1 1, 3) := by decide +kernel
theorem dX12_begins_19 : decode cX12_begins 19 = .ok (.goto (-17), 3) := by decide +kernel
theorem dX12_begins_2 : decode cX12_begins 2 = .ok (.iload_n 1, 1) := by decide +kernel
theorem dX12_begins_22 : decode cX12_begins 22 = .ok (.aload_n 0, 1) := by decide +kernel
theorem dX12_begins_23 : decode cX12_begins 23 = .ok (.getfield 73, 3) := by decide +kernel
theorem dX12_begins_26 : decode cX12_begins 26 = .ok (.iconst 0, 1) := by decide +kernel
theorem dX12_begins_27 : decode cX12_begins 27 = .ok (.aload_n 0, 1) := by decide +kernel
theorem dX12_begins_28 : decode cX12_begins 28 = .ok (.getfield 43, 3) := by decide +kernel
theorem dX12_begins_3 : decode cX12_begins 3 = .ok (.sipush 165, 3) := by decide +kernel
theorem dX12_begins_31 : decode cX12_begins 31 = .ok (.aload_n 0, 1) := by decide +kernel
theorem dX12_begins_32 : decode cX12_begins 32 = .ok (.getfield 197, 3) := by decide +kernel
theorem dX12_begins_35 : decode cX12_begins 35 = .ok (.iaload, 1) := by decide +kernel
theorem dX12_begins_36 : decode cX12_begins 36 = .ok (.iastore, 1) := by decide +kernel
theorem dX12_begins_37 : decode cX12_begins 37 = .ok (.iconst 0, 1) := by decide +kernel
theorem dX12_begins_38 : decode cX12_begins 38 = .ok (.istore_n 1, 1) := by decide +kernel
theorem dX12_begins_39 : decode cX12_begins 39 = .ok (.iload_n 1, 1) := by decide +kernel
theorem dX12_begins_40 : decode cX12_begins 40 = .ok (.aload_n 0, 1) := by decide +kernel
theorem dX12_begins_41 : decode cX12_begins 41 = .ok (.getfield 73, 3) := by decide +kernel
theorem dX12_begins_44 : decode cX12_begins 44 = .ok (.iconst 0, 1) := by decide +kernel
theorem dX12_begins_45 : decode cX12_begins 45 = .ok (.iaload, 1) := by decide +kernel
theorem dX12_begins_46 : decode cX12_begins 46 = .ok (.if_icmp .ge 32, 3) := by decide +kernel
theorem dX12_begins_6 : decode cX12_begins 6 = .ok (.if_icmp .ge 16, 3) := by decide +kernel
theorem dX12_begins_78 : decode cX12_begins 78 = .ok (.aload_n 0, 1) := by decide +kernel
theorem dX12_begins_79 : decode cX12_begins 79 = .ok (.getfield 73, 3) := by decide +kernel
theorem dX12_begins_82 : decode cX12_begins 82 = .ok (.sipush 161, 3) := by decide +kernel
theorem dX12_begins_85 : decode cX12_begins 85 = .ok (.aload_n 0, 1) := by decide +kernel
theorem dX12_begins_86 : decode cX12_begins 86 = .ok (.getfield 58, 3) := by decide +kernel
theorem dX12_begins_89 : decode cX12_begins 89 = .ok (.aload_n 0, 1) := by decide +kernel
theorem dX12_begins_9 : decode cX12_begins 9 = .ok (.aload_n 0, 1) := by decide +kernel
theorem dX12_begins_90 : decode cX12_begins 90 = .ok (.getfield 197, 3) := by decide +kernel
theorem dX12_begins_93 : decode cX12_begins 93 = .ok (.iaload, 1) := by decide +kernel
theorem dX12_begins_94 : decode cX12_begins 94 = .ok (.iastore, 1) := by decide +kernel
theorem dX12_begins_95 : decode cX12_begins 95 = .ok (.aload_n 0, 1) := by decide +kernel
theorem dX12_begins_96 : decode cX12_begins 96 = .ok (.getfield 73, 3) := by decide +kernel
theorem dX12_begins_99 : decode cX12_begins 99 = .ok (.sipush 162, 3) := by decide +kernel
theorem dX12_best_0 : decode cX12_best 0 = .ok (.aload_n 0, 1) := by decide +kernel
theorem dX12_best_1 : decode cX12_best 1 = .ok (.iload_n 1, 1) := by decide +kernel
theorem dX12_best_17 : decode cX12_best 17 = .ok (.iconst (-1), 1) := by decide +kernel
theorem dX12_best_18 : decode cX12_best 18 = .ok (.ireturn, 1) := by decide +kernel
theorem dX12_best_2 : decode cX12_best 2 = .ok (.invokevirtual 251, 3) := by decide +kernel
theorem dX12_best_5 : decode cX12_best 5 = .ok (.ifCond .eq 12, 3) := by decide +kernel
theorem dX12_bound_0 : decode cX12_bound 0 = .ok (.aload_n 0, 1) := by decide +kernel
theorem dX12_bound_1 : decode cX12_bound 1 = .ok (.iload_n 1, 1) := by decide +kernel
theorem dX12_bound_18 : decode cX12_bound 18 = .ok (.iconst (-1), 1) := by decide +kernel
theorem dX12_bound_19 : decode cX12_bound 19 = .ok (.ireturn, 1) := by decide +kernel
theorem dX12_bound_2 : decode cX12_bound 2 = .ok (.iload_n 2, 1) := by decide +kernel
theorem dX12_bound_3 : decode cX12_bound 3 = .ok (.invokevirtual 342, 3) := by decide +kernel
theorem dX12_bound_6 : decode cX12_bound 6 = .ok (.ifCond .eq 12, 3) := by decide +kernel
theorem dX12_byteAt_0 : decode cX12_byteAt 0 = .ok (.iload_n 1, 1) := by decide +kernel
theorem dX12_byteAt_1 : decode cX12_byteAt 1 = .ok (.aload_n 0, 1) := by decide +kernel
theorem dX12_byteAt_2 : decode cX12_byteAt 2 = .ok (.getfield 130, 3) := by decide +kernel
theorem dX12_byteAt_21 : decode cX12_byteAt 21 = .ok (.iconst 0, 1) := by decide +kernel
theorem dX12_byteAt_22 : decode cX12_byteAt 22 = .ok (.ireturn, 1) := by decide +kernel
theorem dX12_byteAt_5 : decode cX12_byteAt 5 = .ok (.if_icmp .ge 16, 3) := by decide +kernel
theorem dX12_cause_0 : decode cX12_cause 0 = .ok (.aload_n 0, 1) := by decide +kernel
theorem dX12_cause_1 : decode cX12_cause 1 = .ok (.getfield 111, 3) := by decide +kernel
theorem dX12_cause_4 : decode cX12_cause 4 = .ok (.ireturn, 1) := by decide +kernel
theorem dX12_comes_0 : decode cX12_comes 0 = .ok (.aload_n 0, 1) := by decide +kernel
theorem dX12_comes_1 : decode cX12_comes 1 = .ok (.getfield 70, 3) := by decide +kernel
theorem dX12_comes_14 : decode cX12_comes 14 = .ok (.aload_n 0, 1) := by decide +kernel
theorem dX12_comes_15 : decode cX12_comes 15 = .ok (.invokevirtual 323, 3) := by decide +kernel
theorem dX12_comes_18 : decode cX12_comes 18 = .ok (.aload_n 0, 1) := by decide +kernel
theorem dX12_comes_19 : decode cX12_comes 19 = .ok (.getfield 73, 3) := by decide +kernel
theorem dX12_comes_22 : decode cX12_comes 22 = .ok (.iconst 1, 1) := by decide +kernel
theorem dX12_comes_23 : decode cX12_comes 23 = .ok (.aload_n 0, 1) := by decide +kernel
theorem dX12_comes_24 : decode cX12_comes 24 = .ok (.getfield 73, 3) := by decide +kernel
theorem dX12_comes_27 : decode cX12_comes 27 = .ok (.iconst 0, 1) := by decide +kernel
theorem dX12_comes_28 : decode cX12_comes 28 = .ok (.iaload, 1) := by decide +kernel
theorem dX12_comes_29 : decode cX12_comes 29 = .ok (.iadd, 1) := by decide +kernel
theorem dX12_comes_30 : decode cX12_comes 30 = .ok (.iload_n 1, 1) := by decide +kernel
theorem dX12_comes_31 : decode cX12_comes 31 = .ok (.iastore, 1) := by decide +kernel
theorem dX12_comes_32 : decode cX12_comes 32 = .ok (.aload_n 0, 1) := by decide +kernel
theorem dX12_comes_33 : decode cX12_comes 33 = .ok (.getfield 73, 3) := by decide +kernel
theorem dX12_comes_36 : decode cX12_comes 36 = .ok (.iconst 0, 1) := by decide +kernel
theorem dX12_comes_37 : decode cX12_comes 37 = .ok (.dup2, 1) := by decide +kernel
theorem dX12_comes_38 : decode cX12_comes 38 = .ok (.iaload, 1) := by decide +kernel
theorem dX12_comes_39 : decode cX12_comes 39 = .ok (.iconst 1, 1) := by decide +kernel
theorem dX12_comes_4 : decode cX12_comes 4 = .ok (.iconst 0, 1) := by decide +kernel
theorem dX12_comes_40 : decode cX12_comes 40 = .ok (.iadd, 1) := by decide +kernel
theorem dX12_comes_41 : decode cX12_comes 41 = .ok (.iastore, 1) := by decide +kernel
theorem dX12_comes_42 : decode cX12_comes 42 = .ok (.aload_n 0, 1) := by decide +kernel
theorem dX12_comes_43 : decode cX12_comes 43 = .ok (.invokevirtual 326, 3) := by decide +kernel
theorem dX12_comes_46 : decode cX12_comes 46 = .ok (.aload_n 0, 1) := by decide +kernel
theorem dX12_comes_47 : decode cX12_comes 47 = .ok (.getfield 70, 3) := by decide +kernel
theorem dX12_comes_5 : decode cX12_comes 5 = .ok (.iaload, 1) := by decide +kernel
theorem dX12_comes_50 : decode cX12_comes 50 = .ok (.iconst 0, 1) := by decide +kernel
theorem dX12_comes_51 : decode cX12_comes 51 = .ok (.iaload, 1) := by decide +kernel
theorem dX12_comes_52 : decode cX12_comes 52 = .ok (.ireturn, 1) := by decide +kernel
theorem dX12_comes_6 : decode cX12_comes 6 = .ok (.sipush 160, 3) := by decide +kernel
theorem dX12_comes_9 : decode cX12_comes 9 = .ok (.if_icmp .ne 5, 3) := by decide +kernel
theorem dX12_copies_0 : decode cX12_copies 0 = .ok (.iconst 0, 1) := by decide +kernel
theorem dX12_copies_1 : decode cX12_copies 1 = .ok (.istore_n 1, 1) := by decide +kernel
theorem dX12_copies_10 : decode cX12_copies 10 = .ok (.getfield 73, 3) := by decide +kernel
theorem dX12_copies_13 : decode cX12_copies 13 = .ok (.iload_n 1, 1) := by decide +kernel
theorem dX12_copies_14 : decode cX12_copies 14 = .ok (.aload_n 0, 1) := by decide +kernel
theorem dX12_copies_15 : decode cX12_copies 15 = .ok (.getfield 70, 3) := by decide +kernel
theorem dX12_copies_18 : decode cX12_copies 18 = .ok (.iload_n 1, 1) := by decide +kernel
theorem dX12_copies_19 : decode cX12_copies 19 = .ok (.iaload, 1) := by decide +kernel
theorem dX12_copies_2 : decode cX12_copies 2 = .ok (.iload_n 1, 1) := by decide +kernel
theorem dX12_copies_20 : decode cX12_copies 20 = .ok (.iastore, 1) := by decide +kernel
theorem dX12_copies_21 : decode cX12_copies 21 = .ok (.iinc 1 1, 3) := by decide +kernel
theorem dX12_copies_24 : decode cX12_copies 24 = .ok (.goto (-22), 3) := by decide +kernel
theorem dX12_copies_27 : decode cX12_copies 27 = .ok (.return_, 1) := by decide +kernel
theorem dX12_copies_3 : decode cX12_copies 3 = .ok (.sipush 165, 3) := by decide +kernel
theorem dX12_copies_6 : decode cX12_copies 6 = .ok (.if_icmp .ge 21, 3) := by decide +kernel
theorem dX12_copies_9 : decode cX12_copies 9 = .ok (.aload_n 0, 1) := by decide +kernel
theorem dX12_count_0 : decode cX12_count 0 = .ok (.iconst 0, 1) := by decide +kernel
theorem dX12_count_1 : decode cX12_count 1 = .ok (.istore_n 2, 1) := by decide +kernel
theorem dX12_count_102 : decode cX12_count 102 = .ok (.sipush 161, 3) := by decide +kernel
end
section
theorem dX12_count_105 : decode cX12_count 105 = .ok (.iaload, 1) := by decide +kernel
theorem dX12_count_106 : decode cX12_count 106 = .ok (.ireturn, 1) := by decide +kernel
theorem dX12_count_107 : decode cX12_count 107 = .ok (.aload_n 0, 1) := by decide +kernel
theorem dX12_count_108 : decode cX12_count 108 = .ok (.getfield 70, 3) := by decide +kernel
theorem dX12_count_111 : decode cX12_count 111 = .ok (.sipush 162, 3) := by decide +kernel
theorem dX12_count_114 : decode cX12_count 114 = .ok (.iaload, 1) := by decide +kernel
theorem dX12_count_115 : decode cX12_count 115 = .ok (.ireturn, 1) := by decide +kernel
theorem dX12_count_116 : decode cX12_count 116 = .ok (.aload_n 0, 1) := by decide +kernel
theorem dX12_count_117 : decode cX12_count 117 = .ok (.getfield 70, 3) := by decide +kernel
theorem dX12_count_120 : decode cX12_count 120 = .ok (.sipush 163, 3) := by decide +kernel
theorem dX12_count_123 : decode cX12_count 123 = .ok (.iaload, 1) := by decide +kernel
theorem dX12_count_124 : decode cX12_count 124 = .ok (.ireturn, 1) := by decide +kernel
theorem dX12_count_125 : decode cX12_count 125 = .ok (.aload_n 0, 1) := by decide +kernel
theorem dX12_count_126 : decode cX12_count 126 = .ok (.getfield 70, 3) := by decide +kernel
theorem dX12_count_129 : decode cX12_count 129 = .ok (.sipush 164, 3) := by decide +kernel
theorem dX12_count_132 : decode cX12_count 132 = .ok (.iaload, 1) := by decide +kernel
theorem dX12_count_133 : decode cX12_count 133 = .ok (.ireturn, 1) := by decide +kernel
theorem dX12_count_134 : decode cX12_count 134 = .ok (.aload_n 0, 1) := by decide +kernel
theorem dX12_count_135 : decode cX12_count 135 = .ok (.aload_n 0, 1) := by decide +kernel
theorem dX12_count_136 : decode cX12_count 136 = .ok (.getfield 70, 3) := by decide +kernel
theorem dX12_count_139 : decode cX12_count 139 = .ok (.iconst 0, 1) := by decide +kernel
theorem dX12_count_140 : decode cX12_count 140 = .ok (.iaload, 1) := by decide +kernel
theorem dX12_count_141 : decode cX12_count 141 = .ok (.iconst 1, 1) := by decide +kernel
theorem dX12_count_142 : decode cX12_count 142 = .ok (.isub, 1) := by decide +kernel
theorem dX12_count_143 : decode cX12_count 143 = .ok (.iload_n 2, 1) := by decide +kernel
theorem dX12_count_144 : decode cX12_count 144 = .ok (.isub, 1) := by decide +kernel
theorem dX12_count_145 : decode cX12_count 145 = .ok (.invokevirtual 320, 3) := by decide +kernel
theorem dX12_count_148 : decode cX12_count 148 = .ok (.ifCond .eq 9, 3) := by decide +kernel
theorem dX12_count_157 : decode cX12_count 157 = .ok (.iload_n 2, 1) := by decide +kernel
theorem dX12_count_158 : decode cX12_count 158 = .ok (.ireturn, 1) := by decide +kernel
theorem dX12_count_159 : decode cX12_count 159 = .ok (.aload_n 0, 1) := by decide +kernel
theorem dX12_count_160 : decode cX12_count 160 = .ok (.getfield 124, 3) := by decide +kernel
theorem dX12_count_163 : decode cX12_count 163 = .ok (.ireturn, 1) := by decide +kernel
theorem dX12_count_164 : decode cX12_count 164 = .ok (.aload_n 0, 1) := by decide +kernel
theorem dX12_count_165 : decode cX12_count 165 = .ok (.getfield 209, 3) := by decide +kernel
theorem dX12_count_168 : decode cX12_count 168 = .ok (.ireturn, 1) := by decide +kernel
theorem dX12_count_169 : decode cX12_count 169 = .ok (.iconst 0, 1) := by decide +kernel
theorem dX12_count_170 : decode cX12_count 170 = .ok (.istore_n 3, 1) := by decide +kernel
theorem dX12_count_171 : decode cX12_count 171 = .ok (.iload_n 3, 1) := by decide +kernel
theorem dX12_count_172 : decode cX12_count 172 = .ok (.aload_n 0, 1) := by decide +kernel
theorem dX12_count_173 : decode cX12_count 173 = .ok (.getfield 70, 3) := by decide +kernel
theorem dX12_count_176 : decode cX12_count 176 = .ok (.iconst 0, 1) := by decide +kernel
theorem dX12_count_177 : decode cX12_count 177 = .ok (.iaload, 1) := by decide +kernel
theorem dX12_count_178 : decode cX12_count 178 = .ok (.if_icmp .ge 28, 3) := by decide +kernel
theorem dX12_count_2 : decode cX12_count 2 = .ok (.iload_n 1, 1) := by decide +kernel
theorem dX12_count_206 : decode cX12_count 206 = .ok (.iload_n 2, 1) := by decide +kernel
theorem dX12_count_207 : decode cX12_count 207 = .ok (.ireturn, 1) := by decide +kernel
theorem dX12_count_208 : decode cX12_count 208 = .ok (.aload_n 0, 1) := by decide +kernel
theorem dX12_count_209 : decode cX12_count 209 = .ok (.getfield 100, 3) := by decide +kernel
theorem dX12_count_212 : decode cX12_count 212 = .ok (.iconst 0, 1) := by decide +kernel
theorem dX12_count_213 : decode cX12_count 213 = .ok (.baload, 1) := by decide +kernel
theorem dX12_count_214 : decode cX12_count 214 = .ok (.ifCond .eq 7, 3) := by decide +kernel
theorem dX12_count_221 : decode cX12_count 221 = .ok (.iconst 0, 1) := by decide +kernel
theorem dX12_count_222 : decode cX12_count 222 = .ok (.aload_n 0, 1) := by decide +kernel
theorem dX12_count_223 : decode cX12_count 223 = .ok (.getfield 100, 3) := by decide +kernel
theorem dX12_count_226 : decode cX12_count 226 = .ok (.iconst 1, 1) := by decide +kernel
theorem dX12_count_227 : decode cX12_count 227 = .ok (.baload, 1) := by decide +kernel
theorem dX12_count_228 : decode cX12_count 228 = .ok (.ifCond .eq 7, 3) := by decide +kernel
theorem dX12_count_235 : decode cX12_count 235 = .ok (.iconst 0, 1) := by decide +kernel
theorem dX12_count_236 : decode cX12_count 236 = .ok (.iadd, 1) := by decide +kernel
theorem dX12_count_237 : decode cX12_count 237 = .ok (.aload_n 0, 1) := by decide +kernel
theorem dX12_count_238 : decode cX12_count 238 = .ok (.getfield 100, 3) := by decide +kernel
theorem dX12_count_241 : decode cX12_count 241 = .ok (.iconst 2, 1) := by decide +kernel
theorem dX12_count_242 : decode cX12_count 242 = .ok (.baload, 1) := by decide +kernel
theorem dX12_count_243 : decode cX12_count 243 = .ok (.ifCond .eq 7, 3) := by decide +kernel
theorem dX12_count_250 : decode cX12_count 250 = .ok (.iconst 0, 1) := by decide +kernel
theorem dX12_count_251 : decode cX12_count 251 = .ok (.iadd, 1) := by decide +kernel
theorem dX12_count_252 : decode cX12_count 252 = .ok (.ireturn, 1) := by decide +kernel
theorem dX12_count_253 : decode cX12_count 253 = .ok (.sipush (-1000), 3) := by decide +kernel
theorem dX12_count_256 : decode cX12_count 256 = .ok (.istore_n 2, 1) := by decide +kernel
theorem dX12_count_257 : decode cX12_count 257 = .ok (.iconst 0, 1) := by decide +kernel
theorem dX12_count_258 : decode cX12_count 258 = .ok (.istore_n 3, 1) := by decide +kernel
theorem dX12_count_259 : decode cX12_count 259 = .ok (.iload_n 3, 1) := by decide +kernel
theorem dX12_count_260 : decode cX12_count 260 = .ok (.aload_n 0, 1) := by decide +kernel
theorem dX12_count_261 : decode cX12_count 261 = .ok (.getfield 70, 3) := by decide +kernel
theorem dX12_count_264 : decode cX12_count 264 = .ok (.iconst 0, 1) := by decide +kernel
theorem dX12_count_265 : decode cX12_count 265 = .ok (.iaload, 1) := by decide +kernel
theorem dX12_count_266 : decode cX12_count 266 = .ok (.if_icmp .ge 38, 3) := by decide +kernel
theorem dX12_count_3 : decode cX12_count 3 = .ok (.tableswitch 375 0 14 #[73, 80, 85, 95, 104, 113, 122, 131, 156, 161, 166, 205, 250, 303, 359], 73) := by decide +kernel
theorem dX12_count_304 : decode cX12_count 304 = .ok (.iload_n 2, 1) := by decide +kernel
theorem dX12_count_305 : decode cX12_count 305 = .ok (.ireturn, 1) := by decide +kernel
theorem dX12_count_306 : decode cX12_count 306 = .ok (.ldc 239, 2) := by decide +kernel
theorem dX12_count_308 : decode cX12_count 308 = .ok (.istore_n 2, 1) := by decide +kernel
theorem dX12_count_309 : decode cX12_count 309 = .ok (.iconst 0, 1) := by decide +kernel
theorem dX12_count_310 : decode cX12_count 310 = .ok (.istore_n 3, 1) := by decide +kernel
theorem dX12_count_311 : decode cX12_count 311 = .ok (.iload_n 3, 1) := by decide +kernel
theorem dX12_count_312 : decode cX12_count 312 = .ok (.aload_n 0, 1) := by decide +kernel
theorem dX12_count_313 : decode cX12_count 313 = .ok (.getfield 70, 3) := by decide +kernel
theorem dX12_count_316 : decode cX12_count 316 = .ok (.iconst 0, 1) := by decide +kernel
theorem dX12_count_317 : decode cX12_count 317 = .ok (.iaload, 1) := by decide +kernel
theorem dX12_count_318 : decode cX12_count 318 = .ok (.if_icmp .ge 30, 3) := by decide +kernel
theorem dX12_count_348 : decode cX12_count 348 = .ok (.iload_n 2, 1) := by decide +kernel
theorem dX12_count_349 : decode cX12_count 349 = .ok (.ldc 239, 2) := by decide +kernel
theorem dX12_count_351 : decode cX12_count 351 = .ok (.if_icmp .ne 9, 3) := by decide +kernel
theorem dX12_count_354 : decode cX12_count 354 = .ok (.sipush (-1000), 3) := by decide +kernel
theorem dX12_count_357 : decode cX12_count 357 = .ok (.goto 4, 3) := by decide +kernel
theorem dX12_count_361 : decode cX12_count 361 = .ok (.ireturn, 1) := by decide +kernel
theorem dX12_count_362 : decode cX12_count 362 = .ok (.aload_n 0, 1) := by decide +kernel
theorem dX12_count_363 : decode cX12_count 363 = .ok (.iload_n 2, 1) := by decide +kernel
theorem dX12_count_364 : decode cX12_count 364 = .ok (.invokevirtual 320, 3) := by decide +kernel
theorem dX12_count_367 : decode cX12_count 367 = .ok (.ifCond .eq 9, 3) := by decide +kernel
theorem dX12_count_376 : decode cX12_count 376 = .ok (.iload_n 2, 1) := by decide +kernel
theorem dX12_count_377 : decode cX12_count 377 = .ok (.ireturn, 1) := by decide +kernel
theorem dX12_count_378 : decode cX12_count 378 = .ok (.iconst (-1), 1) := by decide +kernel
theorem dX12_count_379 : decode cX12_count 379 = .ok (.ireturn, 1) := by decide +kernel
theorem dX12_count_76 : decode cX12_count 76 = .ok (.aload_n 0, 1) := by decide +kernel
theorem dX12_count_77 : decode cX12_count 77 = .ok (.getfield 70, 3) := by decide +kernel
theorem dX12_count_80 : decode cX12_count 80 = .ok (.iconst 0, 1) := by decide +kernel
theorem dX12_count_81 : decode cX12_count 81 = .ok (.iaload, 1) := by decide +kernel
theorem dX12_count_82 : decode cX12_count 82 = .ok (.ireturn, 1) := by decide +kernel
theorem dX12_count_83 : decode cX12_count 83 = .ok (.aload_n 0, 1) := by decide +kernel
theorem dX12_count_84 : decode cX12_count 84 = .ok (.invokevirtual 391, 3) := by decide +kernel
theorem dX12_count_87 : decode cX12_count 87 = .ok (.ireturn, 1) := by decide +kernel
theorem dX12_count_88 : decode cX12_count 88 = .ok (.aload_n 0, 1) := by decide +kernel
theorem dX12_count_89 : decode cX12_count 89 = .ok (.getfield 49, 3) := by decide +kernel
theorem dX12_count_92 : decode cX12_count 92 = .ok (.aload_n 0, 1) := by decide +kernel
theorem dX12_count_93 : decode cX12_count 93 = .ok (.getfield 197, 3) := by decide +kernel
theorem dX12_count_96 : decode cX12_count 96 = .ok (.iaload, 1) := by decide +kernel
theorem dX12_count_97 : decode cX12_count 97 = .ok (.ireturn, 1) := by decide +kernel
theorem dX12_count_98 : decode cX12_count 98 = .ok (.aload_n 0, 1) := by decide +kernel
theorem dX12_count_99 : decode cX12_count 99 = .ok (.getfield 70, 3) := by decide +kernel
theorem dX12_cover_0 : decode cX12_cover 0 = .ok (.aload_n 0, 1) := by decide +kernel
theorem dX12_cover_1 : decode cX12_cover 1 = .ok (.iload_n 1, 1) := by decide +kernel
theorem dX12_cover_12 : decode cX12_cover 12 = .ok (.iconst (-1), 1) := by decide +kernel
theorem dX12_cover_13 : decode cX12_cover 13 = .ok (.ireturn, 1) := by decide +kernel
theorem dX12_cover_2 : decode cX12_cover 2 = .ok (.invokevirtual 251, 3) := by decide +kernel
theorem dX12_cover_5 : decode cX12_cover 5 = .ok (.ifCond .eq 7, 3) := by decide +kernel
theorem dX12_cut_0 : decode cX12_cut 0 = .ok (.aload_n 0, 1) := by decide +kernel
theorem dX12_cut_1 : decode cX12_cut 1 = .ok (.iconst 0, 1) := by decide +kernel
theorem dX12_cut_11 : decode cX12_cut 11 = .ok (.sipush 400, 3) := by decide +kernel
theorem dX12_cut_14 : decode cX12_cut 14 = .ok (.if_icmp .gt 280, 3) := by decide +kernel
theorem dX12_cut_17 : decode cX12_cut 17 = .ok (.aload_n 0, 1) := by decide +kernel
theorem dX12_cut_18 : decode cX12_cut 18 = .ok (.iload_n 1, 1) := by decide +kernel
theorem dX12_cut_19 : decode cX12_cut 19 = .ok (.invokevirtual 142, 3) := by decide +kernel
theorem dX12_cut_2 : decode cX12_cut 2 = .ok (.putfield 139, 3) := by decide +kernel
theorem dX12_cut_22 : decode cX12_cut 22 = .ok (.istore_n 2, 1) := by decide +kernel
theorem dX12_cut_23 : decode cX12_cut 23 = .ok (.iload_n 1, 1) := by decide +kernel
theorem dX12_cut_24 : decode cX12_cut 24 = .ok (.aload_n 0, 1) := by decide +kernel
theorem dX12_cut_25 : decode cX12_cut 25 = .ok (.getfield 130, 3) := by decide +kernel
theorem dX12_cut_28 : decode cX12_cut 28 = .ok (.if_icmp .lt 15, 3) := by decide +kernel
theorem dX12_cut_31 : decode cX12_cut 31 = .ok (.aload_n 0, 1) := by decide +kernel
theorem dX12_cut_32 : decode cX12_cut 32 = .ok (.iconst 0, 1) := by decide +kernel
theorem dX12_cut_33 : decode cX12_cut 33 = .ok (.aload_n 0, 1) := by decide +kernel
theorem dX12_cut_34 : decode cX12_cut 34 = .ok (.getfield 130, 3) := by decide +kernel
theorem dX12_cut_37 : decode cX12_cut 37 = .ok (.iconst 0, 1) := by decide +kernel
theorem dX12_cut_38 : decode cX12_cut 38 = .ok (.lconst 0, 1) := by decide +kernel
theorem dX12_cut_39 : decode cX12_cut 39 = .ok (.invokevirtual 146, 3) := by decide +kernel
theorem dX12_cut_42 : decode cX12_cut 42 = .ok (.return_, 1) := by decide +kernel
theorem dX12_cut_5 : decode cX12_cut 5 = .ok (.iconst 0, 1) := by decide +kernel
theorem dX12_cut_6 : decode cX12_cut 6 = .ok (.istore_n 1, 1) := by decide +kernel
theorem dX12_cut_7 : decode cX12_cut 7 = .ok (.aload_n 0, 1) := by decide +kernel
theorem dX12_cut_8 : decode cX12_cut 8 = .ok (.getfield 139, 3) := by decide +kernel
theorem dX12_distance_0 : decode cX12_distance 0 = .ok (.aload_n 0, 1) := by decide +kernel
theorem dX12_distance_1 : decode cX12_distance 1 = .ok (.iload_n 1, 1) := by decide +kernel
theorem dX12_distance_10 : decode cX12_distance 10 = .ok (.ireturn, 1) := by decide +kernel
theorem dX12_distance_2 : decode cX12_distance 2 = .ok (.iload_n 2, 1) := by decide +kernel
theorem dX12_distance_3 : decode cX12_distance 3 = .ok (.invokevirtual 342, 3) := by decide +kernel
theorem dX12_distance_6 : decode cX12_distance 6 = .ok (.ifCond .ne 5, 3) := by decide +kernel
theorem dX12_distance_9 : decode cX12_distance 9 = .ok (.iconst (-1), 1) := by decide +kernel
theorem dX12_drop_0 : decode cX12_drop 0 = .ok (.iload_n 1, 1) := by decide +kernel
theorem dX12_drop_1 : decode cX12_drop 1 = .ok (.iconst 1, 1) := by decide +kernel
theorem dX12_drop_11 : decode cX12_drop 11 = .ok (.ifCond .ne 5, 3) := by decide +kernel
theorem dX12_drop_14 : decode cX12_drop 14 = .ok (.iconst 0, 1) := by decide +kernel
theorem dX12_drop_15 : decode cX12_drop 15 = .ok (.ireturn, 1) := by decide +kernel
theorem dX12_drop_2 : decode cX12_drop 2 = .ok (.aload_n 0, 1) := by decide +kernel
theorem dX12_drop_3 : decode cX12_drop 3 = .ok (.getfield 70, 3) := by decide +kernel
theorem dX12_drop_6 : decode cX12_drop 6 = .ok (.iconst 0, 1) := by decide +kernel
theorem dX12_drop_7 : decode cX12_drop 7 = .ok (.iaload, 1) := by decide +kernel
theorem dX12_drop_8 : decode cX12_drop 8 = .ok (.invokestatic 244, 3) := by decide +kernel
theorem dX12_feed_0 : decode cX12_feed 0 = .ok (.aload_n 0, 1) := by decide +kernel
theorem dX12_feed_1 : decode cX12_feed 1 = .ok (.getfield 124, 3) := by decide +kernel
theorem dX12_feed_10 : decode cX12_feed 10 = .ok (.if_icmp .le 5, 3) := by decide +kernel
theorem dX12_feed_15 : decode cX12_feed 15 = .ok (.aload_n 0, 1) := by decide +kernel
theorem dX12_feed_16 : decode cX12_feed 16 = .ok (.iload_n 1, 1) := by decide +kernel
theorem dX12_feed_17 : decode cX12_feed 17 = .ok (.invokevirtual 127, 3) := by decide +kernel
theorem dX12_feed_20 : decode cX12_feed 20 = .ok (.aload_n 0, 1) := by decide +kernel
theorem dX12_feed_21 : decode cX12_feed 21 = .ok (.iload_n 2, 1) := by decide +kernel
theorem dX12_feed_22 : decode cX12_feed 22 = .ok (.invokevirtual 127, 3) := by decide +kernel
theorem dX12_feed_25 : decode cX12_feed 25 = .ok (.aload_n 0, 1) := by decide +kernel
theorem dX12_feed_26 : decode cX12_feed 26 = .ok (.iload_n 3, 1) := by decide +kernel
theorem dX12_feed_27 : decode cX12_feed 27 = .ok (.invokevirtual 127, 3) := by decide +kernel
theorem dX12_feed_30 : decode cX12_feed 30 = .ok (.aload_n 0, 1) := by decide +kernel
theorem dX12_feed_31 : decode cX12_feed 31 = .ok (.iload 4, 2) := by decide +kernel
theorem dX12_feed_33 : decode cX12_feed 33 = .ok (.invokevirtual 127, 3) := by decide +kernel
theorem dX12_feed_36 : decode cX12_feed 36 = .ok (.aload_n 0, 1) := by decide +kernel
theorem dX12_feed_37 : decode cX12_feed 37 = .ok (.iload 5, 2) := by decide +kernel
theorem dX12_feed_39 : decode cX12_feed 39 = .ok (.invokevirtual 127, 3) := by decide +kernel
theorem dX12_feed_4 : decode cX12_feed 4 = .ok (.bipush 20, 2) := by decide +kernel
theorem dX12_feed_42 : decode cX12_feed 42 = .ok (.aload_n 0, 1) := by decide +kernel
theorem dX12_feed_43 : decode cX12_feed 43 = .ok (.getfield 124, 3) := by decide +kernel
theorem dX12_feed_46 : decode cX12_feed 46 = .ok (.ireturn, 1) := by decide +kernel
theorem dX12_feed_6 : decode cX12_feed 6 = .ok (.iadd, 1) := by decide +kernel
theorem dX12_feed_7 : decode cX12_feed 7 = .ok (.sipush 2000, 3) := by decide +kernel
theorem dX12_fired_0 : decode cX12_fired 0 = .ok (.iload_n 1, 1) := by decide +kernel
theorem dX12_fired_1 : decode cX12_fired 1 = .ok (.ifCond .ge 5, 3) := by decide +kernel
theorem dX12_fired_10 : decode cX12_fired 10 = .ok (.iconst 0, 1) := by decide +kernel
theorem dX12_fired_11 : decode cX12_fired 11 = .ok (.istore_n 2, 1) := by decide +kernel
theorem dX12_fired_12 : decode cX12_fired 12 = .ok (.iconst 0, 1) := by decide +kernel
theorem dX12_fired_13 : decode cX12_fired 13 = .ok (.istore_n 3, 1) := by decide +kernel
theorem dX12_fired_14 : decode cX12_fired 14 = .ok (.iload_n 3, 1) := by decide +kernel
theorem dX12_fired_15 : decode cX12_fired 15 = .ok (.aload_n 0, 1) := by decide +kernel
theorem dX12_fired_16 : decode cX12_fired 16 = .ok (.getfield 49, 3) := by decide +kernel
theorem dX12_fired_19 : decode cX12_fired 19 = .ok (.aload_n 0, 1) := by decide +kernel
theorem dX12_fired_20 : decode cX12_fired 20 = .ok (.getfield 197, 3) := by decide +kernel
theorem dX12_fired_23 : decode cX12_fired 23 = .ok (.iaload, 1) := by decide +kernel
theorem dX12_fired_24 : decode cX12_fired 24 = .ok (.if_icmp .ge 50, 3) := by decide +kernel
theorem dX12_fired_4 : decode cX12_fired 4 = .ok (.iconst (-1), 1) := by decide +kernel
theorem dX12_fired_5 : decode cX12_fired 5 = .ok (.ireturn, 1) := by decide +kernel
theorem dX12_fired_6 : decode cX12_fired 6 = .ok (.aload_n 0, 1) := by decide +kernel
theorem dX12_fired_7 : decode cX12_fired 7 = .ok (.invokevirtual 323, 3) := by decide +kernel
theorem dX12_fired_74 : decode cX12_fired 74 = .ok (.iload_n 2, 1) := by decide +kernel
theorem dX12_fired_75 : decode cX12_fired 75 = .ok (.ireturn, 1) := by decide +kernel
theorem dX12_flat_0 : decode cX12_flat 0 = .ok (.iload_n 1, 1) := by decide +kernel
theorem dX12_flat_1 : decode cX12_flat 1 = .ok (.iconst 1, 1) := by decide +kernel
theorem dX12_flat_11 : decode cX12_flat 11 = .ok (.iconst (-1), 1) := by decide +kernel
theorem dX12_flat_12 : decode cX12_flat 12 = .ok (.ireturn, 1) := by decide +kernel
theorem dX12_flat_13 : decode cX12_flat 13 = .ok (.iconst 0, 1) := by decide +kernel
theorem dX12_flat_14 : decode cX12_flat 14 = .ok (.istore_n 2, 1) := by decide +kernel
theorem dX12_flat_15 : decode cX12_flat 15 = .ok (.iconst 0, 1) := by decide +kernel
theorem dX12_flat_16 : decode cX12_flat 16 = .ok (.istore_n 3, 1) := by decide +kernel
theorem dX12_flat_17 : decode cX12_flat 17 = .ok (.iload_n 3, 1) := by decide +kernel
theorem dX12_flat_18 : decode cX12_flat 18 = .ok (.aload_n 0, 1) := by decide +kernel
theorem dX12_flat_19 : decode cX12_flat 19 = .ok (.getfield 70, 3) := by decide +kernel
theorem dX12_flat_2 : decode cX12_flat 2 = .ok (.sipush 160, 3) := by decide +kernel
theorem dX12_flat_22 : decode cX12_flat 22 = .ok (.iconst 0, 1) := by decide +kernel
theorem dX12_flat_23 : decode cX12_flat 23 = .ok (.iaload, 1) := by decide +kernel
theorem dX12_flat_24 : decode cX12_flat 24 = .ok (.if_icmp .ge 36, 3) := by decide +kernel
theorem dX12_flat_5 : decode cX12_flat 5 = .ok (.invokestatic 244, 3) := by decide +kernel
theorem dX12_flat_60 : decode cX12_flat 60 = .ok (.iload_n 2, 1) := by decide +kernel
theorem dX12_flat_61 : decode cX12_flat 61 = .ok (.ireturn, 1) := by decide +kernel
theorem dX12_flat_8 : decode cX12_flat 8 = .ok (.ifCond .ne 5, 3) := by decide +kernel
theorem dX12_gap_0 : decode cX12_gap 0 = .ok (.aload_n 0, 1) := by decide +kernel
theorem dX12_gap_1 : decode cX12_gap 1 = .ok (.ldc 239, 2) := by decide +kernel
theorem dX12_gap_3 : decode cX12_gap 3 = .ok (.invokevirtual 329, 3) := by decide +kernel
theorem dX12_gap_6 : decode cX12_gap 6 = .ok (.ireturn, 1) := by decide +kernel
theorem dX12_gaps_0 : decode cX12_gaps 0 = .ok (.iconst 0, 1) := by decide +kernel
theorem dX12_gaps_1 : decode cX12_gaps 1 = .ok (.istore_n 1, 1) := by decide +kernel
theorem dX12_gaps_10 : decode cX12_gaps 10 = .ok (.iaload, 1) := by decide +kernel
theorem dX12_gaps_11 : decode cX12_gaps 11 = .ok (.if_icmp .ge 20, 3) := by decide +kernel
theorem dX12_gaps_2 : decode cX12_gaps 2 = .ok (.iconst 0, 1) := by decide +kernel
theorem dX12_gaps_3 : decode cX12_gaps 3 = .ok (.istore_n 2, 1) := by decide +kernel
theorem dX12_gaps_31 : decode cX12_gaps 31 = .ok (.iload_n 1, 1) := by decide +kernel
theorem dX12_gaps_32 : decode cX12_gaps 32 = .ok (.ireturn, 1) := by decide +kernel
theorem dX12_gaps_4 : decode cX12_gaps 4 = .ok (.iload_n 2, 1) := by decide +kernel
theorem dX12_gaps_5 : decode cX12_gaps 5 = .ok (.aload_n 0, 1) := by decide +kernel
theorem dX12_gaps_6 : decode cX12_gaps 6 = .ok (.getfield 70, 3) := by decide +kernel
theorem dX12_gaps_9 : decode cX12_gaps 9 = .ok (.iconst 0, 1) := by decide +kernel
theorem dX12_hold_0 : decode cX12_hold 0 = .ok (.iload_n 1, 1) := by decide +kernel
theorem dX12_hold_1 : decode cX12_hold 1 = .ok (.iconst 0, 1) := by decide +kernel
theorem dX12_hold_10 : decode cX12_hold 10 = .ok (.ireturn, 1) := by decide +kernel
theorem dX12_hold_11 : decode cX12_hold 11 = .ok (.aload_n 0, 1) := by decide +kernel
theorem dX12_hold_12 : decode cX12_hold 12 = .ok (.getfield 100, 3) := by decide +kernel
theorem dX12_hold_15 : decode cX12_hold 15 = .ok (.iload_n 1, 1) := by decide +kernel
theorem dX12_hold_16 : decode cX12_hold 16 = .ok (.iconst 1, 1) := by decide +kernel
theorem dX12_hold_17 : decode cX12_hold 17 = .ok (.bastore, 1) := by decide +kernel
theorem dX12_hold_18 : decode cX12_hold 18 = .ok (.iconst 0, 1) := by decide +kernel
theorem dX12_hold_19 : decode cX12_hold 19 = .ok (.istore_n 2, 1) := by decide +kernel
theorem dX12_hold_2 : decode cX12_hold 2 = .ok (.iconst 2, 1) := by decide +kernel
theorem dX12_hold_20 : decode cX12_hold 20 = .ok (.iload_n 2, 1) := by decide +kernel
theorem dX12_hold_21 : decode cX12_hold 21 = .ok (.sipush 165, 3) := by decide +kernel
theorem dX12_hold_24 : decode cX12_hold 24 = .ok (.if_icmp .ge 27, 3) := by decide +kernel
theorem dX12_hold_27 : decode cX12_hold 27 = .ok (.aload_n 0, 1) := by decide +kernel
theorem dX12_hold_28 : decode cX12_hold 28 = .ok (.getfield 104, 3) := by decide +kernel
theorem dX12_hold_3 : decode cX12_hold 3 = .ok (.invokestatic 244, 3) := by decide +kernel
theorem dX12_hold_31 : decode cX12_hold 31 = .ok (.sipush 165, 3) := by decide +kernel
theorem dX12_hold_34 : decode cX12_hold 34 = .ok (.iload_n 1, 1) := by decide +kernel
theorem dX12_hold_35 : decode cX12_hold 35 = .ok (.imul, 1) := by decide +kernel
theorem dX12_hold_36 : decode cX12_hold 36 = .ok (.iload_n 2, 1) := by decide +kernel
theorem dX12_hold_37 : decode cX12_hold 37 = .ok (.iadd, 1) := by decide +kernel
theorem dX12_hold_38 : decode cX12_hold 38 = .ok (.aload_n 0, 1) := by decide +kernel
theorem dX12_hold_39 : decode cX12_hold 39 = .ok (.getfield 70, 3) := by decide +kernel
theorem dX12_hold_42 : decode cX12_hold 42 = .ok (.iload_n 2, 1) := by decide +kernel
theorem dX12_hold_43 : decode cX12_hold 43 = .ok (.iaload, 1) := by decide +kernel
theorem dX12_hold_44 : decode cX12_hold 44 = .ok (.iastore, 1) := by decide +kernel
theorem dX12_hold_45 : decode cX12_hold 45 = .ok (.iinc 2 1, 3) := by decide +kernel
theorem dX12_hold_48 : decode cX12_hold 48 = .ok (.goto (-28), 3) := by decide +kernel
theorem dX12_hold_51 : decode cX12_hold 51 = .ok (.iconst 1, 1) := by decide +kernel
theorem dX12_hold_52 : decode cX12_hold 52 = .ok (.ireturn, 1) := by decide +kernel
theorem dX12_hold_6 : decode cX12_hold 6 = .ok (.ifCond .ne 5, 3) := by decide +kernel
theorem dX12_hold_9 : decode cX12_hold 9 = .ok (.iconst 0, 1) := by decide +kernel
theorem dX12_in_0 : decode cX12_in 0 = .ok (.iload_n 0, 1) := by decide +kernel
theorem dX12_in_1 : decode cX12_in 1 = .ok (.iload_n 1, 1) := by decide +kernel
theorem dX12_in_10 : decode cX12_in 10 = .ok (.iconst 1, 1) := by decide +kernel
theorem dX12_in_11 : decode cX12_in 11 = .ok (.goto 4, 3) := by decide +kernel
theorem dX12_in_14 : decode cX12_in 14 = .ok (.iconst 0, 1) := by decide +kernel
theorem dX12_in_15 : decode cX12_in 15 = .ok (.ireturn, 1) := by decide +kernel
theorem dX12_in_2 : decode cX12_in 2 = .ok (.if_icmp .lt 12, 3) := by decide +kernel
theorem dX12_in_5 : decode cX12_in 5 = .ok (.iload_n 0, 1) := by decide +kernel
theorem dX12_in_6 : decode cX12_in 6 = .ok (.iload_n 2, 1) := by decide +kernel
theorem dX12_in_7 : decode cX12_in 7 = .ok (.if_icmp .gt 7, 3) := by decide +kernel
theorem dX12_init_0 : decode cX12_init 0 = .ok (.aload_n 0, 1) := by decide +kernel
theorem dX12_init_1 : decode cX12_init 1 = .ok (.invokespecial 7, 3) := by decide +kernel
theorem dX12_init_10 : decode cX12_init 10 = .ok (.putfield 13, 3) := by decide +kernel
theorem dX12_init_101 : decode cX12_init 101 = .ok (.aload_n 0, 1) := by decide +kernel
theorem dX12_init_102 : decode cX12_init 102 = .ok (.bipush 10, 2) := by decide +kernel
theorem dX12_init_104 : decode cX12_init 104 = .ok (.newarray .int, 2) := by decide +kernel
theorem dX12_init_106 : decode cX12_init 106 = .ok (.putfield 52, 3) := by decide +kernel
theorem dX12_init_109 : decode cX12_init 109 = .ok (.aload_n 0, 1) := by decide +kernel
theorem dX12_init_110 : decode cX12_init 110 = .ok (.sipush 160, 3) := by decide +kernel
theorem dX12_init_113 : decode cX12_init 113 = .ok (.newarray .int, 2) := by decide +kernel
theorem dX12_init_115 : decode cX12_init 115 = .ok (.putfield 55, 3) := by decide +kernel
theorem dX12_init_118 : decode cX12_init 118 = .ok (.aload_n 0, 1) := by decide +kernel
theorem dX12_init_119 : decode cX12_init 119 = .ok (.iconst 2, 1) := by decide +kernel
theorem dX12_init_120 : decode cX12_init 120 = .ok (.newarray .int, 2) := by decide +kernel
theorem dX12_init_122 : decode cX12_init 122 = .ok (.putfield 58, 3) := by decide +kernel
theorem dX12_init_125 : decode cX12_init 125 = .ok (.aload_n 0, 1) := by decide +kernel
theorem dX12_init_126 : decode cX12_init 126 = .ok (.iconst 2, 1) := by decide +kernel
theorem dX12_init_127 : decode cX12_init 127 = .ok (.newarray .int, 2) := by decide +kernel
theorem dX12_init_129 : decode cX12_init 129 = .ok (.putfield 61, 3) := by decide +kernel
theorem dX12_init_13 : decode cX12_init 13 = .ok (.aload_n 0, 1) := by decide +kernel
theorem dX12_init_132 : decode cX12_init 132 = .ok (.aload_n 0, 1) := by decide +kernel
theorem dX12_init_133 : decode cX12_init 133 = .ok (.iconst 2, 1) := by decide +kernel
theorem dX12_init_134 : decode cX12_init 134 = .ok (.newarray .int, 2) := by decide +kernel
theorem dX12_init_136 : decode cX12_init 136 = .ok (.putfield 64, 3) := by decide +kernel
theorem dX12_init_139 : decode cX12_init 139 = .ok (.aload_n 0, 1) := by decide +kernel
theorem dX12_init_14 : decode cX12_init 14 = .ok (.sipush 2000, 3) := by decide +kernel
theorem dX12_init_140 : decode cX12_init 140 = .ok (.iconst 2, 1) := by decide +kernel
theorem dX12_init_141 : decode cX12_init 141 = .ok (.newarray .int, 2) := by decide +kernel
theorem dX12_init_143 : decode cX12_init 143 = .ok (.putfield 67, 3) := by decide +kernel
theorem dX12_init_146 : decode cX12_init 146 = .ok (.aload_n 0, 1) := by decide +kernel
theorem dX12_init_147 : decode cX12_init 147 = .ok (.sipush 165, 3) := by decide +kernel
theorem dX12_init_150 : decode cX12_init 150 = .ok (.newarray .int, 2) := by decide +kernel
theorem dX12_init_152 : decode cX12_init 152 = .ok (.putfield 70, 3) := by decide +kernel
theorem dX12_init_155 : decode cX12_init 155 = .ok (.aload_n 0, 1) := by decide +kernel
theorem dX12_init_156 : decode cX12_init 156 = .ok (.sipush 165, 3) := by decide +kernel
theorem dX12_init_159 : decode cX12_init 159 = .ok (.newarray .int, 2) := by decide +kernel
theorem dX12_init_161 : decode cX12_init 161 = .ok (.putfield 73, 3) := by decide +kernel
theorem dX12_init_164 : decode cX12_init 164 = .ok (.aload_n 0, 1) := by decide +kernel
theorem dX12_init_165 : decode cX12_init 165 = .ok (.bipush 16, 2) := by decide +kernel
theorem dX12_init_167 : decode cX12_init 167 = .ok (.newarray .int, 2) := by decide +kernel
theorem dX12_init_169 : decode cX12_init 169 = .ok (.putfield 76, 3) := by decide +kernel
theorem dX12_init_17 : decode cX12_init 17 = .ok (.newarray .byte, 2) := by decide +kernel
theorem dX12_init_172 : decode cX12_init 172 = .ok (.aload_n 0, 1) := by decide +kernel
theorem dX12_init_173 : decode cX12_init 173 = .ok (.bipush 16, 2) := by decide +kernel
theorem dX12_init_175 : decode cX12_init 175 = .ok (.newarray .int, 2) := by decide +kernel
theorem dX12_init_177 : decode cX12_init 177 = .ok (.putfield 79, 3) := by decide +kernel
theorem dX12_init_180 : decode cX12_init 180 = .ok (.aload_n 0, 1) := by decide +kernel
theorem dX12_init_181 : decode cX12_init 181 = .ok (.sipush 256, 3) := by decide +kernel
theorem dX12_init_184 : decode cX12_init 184 = .ok (.newarray .int, 2) := by decide +kernel
theorem dX12_init_186 : decode cX12_init 186 = .ok (.putfield 82, 3) := by decide +kernel
theorem dX12_init_189 : decode cX12_init 189 = .ok (.aload_n 0, 1) := by decide +kernel
theorem dX12_init_19 : decode cX12_init 19 = .ok (.putfield 17, 3) := by decide +kernel
theorem dX12_init_190 : decode cX12_init 190 = .ok (.sipush 6600, 3) := by decide +kernel
theorem dX12_init_193 : decode cX12_init 193 = .ok (.newarray .int, 2) := by decide +kernel
theorem dX12_init_195 : decode cX12_init 195 = .ok (.putfield 85, 3) := by decide +kernel
theorem dX12_init_198 : decode cX12_init 198 = .ok (.aload_n 0, 1) := by decide +kernel
theorem dX12_init_199 : decode cX12_init 199 = .ok (.bipush 40, 2) := by decide +kernel
theorem dX12_init_201 : decode cX12_init 201 = .ok (.newarray .int, 2) := by decide +kernel
theorem dX12_init_203 : decode cX12_init 203 = .ok (.putfield 88, 3) := by decide +kernel
theorem dX12_init_206 : decode cX12_init 206 = .ok (.aload_n 0, 1) := by decide +kernel
theorem dX12_init_207 : decode cX12_init 207 = .ok (.sipush 160, 3) := by decide +kernel
theorem dX12_init_210 : decode cX12_init 210 = .ok (.newarray .int, 2) := by decide +kernel
theorem dX12_init_212 : decode cX12_init 212 = .ok (.putfield 91, 3) := by decide +kernel
theorem dX12_init_215 : decode cX12_init 215 = .ok (.aload_n 0, 1) := by decide +kernel
theorem dX12_init_216 : decode cX12_init 216 = .ok (.bipush 9, 2) := by decide +kernel
theorem dX12_init_218 : decode cX12_init 218 = .ok (.newarray .int, 2) := by decide +kernel
theorem dX12_init_22 : decode cX12_init 22 = .ok (.aload_n 0, 1) := by decide +kernel
theorem dX12_init_220 : decode cX12_init 220 = .ok (.putfield 94, 3) := by decide +kernel
theorem dX12_init_223 : decode cX12_init 223 = .ok (.aload_n 0, 1) := by decide +kernel
theorem dX12_init_224 : decode cX12_init 224 = .ok (.sipush 160, 3) := by decide +kernel
theorem dX12_init_227 : decode cX12_init 227 = .ok (.newarray .int, 2) := by decide +kernel
theorem dX12_init_229 : decode cX12_init 229 = .ok (.putfield 97, 3) := by decide +kernel
theorem dX12_init_23 : decode cX12_init 23 = .ok (.sipush 403, 3) := by decide +kernel
theorem dX12_init_232 : decode cX12_init 232 = .ok (.aload_n 0, 1) := by decide +kernel
theorem dX12_init_233 : decode cX12_init 233 = .ok (.iconst 3, 1) := by decide +kernel
theorem dX12_init_234 : decode cX12_init 234 = .ok (.newarray .boolean, 2) := by decide +kernel
theorem dX12_init_236 : decode cX12_init 236 = .ok (.putfield 100, 3) := by decide +kernel
theorem dX12_init_239 : decode cX12_init 239 = .ok (.aload_n 0, 1) := by decide +kernel
theorem dX12_init_240 : decode cX12_init 240 = .ok (.sipush 495, 3) := by decide +kernel
theorem dX12_init_243 : decode cX12_init 243 = .ok (.newarray .int, 2) := by decide +kernel
theorem dX12_init_245 : decode cX12_init 245 = .ok (.putfield 104, 3) := by decide +kernel
theorem dX12_init_248 : decode cX12_init 248 = .ok (.aload_n 0, 1) := by decide +kernel
theorem dX12_init_249 : decode cX12_init 249 = .ok (.iconst 0, 1) := by decide +kernel
theorem dX12_init_250 : decode cX12_init 250 = .ok (.invokevirtual 107, 3) := by decide +kernel
theorem dX12_init_253 : decode cX12_init 253 = .ok (.aload_n 0, 1) := by decide +kernel
theorem dX12_init_254 : decode cX12_init 254 = .ok (.iconst 1, 1) := by decide +kernel
theorem dX12_init_255 : decode cX12_init 255 = .ok (.invokevirtual 107, 3) := by decide +kernel
theorem dX12_init_258 : decode cX12_init 258 = .ok (.aload_n 0, 1) := by decide +kernel
theorem dX12_init_259 : decode cX12_init 259 = .ok (.iconst (-1), 1) := by decide +kernel
theorem dX12_init_26 : decode cX12_init 26 = .ok (.newarray .int, 2) := by decide +kernel
theorem dX12_init_260 : decode cX12_init 260 = .ok (.putfield 111, 3) := by decide +kernel
theorem dX12_init_263 : decode cX12_init 263 = .ok (.aload_n 0, 1) := by decide +kernel
theorem dX12_init_264 : decode cX12_init 264 = .ok (.getfield 34, 3) := by decide +kernel
theorem dX12_init_267 : decode cX12_init 267 = .ok (.iconst 0, 1) := by decide +kernel
theorem dX12_init_268 : decode cX12_init 268 = .ok (.bipush 115, 2) := by decide +kernel
theorem dX12_init_270 : decode cX12_init 270 = .ok (.bipush 101, 2) := by decide +kernel
theorem dX12_init_272 : decode cX12_init 272 = .ok (.bipush 114, 2) := by decide +kernel
theorem dX12_init_274 : decode cX12_init 274 = .ok (.bipush 105, 2) := by decide +kernel
theorem dX12_init_276 : decode cX12_init 276 = .ok (.bipush 101, 2) := by decide +kernel
theorem dX12_init_278 : decode cX12_init 278 = .ok (.bipush 115, 2) := by decide +kernel
theorem dX12_init_28 : decode cX12_init 28 = .ok (.putfield 20, 3) := by decide +kernel
theorem dX12_init_280 : decode cX12_init 280 = .ok (.iconst 0, 1) := by decide +kernel
theorem dX12_init_281 : decode cX12_init 281 = .ok (.invokestatic 114, 3) := by decide +kernel
theorem dX12_init_284 : decode cX12_init 284 = .ok (.lastore, 1) := by decide +kernel
theorem dX12_init_285 : decode cX12_init 285 = .ok (.aload_n 0, 1) := by decide +kernel
theorem dX12_init_286 : decode cX12_init 286 = .ok (.getfield 34, 3) := by decide +kernel
theorem dX12_init_289 : decode cX12_init 289 = .ok (.iconst 1, 1) := by decide +kernel
theorem dX12_init_290 : decode cX12_init 290 = .ok (.bipush 113, 2) := by decide +kernel
theorem dX12_init_292 : decode cX12_init 292 = .ok (.bipush 117, 2) := by decide +kernel
theorem dX12_init_294 : decode cX12_init 294 = .ok (.bipush 101, 2) := by decide +kernel
theorem dX12_init_296 : decode cX12_init 296 = .ok (.bipush 114, 2) := by decide +kernel
theorem dX12_init_298 : decode cX12_init 298 = .ok (.bipush 121, 2) := by decide +kernel
theorem dX12_init_300 : decode cX12_init 300 = .ok (.iconst 0, 1) := by decide +kernel
theorem dX12_init_301 : decode cX12_init 301 = .ok (.iconst 0, 1) := by decide +kernel
theorem dX12_init_302 : decode cX12_init 302 = .ok (.invokestatic 114, 3) := by decide +kernel
theorem dX12_init_305 : decode cX12_init 305 = .ok (.lastore, 1) := by decide +kernel
theorem dX12_init_306 : decode cX12_init 306 = .ok (.aload_n 0, 1) := by decide +kernel
theorem dX12_init_307 : decode cX12_init 307 = .ok (.getfield 34, 3) := by decide +kernel
theorem dX12_init_31 : decode cX12_init 31 = .ok (.aload_n 0, 1) := by decide +kernel
theorem dX12_init_310 : decode cX12_init 310 = .ok (.iconst 2, 1) := by decide +kernel
theorem dX12_init_311 : decode cX12_init 311 = .ok (.bipush 98, 2) := by decide +kernel
theorem dX12_init_313 : decode cX12_init 313 = .ok (.bipush 97, 2) := by decide +kernel
theorem dX12_init_315 : decode cX12_init 315 = .ok (.bipush 110, 2) := by decide +kernel
theorem dX12_init_317 : decode cX12_init 317 = .ok (.bipush 100, 2) := by decide +kernel
theorem dX12_init_319 : decode cX12_init 319 = .ok (.iconst 0, 1) := by decide +kernel
theorem dX12_init_32 : decode cX12_init 32 = .ok (.sipush 403, 3) := by decide +kernel
theorem dX12_init_320 : decode cX12_init 320 = .ok (.iconst 0, 1) := by decide +kernel
theorem dX12_init_321 : decode cX12_init 321 = .ok (.iconst 0, 1) := by decide +kernel
theorem dX12_init_322 : decode cX12_init 322 = .ok (.invokestatic 114, 3) := by decide +kernel
theorem dX12_init_325 : decode cX12_init 325 = .ok (.lastore, 1) := by decide +kernel
theorem dX12_init_326 : decode cX12_init 326 = .ok (.aload_n 0, 1) := by decide +kernel
theorem dX12_init_327 : decode cX12_init 327 = .ok (.getfield 34, 3) := by decide +kernel
theorem dX12_init_330 : decode cX12_init 330 = .ok (.iconst 3, 1) := by decide +kernel
theorem dX12_init_331 : decode cX12_init 331 = .ok (.bipush 108, 2) := by decide +kernel
theorem dX12_init_333 : decode cX12_init 333 = .ok (.bipush 101, 2) := by decide +kernel
theorem dX12_init_335 : decode cX12_init 335 = .ok (.bipush 118, 2) := by decide +kernel
theorem dX12_init_337 : decode cX12_init 337 = .ok (.bipush 101, 2) := by decide +kernel
theorem dX12_init_339 : decode cX12_init 339 = .ok (.bipush 108, 2) := by decide +kernel
theorem dX12_init_341 : decode cX12_init 341 = .ok (.iconst 0, 1) := by decide +kernel
theorem dX12_init_342 : decode cX12_init 342 = .ok (.iconst 0, 1) := by decide +kernel
theorem dX12_init_343 : decode cX12_init 343 = .ok (.invokestatic 114, 3) := by decide +kernel
theorem dX12_init_346 : decode cX12_init 346 = .ok (.lastore, 1) := by decide +kernel
theorem dX12_init_347 : decode cX12_init 347 = .ok (.aload_n 0, 1) := by decide +kernel
theorem dX12_init_348 : decode cX12_init 348 = .ok (.getfield 34, 3) := by decide +kernel
theorem dX12_init_35 : decode cX12_init 35 = .ok (.newarray .int, 2) := by decide +kernel
theorem dX12_init_351 : decode cX12_init 351 = .ok (.iconst 4, 1) := by decide +kernel
theorem dX12_init_352 : decode cX12_init 352 = .ok (.bipush 99, 2) := by decide +kernel
theorem dX12_init_354 : decode cX12_init 354 = .ok (.bipush 111, 2) := by decide +kernel
theorem dX12_init_356 : decode cX12_init 356 = .ok (.bipush 115, 2) := by decide +kernel
theorem dX12_init_358 : decode cX12_init 358 = .ok (.bipush 116, 2) := by decide +kernel
theorem dX12_init_360 : decode cX12_init 360 = .ok (.iconst 0, 1) := by decide +kernel
theorem dX12_init_361 : decode cX12_init 361 = .ok (.iconst 0, 1) := by decide +kernel
theorem dX12_init_362 : decode cX12_init 362 = .ok (.iconst 0, 1) := by decide +kernel
theorem dX12_init_363 : decode cX12_init 363 = .ok (.invokestatic 114, 3) := by decide +kernel
theorem dX12_init_366 : decode cX12_init 366 = .ok (.lastore, 1) := by decide +kernel
theorem dX12_init_367 : decode cX12_init 367 = .ok (.aload_n 0, 1) := by decide +kernel
theorem dX12_init_368 : decode cX12_init 368 = .ok (.getfield 34, 3) := by decide +kernel
theorem dX12_init_37 : decode cX12_init 37 = .ok (.putfield 24, 3) := by decide +kernel
theorem dX12_init_371 : decode cX12_init 371 = .ok (.iconst 5, 1) := by decide +kernel
theorem dX12_init_372 : decode cX12_init 372 = .ok (.bipush 97, 2) := by decide +kernel
theorem dX12_init_374 : decode cX12_init 374 = .ok (.bipush 112, 2) := by decide +kernel
theorem dX12_init_376 : decode cX12_init 376 = .ok (.bipush 97, 2) := by decide +kernel
theorem dX12_init_378 : decode cX12_init 378 = .ok (.bipush 114, 2) := by decide +kernel
theorem dX12_init_380 : decode cX12_init 380 = .ok (.bipush 116, 2) := by decide +kernel
theorem dX12_init_382 : decode cX12_init 382 = .ok (.iconst 0, 1) := by decide +kernel
theorem dX12_init_383 : decode cX12_init 383 = .ok (.iconst 0, 1) := by decide +kernel
theorem dX12_init_384 : decode cX12_init 384 = .ok (.invokestatic 114, 3) := by decide +kernel
theorem dX12_init_387 : decode cX12_init 387 = .ok (.lastore, 1) := by decide +kernel
theorem dX12_init_388 : decode cX12_init 388 = .ok (.aload_n 0, 1) := by decide +kernel
theorem dX12_init_389 : decode cX12_init 389 = .ok (.getfield 34, 3) := by decide +kernel
theorem dX12_init_392 : decode cX12_init 392 = .ok (.bipush 6, 2) := by decide +kernel
theorem dX12_init_394 : decode cX12_init 394 = .ok (.bipush 103, 2) := by decide +kernel
theorem dX12_init_396 : decode cX12_init 396 = .ok (.bipush 97, 2) := by decide +kernel
theorem dX12_init_398 : decode cX12_init 398 = .ok (.bipush 112, 2) := by decide +kernel
theorem dX12_init_4 : decode cX12_init 4 = .ok (.aload_n 0, 1) := by decide +kernel
theorem dX12_init_40 : decode cX12_init 40 = .ok (.aload_n 0, 1) := by decide +kernel
theorem dX12_init_400 : decode cX12_init 400 = .ok (.iconst 0, 1) := by decide +kernel
theorem dX12_init_401 : decode cX12_init 401 = .ok (.iconst 0, 1) := by decide +kernel
theorem dX12_init_402 : decode cX12_init 402 = .ok (.iconst 0, 1) := by decide +kernel
theorem dX12_init_403 : decode cX12_init 403 = .ok (.iconst 0, 1) := by decide +kernel
theorem dX12_init_404 : decode cX12_init 404 = .ok (.invokestatic 114, 3) := by decide +kernel
theorem dX12_init_407 : decode cX12_init 407 = .ok (.lastore, 1) := by decide +kernel
theorem dX12_init_408 : decode cX12_init 408 = .ok (.aload_n 0, 1) := by decide +kernel
theorem dX12_init_409 : decode cX12_init 409 = .ok (.getfield 34, 3) := by decide +kernel
theorem dX12_init_41 : decode cX12_init 41 = .ok (.sipush 403, 3) := by decide +kernel
theorem dX12_init_412 : decode cX12_init 412 = .ok (.bipush 7, 2) := by decide +kernel
theorem dX12_init_414 : decode cX12_init 414 = .ok (.bipush 110, 2) := by decide +kernel
theorem dX12_init_416 : decode cX12_init 416 = .ok (.bipush 111, 2) := by decide +kernel
theorem dX12_init_418 : decode cX12_init 418 = .ok (.bipush 110, 2) := by decide +kernel
theorem dX12_init_420 : decode cX12_init 420 = .ok (.bipush 101, 2) := by decide +kernel
theorem dX12_init_422 : decode cX12_init 422 = .ok (.iconst 0, 1) := by decide +kernel
theorem dX12_init_423 : decode cX12_init 423 = .ok (.iconst 0, 1) := by decide +kernel
theorem dX12_init_424 : decode cX12_init 424 = .ok (.iconst 0, 1) := by decide +kernel
theorem dX12_init_425 : decode cX12_init 425 = .ok (.invokestatic 114, 3) := by decide +kernel
theorem dX12_init_428 : decode cX12_init 428 = .ok (.lastore, 1) := by decide +kernel
theorem dX12_init_429 : decode cX12_init 429 = .ok (.aload_n 0, 1) := by decide +kernel
theorem dX12_init_430 : decode cX12_init 430 = .ok (.getfield 34, 3) := by decide +kernel
theorem dX12_init_433 : decode cX12_init 433 = .ok (.bipush 8, 2) := by decide +kernel
theorem dX12_init_435 : decode cX12_init 435 = .ok (.bipush 109, 2) := by decide +kernel
theorem dX12_init_437 : decode cX12_init 437 = .ok (.bipush 101, 2) := by decide +kernel
theorem dX12_init_439 : decode cX12_init 439 = .ok (.bipush 97, 2) := by decide +kernel
theorem dX12_init_44 : decode cX12_init 44 = .ok (.newarray .int, 2) := by decide +kernel
theorem dX12_init_441 : decode cX12_init 441 = .ok (.bipush 110, 2) := by decide +kernel
theorem dX12_init_443 : decode cX12_init 443 = .ok (.iconst 0, 1) := by decide +kernel
theorem dX12_init_444 : decode cX12_init 444 = .ok (.iconst 0, 1) := by decide +kernel
theorem dX12_init_445 : decode cX12_init 445 = .ok (.iconst 0, 1) := by decide +kernel
theorem dX12_init_446 : decode cX12_init 446 = .ok (.invokestatic 114, 3) := by decide +kernel
theorem dX12_init_449 : decode cX12_init 449 = .ok (.lastore, 1) := by decide +kernel
theorem dX12_init_450 : decode cX12_init 450 = .ok (.aload_n 0, 1) := by decide +kernel
theorem dX12_init_451 : decode cX12_init 451 = .ok (.getfield 34, 3) := by decide +kernel
theorem dX12_init_454 : decode cX12_init 454 = .ok (.bipush 9, 2) := by decide +kernel
theorem dX12_init_456 : decode cX12_init 456 = .ok (.bipush 102, 2) := by decide +kernel
theorem dX12_init_458 : decode cX12_init 458 = .ok (.bipush 105, 2) := by decide +kernel
theorem dX12_init_46 : decode cX12_init 46 = .ok (.putfield 27, 3) := by decide +kernel
theorem dX12_init_460 : decode cX12_init 460 = .ok (.bipush 114, 2) := by decide +kernel
theorem dX12_init_462 : decode cX12_init 462 = .ok (.bipush 115, 2) := by decide +kernel
theorem dX12_init_464 : decode cX12_init 464 = .ok (.bipush 116, 2) := by decide +kernel
theorem dX12_init_466 : decode cX12_init 466 = .ok (.iconst 0, 1) := by decide +kernel
theorem dX12_init_467 : decode cX12_init 467 = .ok (.iconst 0, 1) := by decide +kernel
theorem dX12_init_468 : decode cX12_init 468 = .ok (.invokestatic 114, 3) := by decide +kernel
theorem dX12_init_471 : decode cX12_init 471 = .ok (.lastore, 1) := by decide +kernel
theorem dX12_init_472 : decode cX12_init 472 = .ok (.aload_n 0, 1) := by decide +kernel
theorem dX12_init_473 : decode cX12_init 473 = .ok (.getfield 34, 3) := by decide +kernel
theorem dX12_init_476 : decode cX12_init 476 = .ok (.bipush 10, 2) := by decide +kernel
theorem dX12_init_478 : decode cX12_init 478 = .ok (.bipush 114, 2) := by decide +kernel
theorem dX12_init_480 : decode cX12_init 480 = .ok (.bipush 97, 2) := by decide +kernel
theorem dX12_init_482 : decode cX12_init 482 = .ok (.bipush 110, 2) := by decide +kernel
theorem dX12_init_484 : decode cX12_init 484 = .ok (.bipush 103, 2) := by decide +kernel
theorem dX12_init_486 : decode cX12_init 486 = .ok (.bipush 101, 2) := by decide +kernel
theorem dX12_init_488 : decode cX12_init 488 = .ok (.iconst 0, 1) := by decide +kernel
theorem dX12_init_489 : decode cX12_init 489 = .ok (.iconst 0, 1) := by decide +kernel
theorem dX12_init_49 : decode cX12_init 49 = .ok (.aload_n 0, 1) := by decide +kernel
theorem dX12_init_490 : decode cX12_init 490 = .ok (.invokestatic 114, 3) := by decide +kernel
theorem dX12_init_493 : decode cX12_init 493 = .ok (.lastore, 1) := by decide +kernel
theorem dX12_init_494 : decode cX12_init 494 = .ok (.aload_n 0, 1) := by decide +kernel
theorem dX12_init_495 : decode cX12_init 495 = .ok (.getfield 34, 3) := by decide +kernel
theorem dX12_init_498 : decode cX12_init 498 = .ok (.bipush 11, 2) := by decide +kernel
theorem dX12_init_5 : decode cX12_init 5 = .ok (.sipush 2000, 3) := by decide +kernel
theorem dX12_init_50 : decode cX12_init 50 = .ok (.sipush 403, 3) := by decide +kernel
theorem dX12_init_500 : decode cX12_init 500 = .ok (.bipush 112, 2) := by decide +kernel
theorem dX12_init_502 : decode cX12_init 502 = .ok (.bipush 108, 2) := by decide +kernel
theorem dX12_init_504 : decode cX12_init 504 = .ok (.bipush 97, 2) := by decide +kernel
theorem dX12_init_506 : decode cX12_init 506 = .ok (.bipush 105, 2) := by decide +kernel
theorem dX12_init_508 : decode cX12_init 508 = .ok (.bipush 110, 2) := by decide +kernel
theorem dX12_init_510 : decode cX12_init 510 = .ok (.iconst 0, 1) := by decide +kernel
theorem dX12_init_511 : decode cX12_init 511 = .ok (.iconst 0, 1) := by decide +kernel
theorem dX12_init_512 : decode cX12_init 512 = .ok (.invokestatic 114, 3) := by decide +kernel
theorem dX12_init_515 : decode cX12_init 515 = .ok (.lastore, 1) := by decide +kernel
theorem dX12_init_516 : decode cX12_init 516 = .ok (.aload_n 0, 1) := by decide +kernel
theorem dX12_init_517 : decode cX12_init 517 = .ok (.getfield 34, 3) := by decide +kernel
theorem dX12_init_520 : decode cX12_init 520 = .ok (.bipush 12, 2) := by decide +kernel
theorem dX12_init_522 : decode cX12_init 522 = .ok (.bipush 115, 2) := by decide +kernel
theorem dX12_init_524 : decode cX12_init 524 = .ok (.bipush 113, 2) := by decide +kernel
theorem dX12_init_526 : decode cX12_init 526 = .ok (.bipush 117, 2) := by decide +kernel
theorem dX12_init_528 : decode cX12_init 528 = .ok (.bipush 97, 2) := by decide +kernel
theorem dX12_init_53 : decode cX12_init 53 = .ok (.newarray .long, 2) := by decide +kernel
theorem dX12_init_530 : decode cX12_init 530 = .ok (.bipush 114, 2) := by decide +kernel
theorem dX12_init_532 : decode cX12_init 532 = .ok (.bipush 101, 2) := by decide +kernel
theorem dX12_init_534 : decode cX12_init 534 = .ok (.iconst 0, 1) := by decide +kernel
theorem dX12_init_535 : decode cX12_init 535 = .ok (.invokestatic 114, 3) := by decide +kernel
theorem dX12_init_538 : decode cX12_init 538 = .ok (.lastore, 1) := by decide +kernel
theorem dX12_init_539 : decode cX12_init 539 = .ok (.aload_n 0, 1) := by decide +kernel
theorem dX12_init_540 : decode cX12_init 540 = .ok (.invokevirtual 118, 3) := by decide +kernel
theorem dX12_init_543 : decode cX12_init 543 = .ok (.aload_n 0, 1) := by decide +kernel
theorem dX12_init_544 : decode cX12_init 544 = .ok (.invokevirtual 121, 3) := by decide +kernel
theorem dX12_init_547 : decode cX12_init 547 = .ok (.return_, 1) := by decide +kernel
theorem dX12_init_55 : decode cX12_init 55 = .ok (.putfield 30, 3) := by decide +kernel
theorem dX12_init_58 : decode cX12_init 58 = .ok (.aload_n 0, 1) := by decide +kernel
theorem dX12_init_59 : decode cX12_init 59 = .ok (.bipush 13, 2) := by decide +kernel
theorem dX12_init_61 : decode cX12_init 61 = .ok (.newarray .long, 2) := by decide +kernel
theorem dX12_init_63 : decode cX12_init 63 = .ok (.putfield 34, 3) := by decide +kernel
theorem dX12_init_66 : decode cX12_init 66 = .ok (.aload_n 0, 1) := by decide +kernel
theorem dX12_init_67 : decode cX12_init 67 = .ok (.iconst (-1), 1) := by decide +kernel
theorem dX12_init_68 : decode cX12_init 68 = .ok (.putfield 37, 3) := by decide +kernel
theorem dX12_init_71 : decode cX12_init 71 = .ok (.aload_n 0, 1) := by decide +kernel
theorem dX12_init_72 : decode cX12_init 72 = .ok (.iconst 5, 1) := by decide +kernel
theorem dX12_init_73 : decode cX12_init 73 = .ok (.newarray .long, 2) := by decide +kernel
theorem dX12_init_75 : decode cX12_init 75 = .ok (.putfield 40, 3) := by decide +kernel
theorem dX12_init_78 : decode cX12_init 78 = .ok (.aload_n 0, 1) := by decide +kernel
theorem dX12_init_79 : decode cX12_init 79 = .ok (.iconst 2, 1) := by decide +kernel
theorem dX12_init_8 : decode cX12_init 8 = .ok (.newarray .byte, 2) := by decide +kernel
theorem dX12_init_80 : decode cX12_init 80 = .ok (.newarray .int, 2) := by decide +kernel
theorem dX12_init_82 : decode cX12_init 82 = .ok (.putfield 43, 3) := by decide +kernel
theorem dX12_init_85 : decode cX12_init 85 = .ok (.aload_n 0, 1) := by decide +kernel
theorem dX12_init_86 : decode cX12_init 86 = .ok (.sipush 320, 3) := by decide +kernel
theorem dX12_init_89 : decode cX12_init 89 = .ok (.newarray .int, 2) := by decide +kernel
theorem dX12_init_91 : decode cX12_init 91 = .ok (.putfield 46, 3) := by decide +kernel
theorem dX12_init_94 : decode cX12_init 94 = .ok (.aload_n 0, 1) := by decide +kernel
theorem dX12_init_95 : decode cX12_init 95 = .ok (.iconst 2, 1) := by decide +kernel
theorem dX12_init_96 : decode cX12_init 96 = .ok (.newarray .int, 2) := by decide +kernel
theorem dX12_init_98 : decode cX12_init 98 = .ok (.putfield 49, 3) := by decide +kernel
theorem dX12_isOf_0 : decode cX12_isOf 0 = .ok (.aload_n 0, 1) := by decide +kernel
theorem dX12_isOf_1 : decode cX12_isOf 1 = .ok (.iload_n 1, 1) := by decide +kernel
theorem dX12_isOf_2 : decode cX12_isOf 2 = .ok (.invokevirtual 251, 3) := by decide +kernel
theorem dX12_isOf_25 : decode cX12_isOf 25 = .ok (.iconst 0, 1) := by decide +kernel
theorem dX12_isOf_26 : decode cX12_isOf 26 = .ok (.ireturn, 1) := by decide +kernel
theorem dX12_isOf_5 : decode cX12_isOf 5 = .ok (.ifCond .eq 20, 3) := by decide +kernel
theorem dX12_isPlace_0 : decode cX12_isPlace 0 = .ok (.iload_n 1, 1) := by decide +kernel
theorem dX12_isPlace_1 : decode cX12_isPlace 1 = .ok (.iconst 0, 1) := by decide +kernel
theorem dX12_isPlace_10 : decode cX12_isPlace 10 = .ok (.invokestatic 244, 3) := by decide +kernel
theorem dX12_isPlace_13 : decode cX12_isPlace 13 = .ok (.ireturn, 1) := by decide +kernel
theorem dX12_isPlace_2 : decode cX12_isPlace 2 = .ok (.aload_n 0, 1) := by decide +kernel
theorem dX12_isPlace_3 : decode cX12_isPlace 3 = .ok (.getfield 70, 3) := by decide +kernel
theorem dX12_isPlace_6 : decode cX12_isPlace 6 = .ok (.iconst 0, 1) := by decide +kernel
theorem dX12_isPlace_7 : decode cX12_isPlace 7 = .ok (.iaload, 1) := by decide +kernel
theorem dX12_isPlace_8 : decode cX12_isPlace 8 = .ok (.iconst 1, 1) := by decide +kernel
theorem dX12_isPlace_9 : decode cX12_isPlace 9 = .ok (.isub, 1) := by decide +kernel
theorem dX12_isQuery_0 : decode cX12_isQuery 0 = .ok (.iload_n 1, 1) := by decide +kernel
theorem dX12_isQuery_1 : decode cX12_isQuery 1 = .ok (.iconst 0, 1) := by decide +kernel
theorem dX12_isQuery_10 : decode cX12_isQuery 10 = .ok (.iaload, 1) := by decide +kernel
theorem dX12_isQuery_11 : decode cX12_isQuery 11 = .ok (.iconst 1, 1) := by decide +kernel
theorem dX12_isQuery_12 : decode cX12_isQuery 12 = .ok (.isub, 1) := by decide +kernel
theorem dX12_isQuery_13 : decode cX12_isQuery 13 = .ok (.invokestatic 244, 3) := by decide +kernel
theorem dX12_isQuery_16 : decode cX12_isQuery 16 = .ok (.ireturn, 1) := by decide +kernel
theorem dX12_isQuery_2 : decode cX12_isQuery 2 = .ok (.aload_n 0, 1) := by decide +kernel
theorem dX12_isQuery_3 : decode cX12_isQuery 3 = .ok (.getfield 49, 3) := by decide +kernel
theorem dX12_isQuery_6 : decode cX12_isQuery 6 = .ok (.aload_n 0, 1) := by decide +kernel
theorem dX12_isQuery_7 : decode cX12_isQuery 7 = .ok (.getfield 197, 3) := by decide +kernel
theorem dX12_isThere_0 : decode cX12_isThere 0 = .ok (.aload_n 0, 1) := by decide +kernel
theorem dX12_isThere_1 : decode cX12_isThere 1 = .ok (.iload_n 1, 1) := by decide +kernel
theorem dX12_isThere_2 : decode cX12_isThere 2 = .ok (.invokevirtual 248, 3) := by decide +kernel
theorem dX12_isThere_25 : decode cX12_isThere 25 = .ok (.iconst 0, 1) := by decide +kernel
theorem dX12_isThere_26 : decode cX12_isThere 26 = .ok (.ireturn, 1) := by decide +kernel
theorem dX12_isThere_5 : decode cX12_isThere 5 = .ok (.ifCond .eq 20, 3) := by decide +kernel
theorem dX12_isWindow_0 : decode cX12_isWindow 0 = .ok (.iload_n 1, 1) := by decide +kernel
theorem dX12_isWindow_1 : decode cX12_isWindow 1 = .ok (.ifCond .lt 20, 3) := by decide +kernel
theorem dX12_isWindow_10 : decode cX12_isWindow 10 = .ok (.aload_n 0, 1) := by decide +kernel
theorem dX12_isWindow_11 : decode cX12_isWindow 11 = .ok (.getfield 70, 3) := by decide +kernel
theorem dX12_isWindow_14 : decode cX12_isWindow 14 = .ok (.iconst 0, 1) := by decide +kernel
theorem dX12_isWindow_15 : decode cX12_isWindow 15 = .ok (.iaload, 1) := by decide +kernel
theorem dX12_isWindow_16 : decode cX12_isWindow 16 = .ok (.iload_n 2, 1) := by decide +kernel
theorem dX12_isWindow_17 : decode cX12_isWindow 17 = .ok (.isub, 1) := by decide +kernel
theorem dX12_isWindow_18 : decode cX12_isWindow 18 = .ok (.if_icmp .le 5, 3) := by decide +kernel
theorem dX12_isWindow_21 : decode cX12_isWindow 21 = .ok (.iconst 0, 1) := by decide +kernel
theorem dX12_isWindow_22 : decode cX12_isWindow 22 = .ok (.ireturn, 1) := by decide +kernel
theorem dX12_isWindow_4 : decode cX12_isWindow 4 = .ok (.iload_n 2, 1) := by decide +kernel
theorem dX12_isWindow_5 : decode cX12_isWindow 5 = .ok (.iconst 1, 1) := by decide +kernel
theorem dX12_isWindow_6 : decode cX12_isWindow 6 = .ok (.if_icmp .lt 15, 3) := by decide +kernel
theorem dX12_isWindow_9 : decode cX12_isWindow 9 = .ok (.iload_n 1, 1) := by decide +kernel
theorem dX12_is_0 : decode cX12_is 0 = .ok (.aload_n 0, 1) := by decide +kernel
theorem dX12_is_1 : decode cX12_is 1 = .ok (.getfield 161, 3) := by decide +kernel
theorem dX12_is_11 : decode cX12_is 11 = .ok (.aload_n 0, 1) := by decide +kernel
theorem dX12_is_12 : decode cX12_is 12 = .ok (.getfield 164, 3) := by decide +kernel
theorem dX12_is_15 : decode cX12_is 15 = .ok (.iaload, 1) := by decide +kernel
theorem dX12_is_16 : decode cX12_is 16 = .ok (.iload_n 1, 1) := by decide +kernel
theorem dX12_is_17 : decode cX12_is 17 = .ok (.if_icmp .ne 7, 3) := by decide +kernel
theorem dX12_is_20 : decode cX12_is 20 = .ok (.iconst 1, 1) := by decide +kernel
theorem dX12_is_21 : decode cX12_is 21 = .ok (.goto 4, 3) := by decide +kernel
theorem dX12_is_25 : decode cX12_is 25 = .ok (.ireturn, 1) := by decide +kernel
theorem dX12_is_4 : decode cX12_is 4 = .ok (.ifCond .ne 20, 3) := by decide +kernel
theorem dX12_is_7 : decode cX12_is 7 = .ok (.aload_n 0, 1) := by decide +kernel
theorem dX12_is_8 : decode cX12_is 8 = .ok (.getfield 20, 3) := by decide +kernel
theorem dX12_keepsRow_0 : decode cX12_keepsRow 0 = .ok (.iconst 0, 1) := by decide +kernel
theorem dX12_keepsRow_1 : decode cX12_keepsRow 1 = .ok (.istore_n 1, 1) := by decide +kernel
theorem dX12_keepsRow_10 : decode cX12_keepsRow 10 = .ok (.getfield 70, 3) := by decide +kernel
theorem dX12_keepsRow_13 : decode cX12_keepsRow 13 = .ok (.iload_n 1, 1) := by decide +kernel
theorem dX12_keepsRow_14 : decode cX12_keepsRow 14 = .ok (.aload_n 0, 1) := by decide +kernel
theorem dX12_keepsRow_15 : decode cX12_keepsRow 15 = .ok (.getfield 73, 3) := by decide +kernel
theorem dX12_keepsRow_18 : decode cX12_keepsRow 18 = .ok (.iload_n 1, 1) := by decide +kernel
theorem dX12_keepsRow_19 : decode cX12_keepsRow 19 = .ok (.iaload, 1) := by decide +kernel
theorem dX12_keepsRow_2 : decode cX12_keepsRow 2 = .ok (.iload_n 1, 1) := by decide +kernel
theorem dX12_keepsRow_20 : decode cX12_keepsRow 20 = .ok (.iastore, 1) := by decide +kernel
theorem dX12_keepsRow_21 : decode cX12_keepsRow 21 = .ok (.iinc 1 1, 3) := by decide +kernel
theorem dX12_keepsRow_24 : decode cX12_keepsRow 24 = .ok (.goto (-22), 3) := by decide +kernel
theorem dX12_keepsRow_27 : decode cX12_keepsRow 27 = .ok (.return_, 1) := by decide +kernel
theorem dX12_keepsRow_3 : decode cX12_keepsRow 3 = .ok (.sipush 165, 3) := by decide +kernel
theorem dX12_keepsRow_6 : decode cX12_keepsRow 6 = .ok (.if_icmp .ge 21, 3) := by decide +kernel
theorem dX12_keepsRow_9 : decode cX12_keepsRow 9 = .ok (.aload_n 0, 1) := by decide +kernel
theorem dX12_kth_0 : decode cX12_kth 0 = .ok (.aload_n 0, 1) := by decide +kernel
theorem dX12_kth_1 : decode cX12_kth 1 = .ok (.iload_n 1, 1) := by decide +kernel
theorem dX12_kth_2 : decode cX12_kth 2 = .ok (.invokevirtual 251, 3) := by decide +kernel
theorem dX12_kth_21 : decode cX12_kth 21 = .ok (.iconst (-1), 1) := by decide +kernel
theorem dX12_kth_22 : decode cX12_kth 22 = .ok (.ireturn, 1) := by decide +kernel
theorem dX12_kth_5 : decode cX12_kth 5 = .ok (.ifCond .eq 16, 3) := by decide +kernel
theorem dX12_lays_0 : decode cX12_lays 0 = .ok (.bipush 24, 2) := by decide +kernel
theorem dX12_lays_11 : decode cX12_lays 11 = .ok (.aload_n 0, 1) := by decide +kernel
theorem dX12_lays_12 : decode cX12_lays 12 = .ok (.getfield 124, 3) := by decide +kernel
theorem dX12_lays_15 : decode cX12_lays 15 = .ok (.iload_n 1, 1) := by decide +kernel
theorem dX12_lays_16 : decode cX12_lays 16 = .ok (.iload_n 2, 1) := by decide +kernel
theorem dX12_lays_17 : decode cX12_lays 17 = .ok (.ishr, 1) := by decide +kernel
theorem dX12_lays_18 : decode cX12_lays 18 = .ok (.i2b, 1) := by decide +kernel
theorem dX12_lays_19 : decode cX12_lays 19 = .ok (.bastore, 1) := by decide +kernel
theorem dX12_lays_2 : decode cX12_lays 2 = .ok (.istore_n 2, 1) := by decide +kernel
theorem dX12_lays_20 : decode cX12_lays 20 = .ok (.aload_n 0, 1) := by decide +kernel
theorem dX12_lays_21 : decode cX12_lays 21 = .ok (.dup, 1) := by decide +kernel
theorem dX12_lays_22 : decode cX12_lays 22 = .ok (.getfield 124, 3) := by decide +kernel
theorem dX12_lays_25 : decode cX12_lays 25 = .ok (.iconst 1, 1) := by decide +kernel
theorem dX12_lays_26 : decode cX12_lays 26 = .ok (.iadd, 1) := by decide +kernel
theorem dX12_lays_27 : decode cX12_lays 27 = .ok (.putfield 124, 3) := by decide +kernel
theorem dX12_lays_3 : decode cX12_lays 3 = .ok (.iload_n 2, 1) := by decide +kernel
theorem dX12_lays_30 : decode cX12_lays 30 = .ok (.iinc 2 (-8), 3) := by decide +kernel
theorem dX12_lays_33 : decode cX12_lays 33 = .ok (.goto (-30), 3) := by decide +kernel
theorem dX12_lays_36 : decode cX12_lays 36 = .ok (.return_, 1) := by decide +kernel
theorem dX12_lays_4 : decode cX12_lays 4 = .ok (.ifCond .lt 32, 3) := by decide +kernel
theorem dX12_lays_7 : decode cX12_lays 7 = .ok (.aload_n 0, 1) := by decide +kernel
theorem dX12_lays_8 : decode cX12_lays 8 = .ok (.getfield 13, 3) := by decide +kernel
theorem dX12_lean_0 : decode cX12_lean 0 = .ok (.aload_n 0, 1) := by decide +kernel
theorem dX12_lean_1 : decode cX12_lean 1 = .ok (.iload_n 1, 1) := by decide +kernel
theorem dX12_lean_18 : decode cX12_lean 18 = .ok (.iconst (-1), 1) := by decide +kernel
theorem dX12_lean_19 : decode cX12_lean 19 = .ok (.ireturn, 1) := by decide +kernel
theorem dX12_lean_2 : decode cX12_lean 2 = .ok (.iload_n 2, 1) := by decide +kernel
theorem dX12_lean_3 : decode cX12_lean 3 = .ok (.invokevirtual 342, 3) := by decide +kernel
theorem dX12_lean_6 : decode cX12_lean 6 = .ok (.ifCond .eq 12, 3) := by decide +kernel
theorem dX12_letters_0 : decode cX12_letters 0 = .ok (.lconst 0, 1) := by decide +kernel
theorem dX12_letters_1 : decode cX12_letters 1 = .ok (.iload_n 0, 1) := by decide +kernel
theorem dX12_letters_10 : decode cX12_letters 10 = .ok (.invokestatic 135, 3) := by decide +kernel
theorem dX12_letters_13 : decode cX12_letters 13 = .ok (.iload_n 3, 1) := by decide +kernel
theorem dX12_letters_14 : decode cX12_letters 14 = .ok (.invokestatic 135, 3) := by decide +kernel
theorem dX12_letters_17 : decode cX12_letters 17 = .ok (.iload 4, 2) := by decide +kernel
theorem dX12_letters_19 : decode cX12_letters 19 = .ok (.invokestatic 135, 3) := by decide +kernel
theorem dX12_letters_2 : decode cX12_letters 2 = .ok (.invokestatic 135, 3) := by decide +kernel
theorem dX12_letters_22 : decode cX12_letters 22 = .ok (.iload 5, 2) := by decide +kernel
theorem dX12_letters_24 : decode cX12_letters 24 = .ok (.invokestatic 135, 3) := by decide +kernel
theorem dX12_letters_27 : decode cX12_letters 27 = .ok (.iload 6, 2) := by decide +kernel
theorem dX12_letters_29 : decode cX12_letters 29 = .ok (.invokestatic 135, 3) := by decide +kernel
theorem dX12_letters_32 : decode cX12_letters 32 = .ok (.lreturn, 1) := by decide +kernel
theorem dX12_letters_5 : decode cX12_letters 5 = .ok (.iload_n 1, 1) := by decide +kernel
theorem dX12_letters_6 : decode cX12_letters 6 = .ok (.invokestatic 135, 3) := by decide +kernel
theorem dX12_letters_9 : decode cX12_letters 9 = .ok (.iload_n 2, 1) := by decide +kernel
theorem dX12_level_0 : decode cX12_level 0 = .ok (.iload_n 2, 1) := by decide +kernel
theorem dX12_level_1 : decode cX12_level 1 = .ok (.iconst 2, 1) := by decide +kernel
theorem dX12_level_10 : decode cX12_level 10 = .ok (.aload_n 0, 1) := by decide +kernel
theorem dX12_level_11 : decode cX12_level 11 = .ok (.iload_n 1, 1) := by decide +kernel
theorem dX12_level_12 : decode cX12_level 12 = .ok (.iload_n 2, 1) := by decide +kernel
theorem dX12_level_13 : decode cX12_level 13 = .ok (.invokevirtual 257, 3) := by decide +kernel
theorem dX12_level_16 : decode cX12_level 16 = .ok (.ifCond .eq 14, 3) := by decide +kernel
theorem dX12_level_2 : decode cX12_level 2 = .ok (.bipush 16, 2) := by decide +kernel
theorem dX12_level_30 : decode cX12_level 30 = .ok (.ldc_w 332, 3) := by decide +kernel
theorem dX12_level_33 : decode cX12_level 33 = .ok (.ireturn, 1) := by decide +kernel
theorem dX12_level_4 : decode cX12_level 4 = .ok (.invokestatic 244, 3) := by decide +kernel
theorem dX12_level_7 : decode cX12_level 7 = .ok (.ifCond .eq 23, 3) := by decide +kernel
theorem dX12_look_0 : decode cX12_look 0 = .ok (.aload_n 0, 1) := by decide +kernel
theorem dX12_look_1 : decode cX12_look 1 = .ok (.iload_n 1, 1) := by decide +kernel
theorem dX12_look_2 : decode cX12_look 2 = .ok (.iload_n 2, 1) := by decide +kernel
theorem dX12_look_23 : decode cX12_look 23 = .ok (.iconst (-1), 1) := by decide +kernel
theorem dX12_look_24 : decode cX12_look 24 = .ok (.ireturn, 1) := by decide +kernel
theorem dX12_look_3 : decode cX12_look 3 = .ok (.invokevirtual 342, 3) := by decide +kernel
theorem dX12_look_6 : decode cX12_look 6 = .ok (.ifCond .eq 17, 3) := by decide +kernel
theorem dX12_match_0 : decode cX12_match 0 = .ok (.aload_n 0, 1) := by decide +kernel
theorem dX12_match_1 : decode cX12_match 1 = .ok (.iload_n 1, 1) := by decide +kernel
theorem dX12_match_2 : decode cX12_match 2 = .ok (.invokevirtual 251, 3) := by decide +kernel
theorem dX12_match_21 : decode cX12_match 21 = .ok (.iconst (-1), 1) := by decide +kernel
theorem dX12_match_22 : decode cX12_match 22 = .ok (.ireturn, 1) := by decide +kernel
theorem dX12_match_5 : decode cX12_match 5 = .ok (.ifCond .eq 16, 3) := by decide +kernel
theorem dX12_mend_0 : decode cX12_mend 0 = .ok (.aload_n 0, 1) := by decide +kernel
theorem dX12_mend_1 : decode cX12_mend 1 = .ok (.iload_n 1, 1) := by decide +kernel
theorem dX12_mend_2 : decode cX12_mend 2 = .ok (.invokevirtual 248, 3) := by decide +kernel
theorem dX12_mend_36 : decode cX12_mend 36 = .ok (.sipush (-1000), 3) := by decide +kernel
theorem dX12_mend_39 : decode cX12_mend 39 = .ok (.ireturn, 1) := by decide +kernel
theorem dX12_mend_5 : decode cX12_mend 5 = .ok (.ifCond .eq 31, 3) := by decide +kernel
theorem dX12_near_0 : decode cX12_near 0 = .ok (.iload_n 2, 1) := by decide +kernel
theorem dX12_near_1 : decode cX12_near 1 = .ok (.iconst 2, 1) := by decide +kernel
theorem dX12_near_10 : decode cX12_near 10 = .ok (.aload_n 0, 1) := by decide +kernel
theorem dX12_near_11 : decode cX12_near 11 = .ok (.iload_n 1, 1) := by decide +kernel
theorem dX12_near_12 : decode cX12_near 12 = .ok (.iload_n 2, 1) := by decide +kernel
theorem dX12_near_13 : decode cX12_near 13 = .ok (.invokevirtual 257, 3) := by decide +kernel
theorem dX12_near_16 : decode cX12_near 16 = .ok (.ifCond .eq 12, 3) := by decide +kernel
theorem dX12_near_2 : decode cX12_near 2 = .ok (.bipush 16, 2) := by decide +kernel
theorem dX12_near_28 : decode cX12_near 28 = .ok (.iconst (-1), 1) := by decide +kernel
theorem dX12_near_29 : decode cX12_near 29 = .ok (.ireturn, 1) := by decide +kernel
theorem dX12_near_4 : decode cX12_near 4 = .ok (.invokestatic 244, 3) := by decide +kernel
theorem dX12_near_7 : decode cX12_near 7 = .ok (.ifCond .eq 21, 3) := by decide +kernel
theorem dX12_needs_0 : decode cX12_needs 0 = .ok (.aload_n 0, 1) := by decide +kernel
theorem dX12_needs_1 : decode cX12_needs 1 = .ok (.iload_n 1, 1) := by decide +kernel
theorem dX12_needs_10 : decode cX12_needs 10 = .ok (.ireturn, 1) := by decide +kernel
theorem dX12_needs_2 : decode cX12_needs 2 = .ok (.iload_n 2, 1) := by decide +kernel
theorem dX12_needs_3 : decode cX12_needs 3 = .ok (.invokevirtual 342, 3) := by decide +kernel
theorem dX12_needs_6 : decode cX12_needs 6 = .ok (.ifCond .ne 5, 3) := by decide +kernel
theorem dX12_needs_9 : decode cX12_needs 9 = .ok (.iconst (-1), 1) := by decide +kernel
theorem dX12_odd_0 : decode cX12_odd 0 = .ok (.iload_n 1, 1) := by decide +kernel
theorem dX12_odd_1 : decode cX12_odd 1 = .ok (.iconst 2, 1) := by decide +kernel
theorem dX12_odd_10 : decode cX12_odd 10 = .ok (.iload_n 2, 1) := by decide +kernel
theorem dX12_odd_101 : decode cX12_odd 101 = .ok (.iload 4, 2) := by decide +kernel
theorem dX12_odd_103 : decode cX12_odd 103 = .ok (.ireturn, 1) := by decide +kernel
theorem dX12_odd_11 : decode cX12_odd 11 = .ok (.iconst 0, 1) := by decide +kernel
theorem dX12_odd_12 : decode cX12_odd 12 = .ok (.iconst 1, 1) := by decide +kernel
theorem dX12_odd_13 : decode cX12_odd 13 = .ok (.invokestatic 244, 3) := by decide +kernel
theorem dX12_odd_16 : decode cX12_odd 16 = .ok (.ifCond .ne 5, 3) := by decide +kernel
theorem dX12_odd_19 : decode cX12_odd 19 = .ok (.iconst (-1), 1) := by decide +kernel
theorem dX12_odd_2 : decode cX12_odd 2 = .ok (.bipush 16, 2) := by decide +kernel
theorem dX12_odd_20 : decode cX12_odd 20 = .ok (.ireturn, 1) := by decide +kernel
theorem dX12_odd_21 : decode cX12_odd 21 = .ok (.aload_n 0, 1) := by decide +kernel
theorem dX12_odd_22 : decode cX12_odd 22 = .ok (.invokevirtual 323, 3) := by decide +kernel
theorem dX12_odd_25 : decode cX12_odd 25 = .ok (.bipush (-2), 2) := by decide +kernel
theorem dX12_odd_27 : decode cX12_odd 27 = .ok (.istore_n 3, 1) := by decide +kernel
theorem dX12_odd_28 : decode cX12_odd 28 = .ok (.bipush (-2), 2) := by decide +kernel
theorem dX12_odd_30 : decode cX12_odd 30 = .ok (.istore 4, 2) := by decide +kernel
theorem dX12_odd_32 : decode cX12_odd 32 = .ok (.iconst 0, 1) := by decide +kernel
theorem dX12_odd_33 : decode cX12_odd 33 = .ok (.istore 5, 2) := by decide +kernel
theorem dX12_odd_35 : decode cX12_odd 35 = .ok (.iload 5, 2) := by decide +kernel
theorem dX12_odd_37 : decode cX12_odd 37 = .ok (.aload_n 0, 1) := by decide +kernel
theorem dX12_odd_38 : decode cX12_odd 38 = .ok (.getfield 70, 3) := by decide +kernel
theorem dX12_odd_4 : decode cX12_odd 4 = .ok (.invokestatic 244, 3) := by decide +kernel
theorem dX12_odd_41 : decode cX12_odd 41 = .ok (.iconst 0, 1) := by decide +kernel
theorem dX12_odd_42 : decode cX12_odd 42 = .ok (.iaload, 1) := by decide +kernel
theorem dX12_odd_43 : decode cX12_odd 43 = .ok (.if_icmp .ge 50, 3) := by decide +kernel
theorem dX12_odd_7 : decode cX12_odd 7 = .ok (.ifCond .eq 12, 3) := by decide +kernel
theorem dX12_odd_93 : decode cX12_odd 93 = .ok (.iload_n 2, 1) := by decide +kernel
theorem dX12_odd_94 : decode cX12_odd 94 = .ok (.ifCond .ne 7, 3) := by decide +kernel
theorem dX12_odd_97 : decode cX12_odd 97 = .ok (.iload_n 3, 1) := by decide +kernel
theorem dX12_odd_98 : decode cX12_odd 98 = .ok (.goto 5, 3) := by decide +kernel
theorem dX12_pair_0 : decode cX12_pair 0 = .ok (.iload_n 1, 1) := by decide +kernel
theorem dX12_pair_1 : decode cX12_pair 1 = .ok (.iconst 2, 1) := by decide +kernel
theorem dX12_pair_10 : decode cX12_pair 10 = .ok (.iload_n 2, 1) := by decide +kernel
theorem dX12_pair_11 : decode cX12_pair 11 = .ok (.iconst 0, 1) := by decide +kernel
theorem dX12_pair_12 : decode cX12_pair 12 = .ok (.iconst 2, 1) := by decide +kernel
theorem dX12_pair_13 : decode cX12_pair 13 = .ok (.invokestatic 244, 3) := by decide +kernel
theorem dX12_pair_148 : decode cX12_pair 148 = .ok (.iload_n 2, 1) := by decide +kernel
theorem dX12_pair_149 : decode cX12_pair 149 = .ok (.ifCond .ne 7, 3) := by decide +kernel
theorem dX12_pair_152 : decode cX12_pair 152 = .ok (.iload_n 3, 1) := by decide +kernel
theorem dX12_pair_153 : decode cX12_pair 153 = .ok (.goto 15, 3) := by decide +kernel
theorem dX12_pair_156 : decode cX12_pair 156 = .ok (.iload_n 2, 1) := by decide +kernel
theorem dX12_pair_157 : decode cX12_pair 157 = .ok (.iconst 1, 1) := by decide +kernel
theorem dX12_pair_158 : decode cX12_pair 158 = .ok (.if_icmp .ne 8, 3) := by decide +kernel
theorem dX12_pair_16 : decode cX12_pair 16 = .ok (.ifCond .ne 5, 3) := by decide +kernel
theorem dX12_pair_161 : decode cX12_pair 161 = .ok (.iload 4, 2) := by decide +kernel
theorem dX12_pair_163 : decode cX12_pair 163 = .ok (.goto 5, 3) := by decide +kernel
theorem dX12_pair_166 : decode cX12_pair 166 = .ok (.iload 5, 2) := by decide +kernel
theorem dX12_pair_168 : decode cX12_pair 168 = .ok (.ireturn, 1) := by decide +kernel
theorem dX12_pair_19 : decode cX12_pair 19 = .ok (.iconst (-1), 1) := by decide +kernel
theorem dX12_pair_2 : decode cX12_pair 2 = .ok (.bipush 16, 2) := by decide +kernel
theorem dX12_pair_20 : decode cX12_pair 20 = .ok (.ireturn, 1) := by decide +kernel
theorem dX12_pair_21 : decode cX12_pair 21 = .ok (.aload_n 0, 1) := by decide +kernel
theorem dX12_pair_22 : decode cX12_pair 22 = .ok (.invokevirtual 323, 3) := by decide +kernel
theorem dX12_pair_25 : decode cX12_pair 25 = .ok (.bipush (-2), 2) := by decide +kernel
theorem dX12_pair_27 : decode cX12_pair 27 = .ok (.istore_n 3, 1) := by decide +kernel
theorem dX12_pair_28 : decode cX12_pair 28 = .ok (.bipush (-2), 2) := by decide +kernel
theorem dX12_pair_30 : decode cX12_pair 30 = .ok (.istore 4, 2) := by decide +kernel
theorem dX12_pair_32 : decode cX12_pair 32 = .ok (.bipush (-2), 2) := by decide +kernel
theorem dX12_pair_34 : decode cX12_pair 34 = .ok (.istore 5, 2) := by decide +kernel
theorem dX12_pair_36 : decode cX12_pair 36 = .ok (.iconst 0, 1) := by decide +kernel
theorem dX12_pair_37 : decode cX12_pair 37 = .ok (.istore 6, 2) := by decide +kernel
theorem dX12_pair_39 : decode cX12_pair 39 = .ok (.iload 6, 2) := by decide +kernel
theorem dX12_pair_4 : decode cX12_pair 4 = .ok (.invokestatic 244, 3) := by decide +kernel
theorem dX12_pair_41 : decode cX12_pair 41 = .ok (.aload_n 0, 1) := by decide +kernel
theorem dX12_pair_42 : decode cX12_pair 42 = .ok (.getfield 70, 3) := by decide +kernel
theorem dX12_pair_45 : decode cX12_pair 45 = .ok (.iconst 0, 1) := by decide +kernel
theorem dX12_pair_46 : decode cX12_pair 46 = .ok (.iaload, 1) := by decide +kernel
theorem dX12_pair_47 : decode cX12_pair 47 = .ok (.if_icmp .ge 101, 3) := by decide +kernel
theorem dX12_pair_7 : decode cX12_pair 7 = .ok (.ifCond .eq 12, 3) := by decide +kernel
theorem dX12_place_0 : decode cX12_place 0 = .ok (.aload_n 0, 1) := by decide +kernel
theorem dX12_place_1 : decode cX12_place 1 = .ok (.getfield 37, 3) := by decide +kernel
theorem dX12_place_4 : decode cX12_place 4 = .ok (.ireturn, 1) := by decide +kernel
theorem dX12_plain_0 : decode cX12_plain 0 = .ok (.aload_n 0, 1) := by decide +kernel
theorem dX12_plain_1 : decode cX12_plain 1 = .ok (.getfield 43, 3) := by decide +kernel
theorem dX12_plain_11 : decode cX12_plain 11 = .ok (.iload_n 1, 1) := by decide +kernel
theorem dX12_plain_12 : decode cX12_plain 12 = .ok (.iconst 0, 1) := by decide +kernel
theorem dX12_plain_13 : decode cX12_plain 13 = .ok (.iastore, 1) := by decide +kernel
theorem dX12_plain_14 : decode cX12_plain 14 = .ok (.aload_n 0, 1) := by decide +kernel
theorem dX12_plain_15 : decode cX12_plain 15 = .ok (.getfield 58, 3) := by decide +kernel
theorem dX12_plain_18 : decode cX12_plain 18 = .ok (.iload_n 1, 1) := by decide +kernel
theorem dX12_plain_19 : decode cX12_plain 19 = .ok (.iconst 2, 1) := by decide +kernel
theorem dX12_plain_20 : decode cX12_plain 20 = .ok (.iastore, 1) := by decide +kernel
theorem dX12_plain_21 : decode cX12_plain 21 = .ok (.aload_n 0, 1) := by decide +kernel
theorem dX12_plain_22 : decode cX12_plain 22 = .ok (.getfield 61, 3) := by decide +kernel
theorem dX12_plain_25 : decode cX12_plain 25 = .ok (.iload_n 1, 1) := by decide +kernel
theorem dX12_plain_26 : decode cX12_plain 26 = .ok (.iconst 0, 1) := by decide +kernel
theorem dX12_plain_27 : decode cX12_plain 27 = .ok (.iastore, 1) := by decide +kernel
theorem dX12_plain_28 : decode cX12_plain 28 = .ok (.aload_n 0, 1) := by decide +kernel
theorem dX12_plain_29 : decode cX12_plain 29 = .ok (.getfield 64, 3) := by decide +kernel
theorem dX12_plain_32 : decode cX12_plain 32 = .ok (.iload_n 1, 1) := by decide +kernel
theorem dX12_plain_33 : decode cX12_plain 33 = .ok (.iconst 0, 1) := by decide +kernel
theorem dX12_plain_34 : decode cX12_plain 34 = .ok (.iastore, 1) := by decide +kernel
theorem dX12_plain_35 : decode cX12_plain 35 = .ok (.aload_n 0, 1) := by decide +kernel
theorem dX12_plain_36 : decode cX12_plain 36 = .ok (.getfield 67, 3) := by decide +kernel
theorem dX12_plain_39 : decode cX12_plain 39 = .ok (.iload_n 1, 1) := by decide +kernel
theorem dX12_plain_4 : decode cX12_plain 4 = .ok (.iload_n 1, 1) := by decide +kernel
theorem dX12_plain_40 : decode cX12_plain 40 = .ok (.bipush 8, 2) := by decide +kernel
theorem dX12_plain_42 : decode cX12_plain 42 = .ok (.iastore, 1) := by decide +kernel
theorem dX12_plain_43 : decode cX12_plain 43 = .ok (.return_, 1) := by decide +kernel
theorem dX12_plain_5 : decode cX12_plain 5 = .ok (.iconst 0, 1) := by decide +kernel
theorem dX12_plain_6 : decode cX12_plain 6 = .ok (.iastore, 1) := by decide +kernel
theorem dX12_plain_7 : decode cX12_plain 7 = .ok (.aload_n 0, 1) := by decide +kernel
theorem dX12_plain_8 : decode cX12_plain 8 = .ok (.getfield 49, 3) := by decide +kernel
theorem dX12_push_0 : decode cX12_push 0 = .ok (.iload_n 1, 1) := by decide +kernel
theorem dX12_push_1 : decode cX12_push 1 = .ok (.sipush (-999), 3) := by decide +kernel
theorem dX12_push_10 : decode cX12_push 10 = .ok (.ifCond .eq 11, 3) := by decide +kernel
theorem dX12_push_13 : decode cX12_push 13 = .ok (.aload_n 0, 1) := by decide +kernel
theorem dX12_push_14 : decode cX12_push 14 = .ok (.iload_n 1, 1) := by decide +kernel
theorem dX12_push_15 : decode cX12_push 15 = .ok (.invokevirtual 329, 3) := by decide +kernel
theorem dX12_push_18 : decode cX12_push 18 = .ok (.goto 4, 3) := by decide +kernel
theorem dX12_push_21 : decode cX12_push 21 = .ok (.iconst (-1), 1) := by decide +kernel
theorem dX12_push_22 : decode cX12_push 22 = .ok (.ireturn, 1) := by decide +kernel
theorem dX12_push_4 : decode cX12_push 4 = .ok (.sipush 999, 3) := by decide +kernel
theorem dX12_push_7 : decode cX12_push 7 = .ok (.invokestatic 244, 3) := by decide +kernel
theorem dX12_query_0 : decode cX12_query 0 = .ok (.aload_n 0, 1) := by decide +kernel
theorem dX12_query_1 : decode cX12_query 1 = .ok (.iload_n 1, 1) := by decide +kernel
theorem dX12_query_2 : decode cX12_query 2 = .ok (.invokevirtual 251, 3) := by decide +kernel
theorem dX12_query_44 : decode cX12_query 44 = .ok (.sipush (-1000), 3) := by decide +kernel
theorem dX12_query_47 : decode cX12_query 47 = .ok (.ireturn, 1) := by decide +kernel
theorem dX12_query_5 : decode cX12_query 5 = .ok (.ifCond .eq 39, 3) := by decide +kernel
theorem dX12_rank_0 : decode cX12_rank 0 = .ok (.aload_n 0, 1) := by decide +kernel
theorem dX12_rank_1 : decode cX12_rank 1 = .ok (.iload_n 1, 1) := by decide +kernel
theorem dX12_rank_10 : decode cX12_rank 10 = .ok (.ireturn, 1) := by decide +kernel
theorem dX12_rank_2 : decode cX12_rank 2 = .ok (.iload_n 2, 1) := by decide +kernel
theorem dX12_rank_3 : decode cX12_rank 3 = .ok (.invokevirtual 342, 3) := by decide +kernel
theorem dX12_rank_6 : decode cX12_rank 6 = .ok (.ifCond .ne 5, 3) := by decide +kernel
theorem dX12_rank_9 : decode cX12_rank 9 = .ok (.iconst (-1), 1) := by decide +kernel
theorem dX12_read_0 : decode cX12_read 0 = .ok (.aload_n 0, 1) := by decide +kernel
theorem dX12_read_1 : decode cX12_read 1 = .ok (.aload_n 0, 1) := by decide +kernel
theorem dX12_read_10 : decode cX12_read 10 = .ok (.iload_n 1, 1) := by decide +kernel
theorem dX12_read_101 : decode cX12_read 101 = .ok (.ifCond .ne 10, 3) := by decide +kernel
theorem dX12_read_11 : decode cX12_read 11 = .ok (.aload_n 0, 1) := by decide +kernel
theorem dX12_read_111 : decode cX12_read 111 = .ok (.aload_n 0, 1) := by decide +kernel
theorem dX12_read_112 : decode cX12_read 112 = .ok (.aload_n 0, 1) := by decide +kernel
theorem dX12_read_113 : decode cX12_read 113 = .ok (.getfield 161, 3) := by decide +kernel
theorem dX12_read_116 : decode cX12_read 116 = .ok (.ifCond .le 10, 3) := by decide +kernel
theorem dX12_read_12 : decode cX12_read 12 = .ok (.getfield 130, 3) := by decide +kernel
theorem dX12_read_126 : decode cX12_read 126 = .ok (.aload_n 0, 1) := by decide +kernel
theorem dX12_read_127 : decode cX12_read 127 = .ok (.getfield 176, 3) := by decide +kernel
theorem dX12_read_130 : decode cX12_read 130 = .ok (.ifCond .le 10, 3) := by decide +kernel
theorem dX12_read_140 : decode cX12_read 140 = .ok (.iconst (-1), 1) := by decide +kernel
theorem dX12_read_141 : decode cX12_read 141 = .ok (.putfield 37, 3) := by decide +kernel
theorem dX12_read_144 : decode cX12_read 144 = .ok (.aload_n 0, 1) := by decide +kernel
theorem dX12_read_145 : decode cX12_read 145 = .ok (.aload_n 0, 1) := by decide +kernel
theorem dX12_read_146 : decode cX12_read 146 = .ok (.getfield 161, 3) := by decide +kernel
theorem dX12_read_149 : decode cX12_read 149 = .ok (.ifCond .le 10, 3) := by decide +kernel
theorem dX12_read_15 : decode cX12_read 15 = .ok (.if_icmp .ge 21, 3) := by decide +kernel
theorem dX12_read_159 : decode cX12_read 159 = .ok (.aload_n 0, 1) := by decide +kernel
theorem dX12_read_160 : decode cX12_read 160 = .ok (.getfield 176, 3) := by decide +kernel
theorem dX12_read_163 : decode cX12_read 163 = .ok (.ifCond .le 10, 3) := by decide +kernel
theorem dX12_read_173 : decode cX12_read 173 = .ok (.iconst (-1), 1) := by decide +kernel
theorem dX12_read_174 : decode cX12_read 174 = .ok (.putfield 111, 3) := by decide +kernel
theorem dX12_read_177 : decode cX12_read 177 = .ok (.aload_n 0, 1) := by decide +kernel
theorem dX12_read_178 : decode cX12_read 178 = .ok (.getfield 161, 3) := by decide +kernel
theorem dX12_read_181 : decode cX12_read 181 = .ok (.ifCond .le 8, 3) := by decide +kernel
theorem dX12_read_189 : decode cX12_read 189 = .ok (.aload_n 0, 1) := by decide +kernel
theorem dX12_read_190 : decode cX12_read 190 = .ok (.getfield 176, 3) := by decide +kernel
theorem dX12_read_193 : decode cX12_read 193 = .ok (.ifCond .le 8, 3) := by decide +kernel
theorem dX12_read_2 : decode cX12_read 2 = .ok (.getfield 124, 3) := by decide +kernel
theorem dX12_read_201 : decode cX12_read 201 = .ok (.aload_n 0, 1) := by decide +kernel
theorem dX12_read_202 : decode cX12_read 202 = .ok (.aload_n 0, 1) := by decide +kernel
theorem dX12_read_203 : decode cX12_read 203 = .ok (.getfield 200, 3) := by decide +kernel
theorem dX12_read_206 : decode cX12_read 206 = .ok (.putfield 197, 3) := by decide +kernel
theorem dX12_read_209 : decode cX12_read 209 = .ok (.aload_n 0, 1) := by decide +kernel
theorem dX12_read_210 : decode cX12_read 210 = .ok (.invokevirtual 118, 3) := by decide +kernel
theorem dX12_read_213 : decode cX12_read 213 = .ok (.aload_n 0, 1) := by decide +kernel
theorem dX12_read_214 : decode cX12_read 214 = .ok (.invokevirtual 121, 3) := by decide +kernel
theorem dX12_read_217 : decode cX12_read 217 = .ok (.aload_n 0, 1) := by decide +kernel
theorem dX12_read_218 : decode cX12_read 218 = .ok (.iconst 0, 1) := by decide +kernel
theorem dX12_read_219 : decode cX12_read 219 = .ok (.putfield 209, 3) := by decide +kernel
theorem dX12_read_222 : decode cX12_read 222 = .ok (.iconst 0, 1) := by decide +kernel
theorem dX12_read_223 : decode cX12_read 223 = .ok (.istore_n 1, 1) := by decide +kernel
theorem dX12_read_224 : decode cX12_read 224 = .ok (.iload_n 1, 1) := by decide +kernel
theorem dX12_read_225 : decode cX12_read 225 = .ok (.iconst 3, 1) := by decide +kernel
theorem dX12_read_226 : decode cX12_read 226 = .ok (.if_icmp .ge 16, 3) := by decide +kernel
theorem dX12_read_229 : decode cX12_read 229 = .ok (.aload_n 0, 1) := by decide +kernel
theorem dX12_read_230 : decode cX12_read 230 = .ok (.getfield 100, 3) := by decide +kernel
theorem dX12_read_233 : decode cX12_read 233 = .ok (.iload_n 1, 1) := by decide +kernel
theorem dX12_read_234 : decode cX12_read 234 = .ok (.iconst 0, 1) := by decide +kernel
theorem dX12_read_235 : decode cX12_read 235 = .ok (.bastore, 1) := by decide +kernel
theorem dX12_read_236 : decode cX12_read 236 = .ok (.iinc 1 1, 3) := by decide +kernel
theorem dX12_read_239 : decode cX12_read 239 = .ok (.goto (-15), 3) := by decide +kernel
theorem dX12_read_242 : decode cX12_read 242 = .ok (.iconst 0, 1) := by decide +kernel
theorem dX12_read_243 : decode cX12_read 243 = .ok (.ireturn, 1) := by decide +kernel
theorem dX12_read_36 : decode cX12_read 36 = .ok (.aload_n 0, 1) := by decide +kernel
theorem dX12_read_37 : decode cX12_read 37 = .ok (.iconst 0, 1) := by decide +kernel
theorem dX12_read_38 : decode cX12_read 38 = .ok (.putfield 124, 3) := by decide +kernel
theorem dX12_read_41 : decode cX12_read 41 = .ok (.aload_n 0, 1) := by decide +kernel
theorem dX12_read_42 : decode cX12_read 42 = .ok (.invokevirtual 194, 3) := by decide +kernel
theorem dX12_read_45 : decode cX12_read 45 = .ok (.aload_n 0, 1) := by decide +kernel
theorem dX12_read_46 : decode cX12_read 46 = .ok (.iconst 0, 1) := by decide +kernel
theorem dX12_read_47 : decode cX12_read 47 = .ok (.putfield 164, 3) := by decide +kernel
theorem dX12_read_5 : decode cX12_read 5 = .ok (.putfield 130, 3) := by decide +kernel
theorem dX12_read_50 : decode cX12_read 50 = .ok (.aload_n 0, 1) := by decide +kernel
theorem dX12_read_51 : decode cX12_read 51 = .ok (.iconst 0, 1) := by decide +kernel
theorem dX12_read_52 : decode cX12_read 52 = .ok (.putfield 161, 3) := by decide +kernel
theorem dX12_read_55 : decode cX12_read 55 = .ok (.aload_n 0, 1) := by decide +kernel
theorem dX12_read_56 : decode cX12_read 56 = .ok (.iconst 0, 1) := by decide +kernel
theorem dX12_read_57 : decode cX12_read 57 = .ok (.putfield 176, 3) := by decide +kernel
theorem dX12_read_60 : decode cX12_read 60 = .ok (.aload_n 0, 1) := by decide +kernel
theorem dX12_read_61 : decode cX12_read 61 = .ok (.bipush (-2), 2) := by decide +kernel
theorem dX12_read_63 : decode cX12_read 63 = .ok (.putfield 170, 3) := by decide +kernel
theorem dX12_read_66 : decode cX12_read 66 = .ok (.aload_n 0, 1) := by decide +kernel
theorem dX12_read_67 : decode cX12_read 67 = .ok (.iconst 1, 1) := by decide +kernel
theorem dX12_read_68 : decode cX12_read 68 = .ok (.aload_n 0, 1) := by decide +kernel
theorem dX12_read_69 : decode cX12_read 69 = .ok (.getfield 197, 3) := by decide +kernel
theorem dX12_read_72 : decode cX12_read 72 = .ok (.isub, 1) := by decide +kernel
theorem dX12_read_73 : decode cX12_read 73 = .ok (.putfield 200, 3) := by decide +kernel
theorem dX12_read_76 : decode cX12_read 76 = .ok (.aload_n 0, 1) := by decide +kernel
theorem dX12_read_77 : decode cX12_read 77 = .ok (.iconst 0, 1) := by decide +kernel
theorem dX12_read_78 : decode cX12_read 78 = .ok (.putfield 203, 3) := by decide +kernel
theorem dX12_read_8 : decode cX12_read 8 = .ok (.iconst 0, 1) := by decide +kernel
theorem dX12_read_81 : decode cX12_read 81 = .ok (.aload_n 0, 1) := by decide +kernel
theorem dX12_read_82 : decode cX12_read 82 = .ok (.aload_n 0, 1) := by decide +kernel
theorem dX12_read_83 : decode cX12_read 83 = .ok (.getfield 200, 3) := by decide +kernel
theorem dX12_read_86 : decode cX12_read 86 = .ok (.invokevirtual 107, 3) := by decide +kernel
theorem dX12_read_89 : decode cX12_read 89 = .ok (.aload_n 0, 1) := by decide +kernel
theorem dX12_read_9 : decode cX12_read 9 = .ok (.istore_n 1, 1) := by decide +kernel
theorem dX12_read_90 : decode cX12_read 90 = .ok (.getfield 161, 3) := by decide +kernel
theorem dX12_read_93 : decode cX12_read 93 = .ok (.ifCond .ne 18, 3) := by decide +kernel
theorem dX12_read_96 : decode cX12_read 96 = .ok (.aload_n 0, 1) := by decide +kernel
theorem dX12_read_97 : decode cX12_read 97 = .ok (.iconst 0, 1) := by decide +kernel
theorem dX12_read_98 : decode cX12_read 98 = .ok (.invokevirtual 188, 3) := by decide +kernel
theorem dX12_records_0 : decode cX12_records 0 = .ok (.aload_n 0, 1) := by decide +kernel
theorem dX12_records_1 : decode cX12_records 1 = .ok (.getfield 209, 3) := by decide +kernel
theorem dX12_records_100 : decode cX12_records 100 = .ok (.return_, 1) := by decide +kernel
theorem dX12_records_4 : decode cX12_records 4 = .ok (.bipush 40, 2) := by decide +kernel
theorem dX12_records_50 : decode cX12_records 50 = .ok (.iconst 0, 1) := by decide +kernel
theorem dX12_records_51 : decode cX12_records 51 = .ok (.istore_n 1, 1) := by decide +kernel
theorem dX12_records_52 : decode cX12_records 52 = .ok (.iload_n 1, 1) := by decide +kernel
theorem dX12_records_53 : decode cX12_records 53 = .ok (.sipush 165, 3) := by decide +kernel
theorem dX12_records_56 : decode cX12_records 56 = .ok (.if_icmp .ge 30, 3) := by decide +kernel
theorem dX12_records_59 : decode cX12_records 59 = .ok (.aload_n 0, 1) := by decide +kernel
theorem dX12_records_6 : decode cX12_records 6 = .ok (.if_icmp .ne 44, 3) := by decide +kernel
theorem dX12_records_60 : decode cX12_records 60 = .ok (.getfield 85, 3) := by decide +kernel
theorem dX12_records_63 : decode cX12_records 63 = .ok (.sipush 165, 3) := by decide +kernel
theorem dX12_records_66 : decode cX12_records 66 = .ok (.aload_n 0, 1) := by decide +kernel
theorem dX12_records_67 : decode cX12_records 67 = .ok (.getfield 209, 3) := by decide +kernel
theorem dX12_records_70 : decode cX12_records 70 = .ok (.imul, 1) := by decide +kernel
end
section
theorem dX12_records_71 : decode cX12_records 71 = .ok (.iload_n 1, 1) := by decide +kernel
theorem dX12_records_72 : decode cX12_records 72 = .ok (.iadd, 1) := by decide +kernel
theorem dX12_records_73 : decode cX12_records 73 = .ok (.aload_n 0, 1) := by decide +kernel
theorem dX12_records_74 : decode cX12_records 74 = .ok (.getfield 70, 3) := by decide +kernel
theorem dX12_records_77 : decode cX12_records 77 = .ok (.iload_n 1, 1) := by decide +kernel
theorem dX12_records_78 : decode cX12_records 78 = .ok (.iaload, 1) := by decide +kernel
theorem dX12_records_79 : decode cX12_records 79 = .ok (.iastore, 1) := by decide +kernel
theorem dX12_records_80 : decode cX12_records 80 = .ok (.iinc 1 1, 3) := by decide +kernel
theorem dX12_records_83 : decode cX12_records 83 = .ok (.goto (-31), 3) := by decide +kernel
theorem dX12_records_86 : decode cX12_records 86 = .ok (.aload_n 0, 1) := by decide +kernel
theorem dX12_records_87 : decode cX12_records 87 = .ok (.dup, 1) := by decide +kernel
theorem dX12_records_88 : decode cX12_records 88 = .ok (.getfield 209, 3) := by decide +kernel
theorem dX12_records_91 : decode cX12_records 91 = .ok (.iconst 1, 1) := by decide +kernel
theorem dX12_records_92 : decode cX12_records 92 = .ok (.iadd, 1) := by decide +kernel
theorem dX12_records_93 : decode cX12_records 93 = .ok (.putfield 209, 3) := by decide +kernel
theorem dX12_records_96 : decode cX12_records 96 = .ok (.aload_n 0, 1) := by decide +kernel
theorem dX12_records_97 : decode cX12_records 97 = .ok (.invokevirtual 121, 3) := by decide +kernel
theorem dX12_restore_0 : decode cX12_restore 0 = .ok (.iload_n 1, 1) := by decide +kernel
theorem dX12_restore_1 : decode cX12_restore 1 = .ok (.iconst 0, 1) := by decide +kernel
theorem dX12_restore_10 : decode cX12_restore 10 = .ok (.getfield 100, 3) := by decide +kernel
theorem dX12_restore_13 : decode cX12_restore 13 = .ok (.iload_n 1, 1) := by decide +kernel
theorem dX12_restore_14 : decode cX12_restore 14 = .ok (.baload, 1) := by decide +kernel
theorem dX12_restore_15 : decode cX12_restore 15 = .ok (.ifCond .ne 5, 3) := by decide +kernel
theorem dX12_restore_18 : decode cX12_restore 18 = .ok (.iconst 0, 1) := by decide +kernel
theorem dX12_restore_19 : decode cX12_restore 19 = .ok (.ireturn, 1) := by decide +kernel
theorem dX12_restore_2 : decode cX12_restore 2 = .ok (.iconst 2, 1) := by decide +kernel
theorem dX12_restore_3 : decode cX12_restore 3 = .ok (.invokestatic 244, 3) := by decide +kernel
theorem dX12_restore_6 : decode cX12_restore 6 = .ok (.ifCond .eq 12, 3) := by decide +kernel
theorem dX12_restore_9 : decode cX12_restore 9 = .ok (.aload_n 0, 1) := by decide +kernel
theorem dX12_search_0 : decode cX12_search 0 = .ok (.aload_n 0, 1) := by decide +kernel
theorem dX12_search_1 : decode cX12_search 1 = .ok (.iload_n 1, 1) := by decide +kernel
theorem dX12_search_18 : decode cX12_search 18 = .ok (.iconst (-1), 1) := by decide +kernel
theorem dX12_search_19 : decode cX12_search 19 = .ok (.ireturn, 1) := by decide +kernel
theorem dX12_search_2 : decode cX12_search 2 = .ok (.invokevirtual 251, 3) := by decide +kernel
theorem dX12_search_5 : decode cX12_search 5 = .ok (.ifCond .eq 13, 3) := by decide +kernel
theorem dX12_set_0 : decode cX12_set 0 = .ok (.iload_n 1, 1) := by decide +kernel
theorem dX12_set_1 : decode cX12_set 1 = .ok (.iconst 0, 1) := by decide +kernel
theorem dX12_set_10 : decode cX12_set 10 = .ok (.getfield 70, 3) := by decide +kernel
theorem dX12_set_13 : decode cX12_set 13 = .ok (.sipush 161, 3) := by decide +kernel
theorem dX12_set_16 : decode cX12_set 16 = .ok (.iload_n 1, 1) := by decide +kernel
theorem dX12_set_17 : decode cX12_set 17 = .ok (.iadd, 1) := by decide +kernel
theorem dX12_set_18 : decode cX12_set 18 = .ok (.iaload, 1) := by decide +kernel
theorem dX12_set_19 : decode cX12_set 19 = .ok (.iload_n 2, 1) := by decide +kernel
theorem dX12_set_2 : decode cX12_set 2 = .ok (.iconst 3, 1) := by decide +kernel
theorem dX12_set_20 : decode cX12_set 20 = .ok (.if_icmp .ne 5, 3) := by decide +kernel
theorem dX12_set_23 : decode cX12_set 23 = .ok (.iconst 0, 1) := by decide +kernel
theorem dX12_set_24 : decode cX12_set 24 = .ok (.ireturn, 1) := by decide +kernel
theorem dX12_set_25 : decode cX12_set 25 = .ok (.iload_n 1, 1) := by decide +kernel
theorem dX12_set_26 : decode cX12_set 26 = .ok (.iconst 3, 1) := by decide +kernel
theorem dX12_set_27 : decode cX12_set 27 = .ok (.if_icmp .ne 7, 3) := by decide +kernel
theorem dX12_set_3 : decode cX12_set 3 = .ok (.invokestatic 244, 3) := by decide +kernel
theorem dX12_set_30 : decode cX12_set 30 = .ok (.iconst 1, 1) := by decide +kernel
theorem dX12_set_31 : decode cX12_set 31 = .ok (.goto 4, 3) := by decide +kernel
theorem dX12_set_34 : decode cX12_set 34 = .ok (.iconst 0, 1) := by decide +kernel
theorem dX12_set_35 : decode cX12_set 35 = .ok (.istore_n 3, 1) := by decide +kernel
theorem dX12_set_36 : decode cX12_set 36 = .ok (.iload_n 1, 1) := by decide +kernel
theorem dX12_set_37 : decode cX12_set 37 = .ok (.ifCond .ne 8, 3) := by decide +kernel
theorem dX12_set_40 : decode cX12_set 40 = .ok (.bipush 15, 2) := by decide +kernel
theorem dX12_set_42 : decode cX12_set 42 = .ok (.goto 23, 3) := by decide +kernel
theorem dX12_set_45 : decode cX12_set 45 = .ok (.iload_n 1, 1) := by decide +kernel
theorem dX12_set_46 : decode cX12_set 46 = .ok (.iconst 1, 1) := by decide +kernel
theorem dX12_set_47 : decode cX12_set 47 = .ok (.if_icmp .ne 7, 3) := by decide +kernel
theorem dX12_set_50 : decode cX12_set 50 = .ok (.iconst 3, 1) := by decide +kernel
theorem dX12_set_51 : decode cX12_set 51 = .ok (.goto 14, 3) := by decide +kernel
theorem dX12_set_54 : decode cX12_set 54 = .ok (.iload_n 1, 1) := by decide +kernel
theorem dX12_set_55 : decode cX12_set 55 = .ok (.iconst 2, 1) := by decide +kernel
theorem dX12_set_56 : decode cX12_set 56 = .ok (.if_icmp .ne 7, 3) := by decide +kernel
theorem dX12_set_59 : decode cX12_set 59 = .ok (.iconst 1, 1) := by decide +kernel
theorem dX12_set_6 : decode cX12_set 6 = .ok (.ifCond .eq 17, 3) := by decide +kernel
theorem dX12_set_60 : decode cX12_set 60 = .ok (.goto 5, 3) := by decide +kernel
theorem dX12_set_63 : decode cX12_set 63 = .ok (.bipush 99, 2) := by decide +kernel
theorem dX12_set_65 : decode cX12_set 65 = .ok (.istore 4, 2) := by decide +kernel
theorem dX12_set_67 : decode cX12_set 67 = .ok (.iload_n 2, 1) := by decide +kernel
theorem dX12_set_68 : decode cX12_set 68 = .ok (.iload_n 3, 1) := by decide +kernel
theorem dX12_set_69 : decode cX12_set 69 = .ok (.iload 4, 2) := by decide +kernel
theorem dX12_set_71 : decode cX12_set 71 = .ok (.invokestatic 244, 3) := by decide +kernel
theorem dX12_set_74 : decode cX12_set 74 = .ok (.ifCond .ne 5, 3) := by decide +kernel
theorem dX12_set_77 : decode cX12_set 77 = .ok (.iconst 0, 1) := by decide +kernel
theorem dX12_set_78 : decode cX12_set 78 = .ok (.ireturn, 1) := by decide +kernel
theorem dX12_set_79 : decode cX12_set 79 = .ok (.aload_n 0, 1) := by decide +kernel
theorem dX12_set_80 : decode cX12_set 80 = .ok (.invokevirtual 323, 3) := by decide +kernel
theorem dX12_set_83 : decode cX12_set 83 = .ok (.aload_n 0, 1) := by decide +kernel
theorem dX12_set_84 : decode cX12_set 84 = .ok (.getfield 73, 3) := by decide +kernel
theorem dX12_set_87 : decode cX12_set 87 = .ok (.sipush 161, 3) := by decide +kernel
theorem dX12_set_9 : decode cX12_set 9 = .ok (.aload_n 0, 1) := by decide +kernel
theorem dX12_set_90 : decode cX12_set 90 = .ok (.iload_n 1, 1) := by decide +kernel
theorem dX12_set_91 : decode cX12_set 91 = .ok (.iadd, 1) := by decide +kernel
theorem dX12_set_92 : decode cX12_set 92 = .ok (.iload_n 2, 1) := by decide +kernel
theorem dX12_set_93 : decode cX12_set 93 = .ok (.iastore, 1) := by decide +kernel
theorem dX12_set_94 : decode cX12_set 94 = .ok (.aload_n 0, 1) := by decide +kernel
theorem dX12_set_95 : decode cX12_set 95 = .ok (.invokevirtual 326, 3) := by decide +kernel
theorem dX12_set_98 : decode cX12_set 98 = .ok (.iconst 1, 1) := by decide +kernel
theorem dX12_set_99 : decode cX12_set 99 = .ok (.ireturn, 1) := by decide +kernel
theorem dX12_slack_0 : decode cX12_slack 0 = .ok (.aload_n 0, 1) := by decide +kernel
theorem dX12_slack_1 : decode cX12_slack 1 = .ok (.iload_n 1, 1) := by decide +kernel
theorem dX12_slack_2 : decode cX12_slack 2 = .ok (.invokevirtual 251, 3) := by decide +kernel
theorem dX12_slack_5 : decode cX12_slack 5 = .ok (.ifCond .ne 5, 3) := by decide +kernel
theorem dX12_slack_8 : decode cX12_slack 8 = .ok (.iconst (-1), 1) := by decide +kernel
theorem dX12_slack_9 : decode cX12_slack 9 = .ok (.ireturn, 1) := by decide +kernel
theorem dX12_token_0 : decode cX12_token 0 = .ok (.aload_n 0, 1) := by decide +kernel
theorem dX12_token_1 : decode cX12_token 1 = .ok (.getfield 20, 3) := by decide +kernel
theorem dX12_token_10 : decode cX12_token 10 = .ok (.aload_n 0, 1) := by decide +kernel
theorem dX12_token_11 : decode cX12_token 11 = .ok (.getfield 24, 3) := by decide +kernel
theorem dX12_token_14 : decode cX12_token 14 = .ok (.aload_n 0, 1) := by decide +kernel
theorem dX12_token_15 : decode cX12_token 15 = .ok (.getfield 139, 3) := by decide +kernel
theorem dX12_token_18 : decode cX12_token 18 = .ok (.iload_n 2, 1) := by decide +kernel
theorem dX12_token_19 : decode cX12_token 19 = .ok (.iastore, 1) := by decide +kernel
theorem dX12_token_20 : decode cX12_token 20 = .ok (.aload_n 0, 1) := by decide +kernel
theorem dX12_token_21 : decode cX12_token 21 = .ok (.getfield 27, 3) := by decide +kernel
theorem dX12_token_24 : decode cX12_token 24 = .ok (.aload_n 0, 1) := by decide +kernel
theorem dX12_token_25 : decode cX12_token 25 = .ok (.getfield 139, 3) := by decide +kernel
theorem dX12_token_28 : decode cX12_token 28 = .ok (.iload_n 3, 1) := by decide +kernel
theorem dX12_token_29 : decode cX12_token 29 = .ok (.iastore, 1) := by decide +kernel
theorem dX12_token_30 : decode cX12_token 30 = .ok (.aload_n 0, 1) := by decide +kernel
theorem dX12_token_31 : decode cX12_token 31 = .ok (.getfield 30, 3) := by decide +kernel
theorem dX12_token_34 : decode cX12_token 34 = .ok (.aload_n 0, 1) := by decide +kernel
theorem dX12_token_35 : decode cX12_token 35 = .ok (.getfield 139, 3) := by decide +kernel
theorem dX12_token_38 : decode cX12_token 38 = .ok (.lload 4, 2) := by decide +kernel
theorem dX12_token_4 : decode cX12_token 4 = .ok (.aload_n 0, 1) := by decide +kernel
theorem dX12_token_40 : decode cX12_token 40 = .ok (.lastore, 1) := by decide +kernel
theorem dX12_token_41 : decode cX12_token 41 = .ok (.aload_n 0, 1) := by decide +kernel
theorem dX12_token_42 : decode cX12_token 42 = .ok (.dup, 1) := by decide +kernel
theorem dX12_token_43 : decode cX12_token 43 = .ok (.getfield 139, 3) := by decide +kernel
theorem dX12_token_46 : decode cX12_token 46 = .ok (.iconst 1, 1) := by decide +kernel
theorem dX12_token_47 : decode cX12_token 47 = .ok (.iadd, 1) := by decide +kernel
theorem dX12_token_48 : decode cX12_token 48 = .ok (.putfield 139, 3) := by decide +kernel
theorem dX12_token_5 : decode cX12_token 5 = .ok (.getfield 139, 3) := by decide +kernel
theorem dX12_token_51 : decode cX12_token 51 = .ok (.return_, 1) := by decide +kernel
theorem dX12_token_8 : decode cX12_token 8 = .ok (.iload_n 1, 1) := by decide +kernel
theorem dX12_token_9 : decode cX12_token 9 = .ok (.iastore, 1) := by decide +kernel
theorem dX12_turns_0 : decode cX12_turns 0 = .ok (.aload_n 0, 1) := by decide +kernel
theorem dX12_turns_1 : decode cX12_turns 1 = .ok (.iload_n 1, 1) := by decide +kernel
theorem dX12_turns_2 : decode cX12_turns 2 = .ok (.invokevirtual 251, 3) := by decide +kernel
theorem dX12_turns_5 : decode cX12_turns 5 = .ok (.ifCond .ne 5, 3) := by decide +kernel
theorem dX12_turns_8 : decode cX12_turns 8 = .ok (.iconst (-1), 1) := by decide +kernel
theorem dX12_turns_9 : decode cX12_turns 9 = .ok (.ireturn, 1) := by decide +kernel
theorem dX12_undo_0 : decode cX12_undo 0 = .ok (.aload_n 0, 1) := by decide +kernel
theorem dX12_undo_1 : decode cX12_undo 1 = .ok (.getfield 209, 3) := by decide +kernel
theorem dX12_undo_4 : decode cX12_undo 4 = .ok (.ifCond .ne 5, 3) := by decide +kernel
theorem dX12_undo_7 : decode cX12_undo 7 = .ok (.iconst 0, 1) := by decide +kernel
theorem dX12_undo_8 : decode cX12_undo 8 = .ok (.ireturn, 1) := by decide +kernel
theorem dX12_way_0 : decode cX12_way 0 = .ok (.aload_n 0, 1) := by decide +kernel
theorem dX12_way_1 : decode cX12_way 1 = .ok (.iload_n 1, 1) := by decide +kernel
theorem dX12_way_14 : decode cX12_way 14 = .ok (.iconst (-1), 1) := by decide +kernel
theorem dX12_way_15 : decode cX12_way 15 = .ok (.ireturn, 1) := by decide +kernel
theorem dX12_way_2 : decode cX12_way 2 = .ok (.iload_n 2, 1) := by decide +kernel
theorem dX12_way_3 : decode cX12_way 3 = .ok (.invokevirtual 342, 3) := by decide +kernel
theorem dX12_way_6 : decode cX12_way 6 = .ok (.ifCond .eq 8, 3) := by decide +kernel
theorem dX12_whole_0 : decode cX12_whole 0 = .ok (.iload_n 1, 1) := by decide +kernel
theorem dX12_whole_1 : decode cX12_whole 1 = .ok (.iconst 0, 1) := by decide +kernel
theorem dX12_whole_10 : decode cX12_whole 10 = .ok (.ireturn, 1) := by decide +kernel
theorem dX12_whole_11 : decode cX12_whole 11 = .ok (.bipush (-2), 2) := by decide +kernel
theorem dX12_whole_13 : decode cX12_whole 13 = .ok (.istore_n 2, 1) := by decide +kernel
theorem dX12_whole_14 : decode cX12_whole 14 = .ok (.bipush (-2), 2) := by decide +kernel
theorem dX12_whole_16 : decode cX12_whole 16 = .ok (.istore_n 3, 1) := by decide +kernel
theorem dX12_whole_17 : decode cX12_whole 17 = .ok (.iconst 0, 1) := by decide +kernel
theorem dX12_whole_18 : decode cX12_whole 18 = .ok (.istore 4, 2) := by decide +kernel
theorem dX12_whole_2 : decode cX12_whole 2 = .ok (.iconst 1, 1) := by decide +kernel
theorem dX12_whole_20 : decode cX12_whole 20 = .ok (.iload 4, 2) := by decide +kernel
theorem dX12_whole_22 : decode cX12_whole 22 = .ok (.aload_n 0, 1) := by decide +kernel
theorem dX12_whole_23 : decode cX12_whole 23 = .ok (.getfield 70, 3) := by decide +kernel
theorem dX12_whole_26 : decode cX12_whole 26 = .ok (.iconst 0, 1) := by decide +kernel
theorem dX12_whole_27 : decode cX12_whole 27 = .ok (.iaload, 1) := by decide +kernel
theorem dX12_whole_28 : decode cX12_whole 28 = .ok (.if_icmp .ge 50, 3) := by decide +kernel
theorem dX12_whole_3 : decode cX12_whole 3 = .ok (.invokestatic 244, 3) := by decide +kernel
theorem dX12_whole_6 : decode cX12_whole 6 = .ok (.ifCond .ne 5, 3) := by decide +kernel
theorem dX12_whole_78 : decode cX12_whole 78 = .ok (.iload_n 1, 1) := by decide +kernel
theorem dX12_whole_79 : decode cX12_whole 79 = .ok (.ifCond .ne 7, 3) := by decide +kernel
theorem dX12_whole_82 : decode cX12_whole 82 = .ok (.iload_n 2, 1) := by decide +kernel
theorem dX12_whole_83 : decode cX12_whole 83 = .ok (.goto 4, 3) := by decide +kernel
theorem dX12_whole_86 : decode cX12_whole 86 = .ok (.iload_n 3, 1) := by decide +kernel
theorem dX12_whole_87 : decode cX12_whole 87 = .ok (.ireturn, 1) := by decide +kernel
theorem dX12_whole_9 : decode cX12_whole 9 = .ok (.iconst (-1), 1) := by decide +kernel
theorem dX12_whose_0 : decode cX12_whose 0 = .ok (.iload_n 2, 1) := by decide +kernel
theorem dX12_whose_1 : decode cX12_whose 1 = .ok (.iconst 2, 1) := by decide +kernel
theorem dX12_whose_10 : decode cX12_whose 10 = .ok (.aload_n 0, 1) := by decide +kernel
theorem dX12_whose_11 : decode cX12_whose 11 = .ok (.iload_n 1, 1) := by decide +kernel
theorem dX12_whose_12 : decode cX12_whose 12 = .ok (.iload_n 2, 1) := by decide +kernel
theorem dX12_whose_13 : decode cX12_whose 13 = .ok (.invokevirtual 257, 3) := by decide +kernel
theorem dX12_whose_16 : decode cX12_whose 16 = .ok (.ifCond .ne 5, 3) := by decide +kernel
theorem dX12_whose_19 : decode cX12_whose 19 = .ok (.iconst (-1), 1) := by decide +kernel
theorem dX12_whose_2 : decode cX12_whose 2 = .ok (.bipush 16, 2) := by decide +kernel
theorem dX12_whose_20 : decode cX12_whose 20 = .ok (.ireturn, 1) := by decide +kernel
theorem dX12_whose_4 : decode cX12_whose 4 = .ok (.invokestatic 244, 3) := by decide +kernel
theorem dX12_whose_7 : decode cX12_whose 7 = .ok (.ifCond .eq 12, 3) := by decide +kernel
theorem dX12_window_0 : decode cX12_window 0 = .ok (.aload_n 0, 1) := by decide +kernel
theorem dX12_window_1 : decode cX12_window 1 = .ok (.iload_n 1, 1) := by decide +kernel
theorem dX12_window_12 : decode cX12_window 12 = .ok (.ireturn, 1) := by decide +kernel
theorem dX12_window_2 : decode cX12_window 2 = .ok (.iload_n 2, 1) := by decide +kernel
theorem dX12_window_3 : decode cX12_window 3 = .ok (.invokevirtual 257, 3) := by decide +kernel
theorem dX12_window_6 : decode cX12_window 6 = .ok (.ifCond .ne 7, 3) := by decide +kernel
theorem dX12_window_9 : decode cX12_window 9 = .ok (.ldc_w 332, 3) := by decide +kernel
theorem dX12_within_0 : decode cX12_within 0 = .ok (.aload_n 0, 1) := by decide +kernel
theorem dX12_within_1 : decode cX12_within 1 = .ok (.iload_n 1, 1) := by decide +kernel
theorem dX12_within_12 : decode cX12_within 12 = .ok (.iconst (-1), 1) := by decide +kernel
theorem dX12_within_13 : decode cX12_within 13 = .ok (.ireturn, 1) := by decide +kernel
theorem dX12_within_2 : decode cX12_within 2 = .ok (.invokevirtual 251, 3) := by decide +kernel
theorem dX12_within_5 : decode cX12_within 5 = .ok (.ifCond .eq 7, 3) := by decide +kernel
theorem dX1_firedBits_0 : decode cX1_firedBits 0 = .ok (.iconst 0, 1) := by decide +kernel
theorem dX1_firedBits_1 : decode cX1_firedBits 1 = .ok (.istore_n 2, 1) := by decide +kernel
theorem dX1_firedBits_12 : decode cX1_firedBits 12 = .ok (.if_icmp .ge 60, 3) := by decide +kernel
theorem dX1_firedBits_2 : decode cX1_firedBits 2 = .ok (.iconst 0, 1) := by decide +kernel
theorem dX1_firedBits_3 : decode cX1_firedBits 3 = .ok (.istore_n 3, 1) := by decide +kernel
theorem dX1_firedBits_4 : decode cX1_firedBits 4 = .ok (.iload_n 3, 1) := by decide +kernel
theorem dX1_firedBits_5 : decode cX1_firedBits 5 = .ok (.aload_n 0, 1) := by decide +kernel
theorem dX1_firedBits_6 : decode cX1_firedBits 6 = .ok (.getfield 43, 3) := by decide +kernel
theorem dX1_firedBits_72 : decode cX1_firedBits 72 = .ok (.iload_n 2, 1) := by decide +kernel
theorem dX1_firedBits_73 : decode cX1_firedBits 73 = .ok (.ireturn, 1) := by decide +kernel
theorem dX1_firedBits_9 : decode cX1_firedBits 9 = .ok (.getfield 161, 3) := by decide +kernel
theorem dX1_init_0 : decode cX1_init 0 = .ok (.aload_n 0, 1) := by decide +kernel
theorem dX1_init_1 : decode cX1_init 1 = .ok (.invokespecial 3, 3) := by decide +kernel
theorem dX1_init_12 : decode cX1_init 12 = .ok (.aload_n 0, 1) := by decide +kernel
theorem dX1_init_13 : decode cX1_init 13 = .ok (.sipush 160, 3) := by decide +kernel
theorem dX1_init_16 : decode cX1_init 16 = .ok (.newarray .int, 2) := by decide +kernel
theorem dX1_init_18 : decode cX1_init 18 = .ok (.putfield 15, 3) := by decide +kernel
theorem dX1_init_21 : decode cX1_init 21 = .ok (.aload_n 0, 1) := by decide +kernel
theorem dX1_init_22 : decode cX1_init 22 = .ok (.sipush 160, 3) := by decide +kernel
theorem dX1_init_25 : decode cX1_init 25 = .ok (.newarray .int, 2) := by decide +kernel
theorem dX1_init_27 : decode cX1_init 27 = .ok (.putfield 18, 3) := by decide +kernel
theorem dX1_init_30 : decode cX1_init 30 = .ok (.aload_n 0, 1) := by decide +kernel
theorem dX1_init_31 : decode cX1_init 31 = .ok (.sipush 160, 3) := by decide +kernel
theorem dX1_init_34 : decode cX1_init 34 = .ok (.newarray .int, 2) := by decide +kernel
theorem dX1_init_36 : decode cX1_init 36 = .ok (.putfield 21, 3) := by decide +kernel
theorem dX1_init_39 : decode cX1_init 39 = .ok (.aload_n 0, 1) := by decide +kernel
theorem dX1_init_4 : decode cX1_init 4 = .ok (.aload_n 0, 1) := by decide +kernel
theorem dX1_init_40 : decode cX1_init 40 = .ok (.sipush 160, 3) := by decide +kernel
theorem dX1_init_43 : decode cX1_init 43 = .ok (.newarray .boolean, 2) := by decide +kernel
theorem dX1_init_45 : decode cX1_init 45 = .ok (.putfield 24, 3) := by decide +kernel
theorem dX1_init_48 : decode cX1_init 48 = .ok (.aload_n 0, 1) := by decide +kernel
theorem dX1_init_49 : decode cX1_init 49 = .ok (.aload_n 1, 1) := by decide +kernel
theorem dX1_init_5 : decode cX1_init 5 = .ok (.bipush 9, 2) := by decide +kernel
theorem dX1_init_50 : decode cX1_init 50 = .ok (.putfield 28, 3) := by decide +kernel
theorem dX1_init_53 : decode cX1_init 53 = .ok (.aload_n 0, 1) := by decide +kernel
theorem dX1_init_54 : decode cX1_init 54 = .ok (.aload_n 1, 1) := by decide +kernel
theorem dX1_init_55 : decode cX1_init 55 = .ok (.getfield 32, 3) := by decide +kernel
theorem dX1_init_58 : decode cX1_init 58 = .ok (.putfield 38, 3) := by decide +kernel
theorem dX1_init_61 : decode cX1_init 61 = .ok (.aload_n 0, 1) := by decide +kernel
theorem dX1_init_62 : decode cX1_init 62 = .ok (.aload_n 1, 1) := by decide +kernel
theorem dX1_init_63 : decode cX1_init 63 = .ok (.getfield 39, 3) := by decide +kernel
theorem dX1_init_66 : decode cX1_init 66 = .ok (.putfield 43, 3) := by decide +kernel
theorem dX1_init_69 : decode cX1_init 69 = .ok (.return_, 1) := by decide +kernel
theorem dX1_init_7 : decode cX1_init 7 = .ok (.newarray .int, 2) := by decide +kernel
theorem dX1_init_9 : decode cX1_init 9 = .ok (.putfield 11, 3) := by decide +kernel
theorem dX2_init_0 : decode cX2_init 0 = .ok (.aload_n 0, 1) := by decide +kernel
theorem dX2_init_1 : decode cX2_init 1 = .ok (.invokespecial 3, 3) := by decide +kernel
theorem dX2_init_12 : decode cX2_init 12 = .ok (.aload_n 0, 1) := by decide +kernel
theorem dX2_init_13 : decode cX2_init 13 = .ok (.bipush 16, 2) := by decide +kernel
theorem dX2_init_15 : decode cX2_init 15 = .ok (.newarray .int, 2) := by decide +kernel
theorem dX2_init_17 : decode cX2_init 17 = .ok (.putfield 15, 3) := by decide +kernel
theorem dX2_init_20 : decode cX2_init 20 = .ok (.aload_n 0, 1) := by decide +kernel
theorem dX2_init_21 : decode cX2_init 21 = .ok (.sipush 256, 3) := by decide +kernel
theorem dX2_init_24 : decode cX2_init 24 = .ok (.newarray .int, 2) := by decide +kernel
theorem dX2_init_26 : decode cX2_init 26 = .ok (.putfield 18, 3) := by decide +kernel
theorem dX2_init_29 : decode cX2_init 29 = .ok (.aload_n 0, 1) := by decide +kernel
theorem dX2_init_30 : decode cX2_init 30 = .ok (.bipush 32, 2) := by decide +kernel
theorem dX2_init_32 : decode cX2_init 32 = .ok (.newarray .int, 2) := by decide +kernel
theorem dX2_init_34 : decode cX2_init 34 = .ok (.putfield 21, 3) := by decide +kernel
theorem dX2_init_37 : decode cX2_init 37 = .ok (.aload_n 0, 1) := by decide +kernel
theorem dX2_init_38 : decode cX2_init 38 = .ok (.iconst 1, 1) := by decide +kernel
theorem dX2_init_39 : decode cX2_init 39 = .ok (.putfield 24, 3) := by decide +kernel
theorem dX2_init_4 : decode cX2_init 4 = .ok (.aload_n 0, 1) := by decide +kernel
theorem dX2_init_42 : decode cX2_init 42 = .ok (.return_, 1) := by decide +kernel
theorem dX2_init_5 : decode cX2_init 5 = .ok (.bipush 16, 2) := by decide +kernel
theorem dX2_init_7 : decode cX2_init 7 = .ok (.newarray .int, 2) := by decide +kernel
theorem dX2_init_9 : decode cX2_init 9 = .ok (.putfield 9, 3) := by decide +kernel
theorem dX3_forget_0 : decode cX3_forget 0 = .ok (.aload_n 0, 1) := by decide +kernel
theorem dX3_forget_1 : decode cX3_forget 1 = .ok (.iconst 0, 1) := by decide +kernel
theorem dX3_forget_2 : decode cX3_forget 2 = .ok (.putfield 19, 3) := by decide +kernel
theorem dX3_forget_5 : decode cX3_forget 5 = .ok (.return_, 1) := by decide +kernel
theorem dX3_init_0 : decode cX3_init 0 = .ok (.aload_n 0, 1) := by decide +kernel
theorem dX3_init_1 : decode cX3_init 1 = .ok (.invokespecial 1, 3) := by decide +kernel
theorem dX3_init_12 : decode cX3_init 12 = .ok (.aload_n 0, 1) := by decide +kernel
theorem dX3_init_13 : decode cX3_init 13 = .ok (.bipush 40, 2) := by decide +kernel
theorem dX3_init_15 : decode cX3_init 15 = .ok (.newarray .int, 2) := by decide +kernel
theorem dX3_init_17 : decode cX3_init 17 = .ok (.putfield 13, 3) := by decide +kernel
theorem dX3_init_20 : decode cX3_init 20 = .ok (.aload_n 0, 1) := by decide +kernel
theorem dX3_init_21 : decode cX3_init 21 = .ok (.bipush 40, 2) := by decide +kernel
theorem dX3_init_23 : decode cX3_init 23 = .ok (.newarray .int, 2) := by decide +kernel
theorem dX3_init_25 : decode cX3_init 25 = .ok (.putfield 16, 3) := by decide +kernel
theorem dX3_init_28 : decode cX3_init 28 = .ok (.return_, 1) := by decide +kernel
theorem dX3_init_4 : decode cX3_init 4 = .ok (.aload_n 0, 1) := by decide +kernel
theorem dX3_init_5 : decode cX3_init 5 = .ok (.bipush 40, 2) := by decide +kernel
theorem dX3_init_7 : decode cX3_init 7 = .ok (.newarray .int, 2) := by decide +kernel
theorem dX3_init_9 : decode cX3_init 9 = .ok (.putfield 9, 3) := by decide +kernel
theorem dX3_note_0 : decode cX3_note 0 = .ok (.aload_n 0, 1) := by decide +kernel
theorem dX3_note_1 : decode cX3_note 1 = .ok (.getfield 23, 3) := by decide +kernel
theorem dX3_note_11 : decode cX3_note 11 = .ok (.bipush 40, 2) := by decide +kernel
theorem dX3_note_13 : decode cX3_note 13 = .ok (.if_icmp .lt 4, 3) := by decide +kernel
theorem dX3_note_17 : decode cX3_note 17 = .ok (.aload_n 0, 1) := by decide +kernel
theorem dX3_note_18 : decode cX3_note 18 = .ok (.getfield 9, 3) := by decide +kernel
theorem dX3_note_21 : decode cX3_note 21 = .ok (.aload_n 0, 1) := by decide +kernel
theorem dX3_note_22 : decode cX3_note 22 = .ok (.getfield 23, 3) := by decide +kernel
theorem dX3_note_25 : decode cX3_note 25 = .ok (.iload_n 1, 1) := by decide +kernel
theorem dX3_note_26 : decode cX3_note 26 = .ok (.iastore, 1) := by decide +kernel
theorem dX3_note_27 : decode cX3_note 27 = .ok (.aload_n 0, 1) := by decide +kernel
theorem dX3_note_28 : decode cX3_note 28 = .ok (.getfield 13, 3) := by decide +kernel
theorem dX3_note_31 : decode cX3_note 31 = .ok (.aload_n 0, 1) := by decide +kernel
theorem dX3_note_32 : decode cX3_note 32 = .ok (.getfield 23, 3) := by decide +kernel
theorem dX3_note_35 : decode cX3_note 35 = .ok (.iload_n 2, 1) := by decide +kernel
theorem dX3_note_36 : decode cX3_note 36 = .ok (.iastore, 1) := by decide +kernel
theorem dX3_note_37 : decode cX3_note 37 = .ok (.aload_n 0, 1) := by decide +kernel
theorem dX3_note_38 : decode cX3_note 38 = .ok (.getfield 16, 3) := by decide +kernel
theorem dX3_note_4 : decode cX3_note 4 = .ok (.ifCond .lt 12, 3) := by decide +kernel
theorem dX3_note_41 : decode cX3_note 41 = .ok (.aload_n 0, 1) := by decide +kernel
theorem dX3_note_42 : decode cX3_note 42 = .ok (.getfield 23, 3) := by decide +kernel
theorem dX3_note_45 : decode cX3_note 45 = .ok (.iload_n 3, 1) := by decide +kernel
theorem dX3_note_46 : decode cX3_note 46 = .ok (.iastore, 1) := by decide +kernel
theorem dX3_note_47 : decode cX3_note 47 = .ok (.aload_n 0, 1) := by decide +kernel
theorem dX3_note_48 : decode cX3_note 48 = .ok (.aload_n 0, 1) := by decide +kernel
theorem dX3_note_49 : decode cX3_note 49 = .ok (.getfield 23, 3) := by decide +kernel
theorem dX3_note_52 : decode cX3_note 52 = .ok (.bipush 39, 2) := by decide +kernel
theorem dX3_note_54 : decode cX3_note 54 = .ok (.if_icmp .ne 7, 3) := by decide +kernel
theorem dX3_note_61 : decode cX3_note 61 = .ok (.aload_n 0, 1) := by decide +kernel
theorem dX3_note_62 : decode cX3_note 62 = .ok (.getfield 23, 3) := by decide +kernel
theorem dX3_note_65 : decode cX3_note 65 = .ok (.iconst 1, 1) := by decide +kernel
theorem dX3_note_66 : decode cX3_note 66 = .ok (.iadd, 1) := by decide +kernel
theorem dX3_note_67 : decode cX3_note 67 = .ok (.putfield 23, 3) := by decide +kernel
theorem dX3_note_7 : decode cX3_note 7 = .ok (.aload_n 0, 1) := by decide +kernel
theorem dX3_note_70 : decode cX3_note 70 = .ok (.aload_n 0, 1) := by decide +kernel
theorem dX3_note_71 : decode cX3_note 71 = .ok (.aload_n 0, 1) := by decide +kernel
theorem dX3_note_72 : decode cX3_note 72 = .ok (.getfield 19, 3) := by decide +kernel
theorem dX3_note_75 : decode cX3_note 75 = .ok (.iconst 1, 1) := by decide +kernel
theorem dX3_note_76 : decode cX3_note 76 = .ok (.iadd, 1) := by decide +kernel
theorem dX3_note_77 : decode cX3_note 77 = .ok (.bipush 40, 2) := by decide +kernel
theorem dX3_note_79 : decode cX3_note 79 = .ok (.invokestatic 26, 3) := by decide +kernel
theorem dX3_note_8 : decode cX3_note 8 = .ok (.getfield 23, 3) := by decide +kernel
theorem dX3_note_82 : decode cX3_note 82 = .ok (.putfield 19, 3) := by decide +kernel
theorem dX3_note_85 : decode cX3_note 85 = .ok (.return_, 1) := by decide +kernel
theorem dX3_stepBack_0 : decode cX3_stepBack 0 = .ok (.aload_n 0, 1) := by decide +kernel
theorem dX3_stepBack_1 : decode cX3_stepBack 1 = .ok (.getfield 19, 3) := by decide +kernel
theorem dX3_stepBack_4 : decode cX3_stepBack 4 = .ok (.iconst 1, 1) := by decide +kernel
theorem dX3_stepBack_5 : decode cX3_stepBack 5 = .ok (.if_icmp .ge 5, 3) := by decide +kernel
theorem dX3_stepBack_8 : decode cX3_stepBack 8 = .ok (.iconst 0, 1) := by decide +kernel
theorem dX3_stepBack_9 : decode cX3_stepBack 9 = .ok (.ireturn, 1) := by decide +kernel
theorem dX4_has_0 : decode cX4_has 0 = .ok (.iload_n 1, 1) := by decide +kernel
theorem dX4_has_1 : decode cX4_has 1 = .ok (.ifCond .lt 20, 3) := by decide +kernel
theorem dX4_has_21 : decode cX4_has 21 = .ok (.iconst 0, 1) := by decide +kernel
theorem dX4_has_22 : decode cX4_has 22 = .ok (.ireturn, 1) := by decide +kernel
theorem dX4_has_4 : decode cX4_has 4 = .ok (.iload_n 1, 1) := by decide +kernel
theorem dX4_has_5 : decode cX4_has 5 = .ok (.aload_n 0, 1) := by decide +kernel
theorem dX4_has_6 : decode cX4_has 6 = .ok (.getfield 18, 3) := by decide +kernel
theorem dX4_has_9 : decode cX4_has 9 = .ok (.if_icmp .ge 12, 3) := by decide +kernel
theorem dX4_init_0 : decode cX4_init 0 = .ok (.aload_n 0, 1) := by decide +kernel
theorem dX4_init_1 : decode cX4_init 1 = .ok (.invokespecial 3, 3) := by decide +kernel
theorem dX4_init_12 : decode cX4_init 12 = .ok (.aload_n 0, 1) := by decide +kernel
theorem dX4_init_13 : decode cX4_init 13 = .ok (.iconst 5, 1) := by decide +kernel
theorem dX4_init_14 : decode cX4_init 14 = .ok (.newarray .int, 2) := by decide +kernel
theorem dX4_init_16 : decode cX4_init 16 = .ok (.putfield 15, 3) := by decide +kernel
theorem dX4_init_19 : decode cX4_init 19 = .ok (.return_, 1) := by decide +kernel
theorem dX4_init_4 : decode cX4_init 4 = .ok (.aload_n 0, 1) := by decide +kernel
theorem dX4_init_5 : decode cX4_init 5 = .ok (.bipush 80, 2) := by decide +kernel
theorem dX4_init_7 : decode cX4_init 7 = .ok (.newarray .int, 2) := by decide +kernel
theorem dX4_init_9 : decode cX4_init 9 = .ok (.putfield 9, 3) := by decide +kernel
theorem dX4_lengthOf_0 : decode cX4_lengthOf 0 = .ok (.aload_n 0, 1) := by decide +kernel
theorem dX4_lengthOf_1 : decode cX4_lengthOf 1 = .ok (.iload_n 1, 1) := by decide +kernel
theorem dX4_lengthOf_17 : decode cX4_lengthOf 17 = .ok (.iconst 0, 1) := by decide +kernel
theorem dX4_lengthOf_18 : decode cX4_lengthOf 18 = .ok (.ireturn, 1) := by decide +kernel
theorem dX4_lengthOf_2 : decode cX4_lengthOf 2 = .ok (.invokevirtual 22, 3) := by decide +kernel
theorem dX4_lengthOf_5 : decode cX4_lengthOf 5 = .ok (.ifCond .eq 12, 3) := by decide +kernel
theorem dX4_takeFrom_0 : decode cX4_takeFrom 0 = .ok (.aload_n 0, 1) := by decide +kernel
theorem dX4_takeFrom_1 : decode cX4_takeFrom 1 = .ok (.iconst 0, 1) := by decide +kernel
theorem dX4_takeFrom_12 : decode cX4_takeFrom 12 = .ok (.if_icmp .ge 40, 3) := by decide +kernel
theorem dX4_takeFrom_2 : decode cX4_takeFrom 2 = .ok (.putfield 18, 3) := by decide +kernel
theorem dX4_takeFrom_5 : decode cX4_takeFrom 5 = .ok (.iconst 0, 1) := by decide +kernel
theorem dX4_takeFrom_52 : decode cX4_takeFrom 52 = .ok (.return_, 1) := by decide +kernel
theorem dX4_takeFrom_6 : decode cX4_takeFrom 6 = .ok (.istore_n 2, 1) := by decide +kernel
theorem dX4_takeFrom_7 : decode cX4_takeFrom 7 = .ok (.iload_n 2, 1) := by decide +kernel
theorem dX4_takeFrom_8 : decode cX4_takeFrom 8 = .ok (.aload_n 1, 1) := by decide +kernel
theorem dX4_takeFrom_9 : decode cX4_takeFrom 9 = .ok (.getfield 18, 3) := by decide +kernel
theorem dX4_valueAt_0 : decode cX4_valueAt 0 = .ok (.iload_n 2, 1) := by decide +kernel
theorem dX4_valueAt_1 : decode cX4_valueAt 1 = .ok (.ifCond .lt 32, 3) := by decide +kernel
theorem dX4_valueAt_10 : decode cX4_valueAt 10 = .ok (.iload_n 2, 1) := by decide +kernel
theorem dX4_valueAt_11 : decode cX4_valueAt 11 = .ok (.aload_n 0, 1) := by decide +kernel
theorem dX4_valueAt_12 : decode cX4_valueAt 12 = .ok (.iload_n 1, 1) := by decide +kernel
theorem dX4_valueAt_13 : decode cX4_valueAt 13 = .ok (.invokevirtual 26, 3) := by decide +kernel
theorem dX4_valueAt_16 : decode cX4_valueAt 16 = .ok (.if_icmp .ge 17, 3) := by decide +kernel
theorem dX4_valueAt_33 : decode cX4_valueAt 33 = .ok (.sipush (-1000), 3) := by decide +kernel
theorem dX4_valueAt_36 : decode cX4_valueAt 36 = .ok (.ireturn, 1) := by decide +kernel
theorem dX4_valueAt_4 : decode cX4_valueAt 4 = .ok (.iload_n 2, 1) := by decide +kernel
theorem dX4_valueAt_5 : decode cX4_valueAt 5 = .ok (.bipush 16, 2) := by decide +kernel
theorem dX4_valueAt_7 : decode cX4_valueAt 7 = .ok (.if_icmp .ge 26, 3) := by decide +kernel
theorem dX5_begin_0 : decode cX5_begin 0 = .ok (.aload_n 0, 1) := by decide +kernel
theorem dX5_begin_1 : decode cX5_begin 1 = .ok (.getfield 12, 3) := by decide +kernel
theorem dX5_begin_11 : decode cX5_begin 11 = .ok (.iconst 0, 1) := by decide +kernel
theorem dX5_begin_12 : decode cX5_begin 12 = .ok (.putfield 84, 3) := by decide +kernel
theorem dX5_begin_15 : decode cX5_begin 15 = .ok (.aload_n 0, 1) := by decide +kernel
theorem dX5_begin_16 : decode cX5_begin 16 = .ok (.iconst 0, 1) := by decide +kernel
theorem dX5_begin_17 : decode cX5_begin 17 = .ok (.putfield 75, 3) := by decide +kernel
theorem dX5_begin_20 : decode cX5_begin 20 = .ok (.aload_n 0, 1) := by decide +kernel
theorem dX5_begin_21 : decode cX5_begin 21 = .ok (.iconst 0, 1) := by decide +kernel
theorem dX5_begin_22 : decode cX5_begin 22 = .ok (.putfield 87, 3) := by decide +kernel
theorem dX5_begin_25 : decode cX5_begin 25 = .ok (.aload_n 0, 1) := by decide +kernel
theorem dX5_begin_26 : decode cX5_begin 26 = .ok (.bipush (-2), 2) := by decide +kernel
theorem dX5_begin_28 : decode cX5_begin 28 = .ok (.putfield 32, 3) := by decide +kernel
theorem dX5_begin_31 : decode cX5_begin 31 = .ok (.aload_n 0, 1) := by decide +kernel
theorem dX5_begin_32 : decode cX5_begin 32 = .ok (.iconst 0, 1) := by decide +kernel
theorem dX5_begin_33 : decode cX5_begin 33 = .ok (.putfield 49, 3) := by decide +kernel
theorem dX5_begin_36 : decode cX5_begin 36 = .ok (.aload_n 0, 1) := by decide +kernel
theorem dX5_begin_37 : decode cX5_begin 37 = .ok (.iconst 0, 1) := by decide +kernel
theorem dX5_begin_38 : decode cX5_begin 38 = .ok (.putfield 78, 3) := by decide +kernel
theorem dX5_begin_4 : decode cX5_begin 4 = .ok (.invokevirtual 81, 3) := by decide +kernel
theorem dX5_begin_41 : decode cX5_begin 41 = .ok (.aload_n 0, 1) := by decide +kernel
theorem dX5_begin_42 : decode cX5_begin 42 = .ok (.iconst (-1), 1) := by decide +kernel
theorem dX5_begin_43 : decode cX5_begin 43 = .ok (.putfield 36, 3) := by decide +kernel
theorem dX5_begin_46 : decode cX5_begin 46 = .ok (.aload_n 0, 1) := by decide +kernel
theorem dX5_begin_47 : decode cX5_begin 47 = .ok (.iconst (-1), 1) := by decide +kernel
theorem dX5_begin_48 : decode cX5_begin 48 = .ok (.putfield 39, 3) := by decide +kernel
theorem dX5_begin_51 : decode cX5_begin 51 = .ok (.aload_n 0, 1) := by decide +kernel
theorem dX5_begin_52 : decode cX5_begin 52 = .ok (.getfield 42, 3) := by decide +kernel
theorem dX5_begin_55 : decode cX5_begin 55 = .ok (.invokevirtual 90, 3) := by decide +kernel
theorem dX5_begin_58 : decode cX5_begin 58 = .ok (.return_, 1) := by decide +kernel
theorem dX5_begin_7 : decode cX5_begin 7 = .ok (.aload_n 0, 1) := by decide +kernel
theorem dX5_begin_8 : decode cX5_begin 8 = .ok (.getfield 21, 3) := by decide +kernel
theorem dX5_init_0 : decode cX5_init 0 = .ok (.aload_n 0, 1) := by decide +kernel
theorem dX5_init_1 : decode cX5_init 1 = .ok (.invokespecial 3, 3) := by decide +kernel
theorem dX5_init_12 : decode cX5_init 12 = .ok (.putfield 12, 3) := by decide +kernel
theorem dX5_init_15 : decode cX5_init 15 = .ok (.aload_n 0, 1) := by decide +kernel
theorem dX5_init_16 : decode cX5_init 16 = .ok (.new 18, 3) := by decide +kernel
theorem dX5_init_19 : decode cX5_init 19 = .ok (.dup, 1) := by decide +kernel
theorem dX5_init_20 : decode cX5_init 20 = .ok (.invokespecial 20, 3) := by decide +kernel
theorem dX5_init_23 : decode cX5_init 23 = .ok (.putfield 21, 3) := by decide +kernel
theorem dX5_init_26 : decode cX5_init 26 = .ok (.aload_n 0, 1) := by decide +kernel
theorem dX5_init_27 : decode cX5_init 27 = .ok (.iconst 5, 1) := by decide +kernel
theorem dX5_init_28 : decode cX5_init 28 = .ok (.newarray .int, 2) := by decide +kernel
theorem dX5_init_30 : decode cX5_init 30 = .ok (.putfield 25, 3) := by decide +kernel
theorem dX5_init_33 : decode cX5_init 33 = .ok (.aload_n 0, 1) := by decide +kernel
theorem dX5_init_34 : decode cX5_init 34 = .ok (.iconst 5, 1) := by decide +kernel
theorem dX5_init_35 : decode cX5_init 35 = .ok (.newarray .int, 2) := by decide +kernel
theorem dX5_init_37 : decode cX5_init 37 = .ok (.putfield 29, 3) := by decide +kernel
theorem dX5_init_4 : decode cX5_init 4 = .ok (.aload_n 0, 1) := by decide +kernel
theorem dX5_init_40 : decode cX5_init 40 = .ok (.aload_n 0, 1) := by decide +kernel
theorem dX5_init_41 : decode cX5_init 41 = .ok (.bipush (-2), 2) := by decide +kernel
theorem dX5_init_43 : decode cX5_init 43 = .ok (.putfield 32, 3) := by decide +kernel
theorem dX5_init_46 : decode cX5_init 46 = .ok (.aload_n 0, 1) := by decide +kernel
theorem dX5_init_47 : decode cX5_init 47 = .ok (.iconst (-1), 1) := by decide +kernel
theorem dX5_init_48 : decode cX5_init 48 = .ok (.putfield 36, 3) := by decide +kernel
theorem dX5_init_5 : decode cX5_init 5 = .ok (.new 9, 3) := by decide +kernel
theorem dX5_init_51 : decode cX5_init 51 = .ok (.aload_n 0, 1) := by decide +kernel
theorem dX5_init_52 : decode cX5_init 52 = .ok (.iconst (-1), 1) := by decide +kernel
theorem dX5_init_53 : decode cX5_init 53 = .ok (.putfield 39, 3) := by decide +kernel
theorem dX5_init_56 : decode cX5_init 56 = .ok (.aload_n 0, 1) := by decide +kernel
theorem dX5_init_57 : decode cX5_init 57 = .ok (.aload_n 1, 1) := by decide +kernel
theorem dX5_init_58 : decode cX5_init 58 = .ok (.putfield 42, 3) := by decide +kernel
theorem dX5_init_61 : decode cX5_init 61 = .ok (.return_, 1) := by decide +kernel
theorem dX5_init_8 : decode cX5_init 8 = .ok (.dup, 1) := by decide +kernel
theorem dX5_init_9 : decode cX5_init 9 = .ok (.invokespecial 11, 3) := by decide +kernel
theorem dX5_readText_0 : decode cX5_readText 0 = .ok (.aload_n 0, 1) := by decide +kernel
theorem dX5_readText_1 : decode cX5_readText 1 = .ok (.invokevirtual 46, 3) := by decide +kernel
theorem dX5_readText_10 : decode cX5_readText 10 = .ok (.if_icmp .gt 67, 3) := by decide +kernel
theorem dX5_readText_100 : decode cX5_readText 100 = .ok (.ireturn, 1) := by decide +kernel
theorem dX5_readText_13 : decode cX5_readText 13 = .ok (.aload_n 0, 1) := by decide +kernel
theorem dX5_readText_14 : decode cX5_readText 14 = .ok (.getfield 49, 3) := by decide +kernel
theorem dX5_readText_17 : decode cX5_readText 17 = .ok (.ifCond .ne 60, 3) := by decide +kernel
theorem dX5_readText_20 : decode cX5_readText 20 = .ok (.aload_n 0, 1) := by decide +kernel
theorem dX5_readText_21 : decode cX5_readText 21 = .ok (.getfield 42, 3) := by decide +kernel
theorem dX5_readText_24 : decode cX5_readText 24 = .ok (.getfield 53, 3) := by decide +kernel
theorem dX5_readText_27 : decode cX5_readText 27 = .ok (.ifCond .eq 50, 3) := by decide +kernel
theorem dX5_readText_4 : decode cX5_readText 4 = .ok (.iconst 0, 1) := by decide +kernel
theorem dX5_readText_5 : decode cX5_readText 5 = .ok (.istore_n 1, 1) := by decide +kernel
theorem dX5_readText_6 : decode cX5_readText 6 = .ok (.iload_n 1, 1) := by decide +kernel
theorem dX5_readText_7 : decode cX5_readText 7 = .ok (.sipush 400, 3) := by decide +kernel
theorem dX5_readText_77 : decode cX5_readText 77 = .ok (.aload_n 0, 1) := by decide +kernel
theorem dX5_readText_78 : decode cX5_readText 78 = .ok (.getfield 49, 3) := by decide +kernel
theorem dX5_readText_81 : decode cX5_readText 81 = .ok (.ifCond .ne 15, 3) := by decide +kernel
theorem dX5_readText_84 : decode cX5_readText 84 = .ok (.aload_n 0, 1) := by decide +kernel
theorem dX5_readText_85 : decode cX5_readText 85 = .ok (.getfield 75, 3) := by decide +kernel
theorem dX5_readText_88 : decode cX5_readText 88 = .ok (.ifCond .eq 8, 3) := by decide +kernel
theorem dX5_readText_96 : decode cX5_readText 96 = .ok (.aload_n 0, 1) := by decide +kernel
theorem dX5_readText_97 : decode cX5_readText 97 = .ok (.getfield 78, 3) := by decide +kernel
theorem dX6_append_0 : decode cX6_append 0 = .ok (.aload_n 0, 1) := by decide +kernel
theorem dX6_append_1 : decode cX6_append 1 = .ok (.getfield 19, 3) := by decide +kernel
theorem dX6_append_12 : decode cX6_append 12 = .ok (.aload_n 0, 1) := by decide +kernel
theorem dX6_append_13 : decode cX6_append 13 = .ok (.getfield 11, 3) := by decide +kernel
theorem dX6_append_16 : decode cX6_append 16 = .ok (.aload_n 0, 1) := by decide +kernel
theorem dX6_append_17 : decode cX6_append 17 = .ok (.getfield 15, 3) := by decide +kernel
theorem dX6_append_20 : decode cX6_append 20 = .ok (.aload_n 0, 1) := by decide +kernel
theorem dX6_append_21 : decode cX6_append 21 = .ok (.getfield 19, 3) := by decide +kernel
theorem dX6_append_24 : decode cX6_append 24 = .ok (.iadd, 1) := by decide +kernel
theorem dX6_append_25 : decode cX6_append 25 = .ok (.sipush 255, 3) := by decide +kernel
theorem dX6_append_28 : decode cX6_append 28 = .ok (.iand, 1) := by decide +kernel
theorem dX6_append_29 : decode cX6_append 29 = .ok (.iload_n 1, 1) := by decide +kernel
theorem dX6_append_30 : decode cX6_append 30 = .ok (.iastore, 1) := by decide +kernel
theorem dX6_append_31 : decode cX6_append 31 = .ok (.aload_n 0, 1) := by decide +kernel
theorem dX6_append_32 : decode cX6_append 32 = .ok (.dup, 1) := by decide +kernel
theorem dX6_append_33 : decode cX6_append 33 = .ok (.getfield 19, 3) := by decide +kernel
theorem dX6_append_36 : decode cX6_append 36 = .ok (.iconst 1, 1) := by decide +kernel
theorem dX6_append_37 : decode cX6_append 37 = .ok (.iadd, 1) := by decide +kernel
theorem dX6_append_38 : decode cX6_append 38 = .ok (.putfield 19, 3) := by decide +kernel
theorem dX6_append_4 : decode cX6_append 4 = .ok (.sipush 160, 3) := by decide +kernel
theorem dX6_append_41 : decode cX6_append 41 = .ok (.iconst 1, 1) := by decide +kernel
theorem dX6_append_42 : decode cX6_append 42 = .ok (.ireturn, 1) := by decide +kernel
theorem dX6_append_7 : decode cX6_append 7 = .ok (.if_icmp .lt 5, 3) := by decide +kernel
theorem dX6_copyInto_0 : decode cX6_copyInto 0 = .ok (.aload_n 1, 1) := by decide +kernel
theorem dX6_copyInto_1 : decode cX6_copyInto 1 = .ok (.iconst 0, 1) := by decide +kernel
theorem dX6_copyInto_12 : decode cX6_copyInto 12 = .ok (.if_icmp .ge 18, 3) := by decide +kernel
theorem dX6_copyInto_2 : decode cX6_copyInto 2 = .ok (.putfield 22, 3) := by decide +kernel
theorem dX6_copyInto_30 : decode cX6_copyInto 30 = .ok (.return_, 1) := by decide +kernel
theorem dX6_copyInto_5 : decode cX6_copyInto 5 = .ok (.iconst 0, 1) := by decide +kernel
theorem dX6_copyInto_6 : decode cX6_copyInto 6 = .ok (.istore_n 2, 1) := by decide +kernel
theorem dX6_copyInto_7 : decode cX6_copyInto 7 = .ok (.iload_n 2, 1) := by decide +kernel
theorem dX6_copyInto_8 : decode cX6_copyInto 8 = .ok (.aload_n 0, 1) := by decide +kernel
theorem dX6_copyInto_9 : decode cX6_copyInto 9 = .ok (.getfield 19, 3) := by decide +kernel
theorem dX6_cutFirst_0 : decode cX6_cutFirst 0 = .ok (.iload_n 1, 1) := by decide +kernel
theorem dX6_cutFirst_1 : decode cX6_cutFirst 1 = .ok (.iconst 1, 1) := by decide +kernel
theorem dX6_cutFirst_10 : decode cX6_cutFirst 10 = .ok (.if_icmp .le 5, 3) := by decide +kernel
theorem dX6_cutFirst_13 : decode cX6_cutFirst 13 = .ok (.iconst 0, 1) := by decide +kernel
theorem dX6_cutFirst_14 : decode cX6_cutFirst 14 = .ok (.ireturn, 1) := by decide +kernel
theorem dX6_cutFirst_2 : decode cX6_cutFirst 2 = .ok (.if_icmp .lt 11, 3) := by decide +kernel
theorem dX6_cutFirst_5 : decode cX6_cutFirst 5 = .ok (.iload_n 1, 1) := by decide +kernel
theorem dX6_cutFirst_6 : decode cX6_cutFirst 6 = .ok (.aload_n 0, 1) := by decide +kernel
theorem dX6_cutFirst_7 : decode cX6_cutFirst 7 = .ok (.getfield 19, 3) := by decide +kernel
theorem dX6_flatWindows_0 : decode cX6_flatWindows 0 = .ok (.iconst 0, 1) := by decide +kernel
theorem dX6_flatWindows_1 : decode cX6_flatWindows 1 = .ok (.istore_n 2, 1) := by decide +kernel
theorem dX6_flatWindows_10 : decode cX6_flatWindows 10 = .ok (.getfield 19, 3) := by decide +kernel
theorem dX6_flatWindows_13 : decode cX6_flatWindows 13 = .ok (.if_icmp .ge 60, 3) := by decide +kernel
theorem dX6_flatWindows_2 : decode cX6_flatWindows 2 = .ok (.iconst 0, 1) := by decide +kernel
theorem dX6_flatWindows_3 : decode cX6_flatWindows 3 = .ok (.istore_n 3, 1) := by decide +kernel
theorem dX6_flatWindows_4 : decode cX6_flatWindows 4 = .ok (.iconst 0, 1) := by decide +kernel
theorem dX6_flatWindows_5 : decode cX6_flatWindows 5 = .ok (.istore 4, 2) := by decide +kernel
theorem dX6_flatWindows_7 : decode cX6_flatWindows 7 = .ok (.iload 4, 2) := by decide +kernel
theorem dX6_flatWindows_73 : decode cX6_flatWindows 73 = .ok (.iload_n 2, 1) := by decide +kernel
theorem dX6_flatWindows_74 : decode cX6_flatWindows 74 = .ok (.ireturn, 1) := by decide +kernel
theorem dX6_flatWindows_9 : decode cX6_flatWindows 9 = .ok (.aload_n 0, 1) := by decide +kernel
theorem dX6_gapCount_0 : decode cX6_gapCount 0 = .ok (.iconst 0, 1) := by decide +kernel
theorem dX6_gapCount_1 : decode cX6_gapCount 1 = .ok (.istore_n 1, 1) := by decide +kernel
theorem dX6_gapCount_2 : decode cX6_gapCount 2 = .ok (.iconst 0, 1) := by decide +kernel
theorem dX6_gapCount_29 : decode cX6_gapCount 29 = .ok (.iload_n 1, 1) := by decide +kernel
theorem dX6_gapCount_3 : decode cX6_gapCount 3 = .ok (.istore_n 2, 1) := by decide +kernel
theorem dX6_gapCount_30 : decode cX6_gapCount 30 = .ok (.ireturn, 1) := by decide +kernel
theorem dX6_gapCount_4 : decode cX6_gapCount 4 = .ok (.iload_n 2, 1) := by decide +kernel
theorem dX6_gapCount_5 : decode cX6_gapCount 5 = .ok (.aload_n 0, 1) := by decide +kernel
theorem dX6_gapCount_6 : decode cX6_gapCount 6 = .ok (.getfield 19, 3) := by decide +kernel
theorem dX6_gapCount_9 : decode cX6_gapCount 9 = .ok (.if_icmp .ge 20, 3) := by decide +kernel
theorem dX6_greatestOf_0 : decode cX6_greatestOf 0 = .ok (.sipush (-1000), 3) := by decide +kernel
theorem dX6_greatestOf_10 : decode cX6_greatestOf 10 = .ok (.if_icmp .ge 22, 3) := by decide +kernel
theorem dX6_greatestOf_3 : decode cX6_greatestOf 3 = .ok (.istore_n 3, 1) := by decide +kernel
theorem dX6_greatestOf_32 : decode cX6_greatestOf 32 = .ok (.iload_n 3, 1) := by decide +kernel
theorem dX6_greatestOf_33 : decode cX6_greatestOf 33 = .ok (.ireturn, 1) := by decide +kernel
theorem dX6_greatestOf_4 : decode cX6_greatestOf 4 = .ok (.iconst 0, 1) := by decide +kernel
theorem dX6_greatestOf_5 : decode cX6_greatestOf 5 = .ok (.istore 4, 2) := by decide +kernel
theorem dX6_greatestOf_7 : decode cX6_greatestOf 7 = .ok (.iload 4, 2) := by decide +kernel
theorem dX6_greatestOf_9 : decode cX6_greatestOf 9 = .ok (.iload_n 2, 1) := by decide +kernel
theorem dX6_hasWindow_0 : decode cX6_hasWindow 0 = .ok (.iload_n 1, 1) := by decide +kernel
theorem dX6_hasWindow_1 : decode cX6_hasWindow 1 = .ok (.ifCond .lt 26, 3) := by decide +kernel
theorem dX6_hasWindow_27 : decode cX6_hasWindow 27 = .ok (.iconst 0, 1) := by decide +kernel
theorem dX6_hasWindow_28 : decode cX6_hasWindow 28 = .ok (.ireturn, 1) := by decide +kernel
theorem dX6_hasWindow_4 : decode cX6_hasWindow 4 = .ok (.iload_n 1, 1) := by decide +kernel
theorem dX6_hasWindow_5 : decode cX6_hasWindow 5 = .ok (.aload_n 0, 1) := by decide +kernel
theorem dX6_hasWindow_6 : decode cX6_hasWindow 6 = .ok (.getfield 19, 3) := by decide +kernel
theorem dX6_hasWindow_9 : decode cX6_hasWindow 9 = .ok (.if_icmp .ge 18, 3) := by decide +kernel
theorem dX6_init_0 : decode cX6_init 0 = .ok (.aload_n 0, 1) := by decide +kernel
theorem dX6_init_1 : decode cX6_init 1 = .ok (.invokespecial 5, 3) := by decide +kernel
theorem dX6_init_10 : decode cX6_init 10 = .ok (.putfield 11, 3) := by decide +kernel
theorem dX6_init_13 : decode cX6_init 13 = .ok (.return_, 1) := by decide +kernel
theorem dX6_init_4 : decode cX6_init 4 = .ok (.aload_n 0, 1) := by decide +kernel
theorem dX6_init_5 : decode cX6_init 5 = .ok (.sipush 256, 3) := by decide +kernel
theorem dX6_init_8 : decode cX6_init 8 = .ok (.newarray .int, 2) := by decide +kernel
theorem dX6_leastOf_0 : decode cX6_leastOf 0 = .ok (.sipush (-1000), 3) := by decide +kernel
theorem dX6_leastOf_10 : decode cX6_leastOf 10 = .ok (.if_icmp .ge 43, 3) := by decide +kernel
theorem dX6_leastOf_3 : decode cX6_leastOf 3 = .ok (.istore_n 3, 1) := by decide +kernel
theorem dX6_leastOf_4 : decode cX6_leastOf 4 = .ok (.iconst 0, 1) := by decide +kernel
theorem dX6_leastOf_5 : decode cX6_leastOf 5 = .ok (.istore 4, 2) := by decide +kernel
theorem dX6_leastOf_53 : decode cX6_leastOf 53 = .ok (.iload_n 3, 1) := by decide +kernel
theorem dX6_leastOf_54 : decode cX6_leastOf 54 = .ok (.ireturn, 1) := by decide +kernel
theorem dX6_leastOf_7 : decode cX6_leastOf 7 = .ok (.iload 4, 2) := by decide +kernel
theorem dX6_leastOf_9 : decode cX6_leastOf 9 = .ok (.iload_n 2, 1) := by decide +kernel
theorem dX6_longestRunFirst_0 : decode cX6_longestRunFirst 0 = .ok (.bipush (-2), 2) := by decide +kernel
theorem dX6_longestRunFirst_12 : decode cX6_longestRunFirst 12 = .ok (.if_icmp .ge 27, 3) := by decide +kernel
theorem dX6_longestRunFirst_2 : decode cX6_longestRunFirst 2 = .ok (.istore_n 1, 1) := by decide +kernel
theorem dX6_longestRunFirst_3 : decode cX6_longestRunFirst 3 = .ok (.iconst 0, 1) := by decide +kernel
theorem dX6_longestRunFirst_39 : decode cX6_longestRunFirst 39 = .ok (.iload_n 1, 1) := by decide +kernel
theorem dX6_longestRunFirst_4 : decode cX6_longestRunFirst 4 = .ok (.istore_n 2, 1) := by decide +kernel
theorem dX6_longestRunFirst_40 : decode cX6_longestRunFirst 40 = .ok (.ireturn, 1) := by decide +kernel
theorem dX6_longestRunFirst_5 : decode cX6_longestRunFirst 5 = .ok (.iconst 0, 1) := by decide +kernel
theorem dX6_longestRunFirst_6 : decode cX6_longestRunFirst 6 = .ok (.istore_n 3, 1) := by decide +kernel
theorem dX6_longestRunFirst_7 : decode cX6_longestRunFirst 7 = .ok (.iload_n 3, 1) := by decide +kernel
theorem dX6_longestRunFirst_8 : decode cX6_longestRunFirst 8 = .ok (.aload_n 0, 1) := by decide +kernel
theorem dX6_longestRunFirst_9 : decode cX6_longestRunFirst 9 = .ok (.getfield 19, 3) := by decide +kernel
theorem dX6_readingsAtEnd_0 : decode cX6_readingsAtEnd 0 = .ok (.iconst 0, 1) := by decide +kernel
theorem dX6_readingsAtEnd_1 : decode cX6_readingsAtEnd 1 = .ok (.istore_n 1, 1) := by decide +kernel
theorem dX6_readingsAtEnd_10 : decode cX6_readingsAtEnd 10 = .ok (.ifCond .lt 20, 3) := by decide +kernel
theorem dX6_readingsAtEnd_2 : decode cX6_readingsAtEnd 2 = .ok (.aload_n 0, 1) := by decide +kernel
theorem dX6_readingsAtEnd_3 : decode cX6_readingsAtEnd 3 = .ok (.getfield 19, 3) := by decide +kernel
theorem dX6_readingsAtEnd_30 : decode cX6_readingsAtEnd 30 = .ok (.iload_n 1, 1) := by decide +kernel
theorem dX6_readingsAtEnd_31 : decode cX6_readingsAtEnd 31 = .ok (.ireturn, 1) := by decide +kernel
theorem dX6_readingsAtEnd_6 : decode cX6_readingsAtEnd 6 = .ok (.iconst 1, 1) := by decide +kernel
theorem dX6_readingsAtEnd_7 : decode cX6_readingsAtEnd 7 = .ok (.isub, 1) := by decide +kernel
theorem dX6_readingsAtEnd_8 : decode cX6_readingsAtEnd 8 = .ok (.istore_n 2, 1) := by decide +kernel
theorem dX6_readingsAtEnd_9 : decode cX6_readingsAtEnd 9 = .ok (.iload_n 2, 1) := by decide +kernel
theorem dX6_runFrom_0 : decode cX6_runFrom 0 = .ok (.iconst 0, 1) := by decide +kernel
theorem dX6_runFrom_1 : decode cX6_runFrom 1 = .ok (.istore_n 2, 1) := by decide +kernel
theorem dX6_runFrom_2 : decode cX6_runFrom 2 = .ok (.iload_n 1, 1) := by decide +kernel
theorem dX6_runFrom_29 : decode cX6_runFrom 29 = .ok (.iload_n 2, 1) := by decide +kernel
theorem dX6_runFrom_3 : decode cX6_runFrom 3 = .ok (.istore_n 3, 1) := by decide +kernel
theorem dX6_runFrom_30 : decode cX6_runFrom 30 = .ok (.ireturn, 1) := by decide +kernel
theorem dX6_runFrom_4 : decode cX6_runFrom 4 = .ok (.iload_n 3, 1) := by decide +kernel
theorem dX6_runFrom_5 : decode cX6_runFrom 5 = .ok (.aload_n 0, 1) := by decide +kernel
theorem dX6_runFrom_6 : decode cX6_runFrom 6 = .ok (.getfield 19, 3) := by decide +kernel
theorem dX6_runFrom_9 : decode cX6_runFrom 9 = .ok (.if_icmp .ge 20, 3) := by decide +kernel
theorem dX6_sumOf_0 : decode cX6_sumOf 0 = .ok (.iconst 0, 1) := by decide +kernel
theorem dX6_sumOf_1 : decode cX6_sumOf 1 = .ok (.istore_n 3, 1) := by decide +kernel
theorem dX6_sumOf_2 : decode cX6_sumOf 2 = .ok (.iconst 0, 1) := by decide +kernel
theorem dX6_sumOf_3 : decode cX6_sumOf 3 = .ok (.istore 4, 2) := by decide +kernel
theorem dX6_sumOf_39 : decode cX6_sumOf 39 = .ok (.iload_n 3, 1) := by decide +kernel
theorem dX6_sumOf_40 : decode cX6_sumOf 40 = .ok (.ireturn, 1) := by decide +kernel
theorem dX6_sumOf_5 : decode cX6_sumOf 5 = .ok (.iload 4, 2) := by decide +kernel
theorem dX6_sumOf_7 : decode cX6_sumOf 7 = .ok (.iload_n 2, 1) := by decide +kernel
theorem dX6_sumOf_8 : decode cX6_sumOf 8 = .ok (.if_icmp .ge 31, 3) := by decide +kernel
theorem dX6_takeFrom_0 : decode cX6_takeFrom 0 = .ok (.aload_n 0, 1) := by decide +kernel
theorem dX6_takeFrom_1 : decode cX6_takeFrom 1 = .ok (.iconst 0, 1) := by decide +kernel
theorem dX6_takeFrom_10 : decode cX6_takeFrom 10 = .ok (.iconst 0, 1) := by decide +kernel
theorem dX6_takeFrom_11 : decode cX6_takeFrom 11 = .ok (.istore_n 2, 1) := by decide +kernel
theorem dX6_takeFrom_12 : decode cX6_takeFrom 12 = .ok (.iload_n 2, 1) := by decide +kernel
theorem dX6_takeFrom_13 : decode cX6_takeFrom 13 = .ok (.aload_n 1, 1) := by decide +kernel
theorem dX6_takeFrom_14 : decode cX6_takeFrom 14 = .ok (.getfield 22, 3) := by decide +kernel
theorem dX6_takeFrom_17 : decode cX6_takeFrom 17 = .ok (.if_icmp .ge 19, 3) := by decide +kernel
theorem dX6_takeFrom_2 : decode cX6_takeFrom 2 = .ok (.putfield 15, 3) := by decide +kernel
theorem dX6_takeFrom_36 : decode cX6_takeFrom 36 = .ok (.return_, 1) := by decide +kernel
theorem dX6_takeFrom_5 : decode cX6_takeFrom 5 = .ok (.aload_n 0, 1) := by decide +kernel
theorem dX6_takeFrom_6 : decode cX6_takeFrom 6 = .ok (.iconst 0, 1) := by decide +kernel
theorem dX6_takeFrom_7 : decode cX6_takeFrom 7 = .ok (.putfield 19, 3) := by decide +kernel
theorem dX6_valueAt_0 : decode cX6_valueAt 0 = .ok (.iload_n 1, 1) := by decide +kernel
theorem dX6_valueAt_1 : decode cX6_valueAt 1 = .ok (.ifCond .lt 29, 3) := by decide +kernel
theorem dX6_valueAt_30 : decode cX6_valueAt 30 = .ok (.sipush (-1000), 3) := by decide +kernel
theorem dX6_valueAt_33 : decode cX6_valueAt 33 = .ok (.ireturn, 1) := by decide +kernel
theorem dX6_valueAt_4 : decode cX6_valueAt 4 = .ok (.iload_n 1, 1) := by decide +kernel
theorem dX6_valueAt_5 : decode cX6_valueAt 5 = .ok (.aload_n 0, 1) := by decide +kernel
theorem dX6_valueAt_6 : decode cX6_valueAt 6 = .ok (.getfield 19, 3) := by decide +kernel
theorem dX6_valueAt_9 : decode cX6_valueAt 9 = .ok (.if_icmp .ge 21, 3) := by decide +kernel
theorem dX7_allows_0 : decode cX7_allows 0 = .ok (.iload_n 0, 1) := by decide +kernel
theorem dX7_allows_1 : decode cX7_allows 1 = .ok (.ifCond .lt 41, 3) := by decide +kernel
theorem dX7_allows_12 : decode cX7_allows 12 = .ok (.iload_n 0, 1) := by decide +kernel
theorem dX7_allows_13 : decode cX7_allows 13 = .ok (.getstatic 26, 3) := by decide +kernel
theorem dX7_allows_16 : decode cX7_allows 16 = .ok (.arraylength, 1) := by decide +kernel
theorem dX7_allows_17 : decode cX7_allows 17 = .ok (.if_icmp .ge 25, 3) := by decide +kernel
theorem dX7_allows_20 : decode cX7_allows 20 = .ok (.iload_n 1, 1) := by decide +kernel
theorem dX7_allows_21 : decode cX7_allows 21 = .ok (.getstatic 23, 3) := by decide +kernel
theorem dX7_allows_24 : decode cX7_allows 24 = .ok (.iload_n 0, 1) := by decide +kernel
theorem dX7_allows_25 : decode cX7_allows 25 = .ok (.iaload, 1) := by decide +kernel
theorem dX7_allows_26 : decode cX7_allows 26 = .ok (.if_icmp .lt 16, 3) := by decide +kernel
theorem dX7_allows_29 : decode cX7_allows 29 = .ok (.iload_n 1, 1) := by decide +kernel
theorem dX7_allows_30 : decode cX7_allows 30 = .ok (.getstatic 26, 3) := by decide +kernel
theorem dX7_allows_33 : decode cX7_allows 33 = .ok (.iload_n 0, 1) := by decide +kernel
theorem dX7_allows_34 : decode cX7_allows 34 = .ok (.iaload, 1) := by decide +kernel
theorem dX7_allows_35 : decode cX7_allows 35 = .ok (.if_icmp .gt 7, 3) := by decide +kernel
theorem dX7_allows_38 : decode cX7_allows 38 = .ok (.iconst 1, 1) := by decide +kernel
theorem dX7_allows_39 : decode cX7_allows 39 = .ok (.goto 4, 3) := by decide +kernel
theorem dX7_allows_4 : decode cX7_allows 4 = .ok (.iload_n 0, 1) := by decide +kernel
theorem dX7_allows_42 : decode cX7_allows 42 = .ok (.iconst 0, 1) := by decide +kernel
theorem dX7_allows_43 : decode cX7_allows 43 = .ok (.ireturn, 1) := by decide +kernel
theorem dX7_allows_5 : decode cX7_allows 5 = .ok (.getstatic 23, 3) := by decide +kernel
theorem dX7_allows_8 : decode cX7_allows 8 = .ok (.arraylength, 1) := by decide +kernel
theorem dX7_allows_9 : decode cX7_allows 9 = .ok (.if_icmp .ge 33, 3) := by decide +kernel
theorem dX7_clear_0 : decode cX7_clear 0 = .ok (.iconst 0, 1) := by decide +kernel
theorem dX7_clear_1 : decode cX7_clear 1 = .ok (.istore_n 1, 1) := by decide +kernel
theorem dX7_clear_10 : decode cX7_clear 10 = .ok (.aload_n 0, 1) := by decide +kernel
theorem dX7_clear_11 : decode cX7_clear 11 = .ok (.iload_n 1, 1) := by decide +kernel
theorem dX7_clear_12 : decode cX7_clear 12 = .ok (.getstatic 9, 3) := by decide +kernel
theorem dX7_clear_15 : decode cX7_clear 15 = .ok (.iload_n 1, 1) := by decide +kernel
theorem dX7_clear_16 : decode cX7_clear 16 = .ok (.iaload, 1) := by decide +kernel
theorem dX7_clear_17 : decode cX7_clear 17 = .ok (.invokevirtual 29, 3) := by decide +kernel
theorem dX7_clear_2 : decode cX7_clear 2 = .ok (.iload_n 1, 1) := by decide +kernel
theorem dX7_clear_20 : decode cX7_clear 20 = .ok (.iinc 1 1, 3) := by decide +kernel
theorem dX7_clear_23 : decode cX7_clear 23 = .ok (.goto (-21), 3) := by decide +kernel
theorem dX7_clear_26 : decode cX7_clear 26 = .ok (.return_, 1) := by decide +kernel
theorem dX7_clear_3 : decode cX7_clear 3 = .ok (.getstatic 9, 3) := by decide +kernel
theorem dX7_clear_6 : decode cX7_clear 6 = .ok (.arraylength, 1) := by decide +kernel
theorem dX7_clear_7 : decode cX7_clear 7 = .ok (.if_icmp .ge 19, 3) := by decide +kernel
theorem dX7_init_0 : decode cX7_init 0 = .ok (.aload_n 0, 1) := by decide +kernel
theorem dX7_init_1 : decode cX7_init 1 = .ok (.invokespecial 3, 3) := by decide +kernel
theorem dX7_init_11 : decode cX7_init 11 = .ok (.checkcast 16, 3) := by decide +kernel
theorem dX7_init_14 : decode cX7_init 14 = .ok (.putfield 20, 3) := by decide +kernel
theorem dX7_init_17 : decode cX7_init 17 = .ok (.return_, 1) := by decide +kernel
theorem dX7_init_4 : decode cX7_init 4 = .ok (.aload_n 0, 1) := by decide +kernel
theorem dX7_init_5 : decode cX7_init 5 = .ok (.getstatic 9, 3) := by decide +kernel
theorem dX7_init_8 : decode cX7_init 8 = .ok (.invokevirtual 15, 3) := by decide +kernel
theorem dX7_put_0 : decode cX7_put 0 = .ok (.iload_n 1, 1) := by decide +kernel
theorem dX7_put_1 : decode cX7_put 1 = .ok (.ifCond .lt 19, 3) := by decide +kernel
theorem dX7_put_10 : decode cX7_put 10 = .ok (.if_icmp .ge 10, 3) := by decide +kernel
theorem dX7_put_13 : decode cX7_put 13 = .ok (.aload_n 0, 1) := by decide +kernel
theorem dX7_put_14 : decode cX7_put 14 = .ok (.getfield 20, 3) := by decide +kernel
theorem dX7_put_17 : decode cX7_put 17 = .ok (.iload_n 1, 1) := by decide +kernel
theorem dX7_put_18 : decode cX7_put 18 = .ok (.iload_n 2, 1) := by decide +kernel
theorem dX7_put_19 : decode cX7_put 19 = .ok (.iastore, 1) := by decide +kernel
theorem dX7_put_20 : decode cX7_put 20 = .ok (.return_, 1) := by decide +kernel
theorem dX7_put_4 : decode cX7_put 4 = .ok (.iload_n 1, 1) := by decide +kernel
theorem dX7_put_5 : decode cX7_put 5 = .ok (.aload_n 0, 1) := by decide +kernel
theorem dX7_put_6 : decode cX7_put 6 = .ok (.getfield 20, 3) := by decide +kernel
theorem dX7_put_9 : decode cX7_put 9 = .ok (.arraylength, 1) := by decide +kernel
theorem dX7_takeFrom_0 : decode cX7_takeFrom 0 = .ok (.iconst 0, 1) := by decide +kernel
theorem dX7_takeFrom_1 : decode cX7_takeFrom 1 = .ok (.istore_n 2, 1) := by decide +kernel
theorem dX7_takeFrom_11 : decode cX7_takeFrom 11 = .ok (.aload_n 0, 1) := by decide +kernel
theorem dX7_takeFrom_12 : decode cX7_takeFrom 12 = .ok (.getfield 20, 3) := by decide +kernel
theorem dX7_takeFrom_15 : decode cX7_takeFrom 15 = .ok (.iload_n 2, 1) := by decide +kernel
theorem dX7_takeFrom_16 : decode cX7_takeFrom 16 = .ok (.aload_n 1, 1) := by decide +kernel
theorem dX7_takeFrom_17 : decode cX7_takeFrom 17 = .ok (.iload_n 2, 1) := by decide +kernel
theorem dX7_takeFrom_18 : decode cX7_takeFrom 18 = .ok (.invokevirtual 33, 3) := by decide +kernel
theorem dX7_takeFrom_2 : decode cX7_takeFrom 2 = .ok (.iload_n 2, 1) := by decide +kernel
theorem dX7_takeFrom_21 : decode cX7_takeFrom 21 = .ok (.iastore, 1) := by decide +kernel
theorem dX7_takeFrom_22 : decode cX7_takeFrom 22 = .ok (.iinc 2 1, 3) := by decide +kernel
theorem dX7_takeFrom_25 : decode cX7_takeFrom 25 = .ok (.goto (-23), 3) := by decide +kernel
theorem dX7_takeFrom_28 : decode cX7_takeFrom 28 = .ok (.return_, 1) := by decide +kernel
theorem dX7_takeFrom_3 : decode cX7_takeFrom 3 = .ok (.aload_n 0, 1) := by decide +kernel
theorem dX7_takeFrom_4 : decode cX7_takeFrom 4 = .ok (.getfield 20, 3) := by decide +kernel
theorem dX7_takeFrom_7 : decode cX7_takeFrom 7 = .ok (.arraylength, 1) := by decide +kernel
theorem dX7_takeFrom_8 : decode cX7_takeFrom 8 = .ok (.if_icmp .ge 20, 3) := by decide +kernel
theorem dX7_valueOf_0 : decode cX7_valueOf 0 = .ok (.iload_n 1, 1) := by decide +kernel
theorem dX7_valueOf_1 : decode cX7_valueOf 1 = .ok (.ifCond .lt 21, 3) := by decide +kernel
theorem dX7_valueOf_10 : decode cX7_valueOf 10 = .ok (.if_icmp .ge 12, 3) := by decide +kernel
theorem dX7_valueOf_13 : decode cX7_valueOf 13 = .ok (.aload_n 0, 1) := by decide +kernel
theorem dX7_valueOf_14 : decode cX7_valueOf 14 = .ok (.getfield 20, 3) := by decide +kernel
theorem dX7_valueOf_17 : decode cX7_valueOf 17 = .ok (.iload_n 1, 1) := by decide +kernel
theorem dX7_valueOf_18 : decode cX7_valueOf 18 = .ok (.iaload, 1) := by decide +kernel
theorem dX7_valueOf_19 : decode cX7_valueOf 19 = .ok (.goto 4, 3) := by decide +kernel
theorem dX7_valueOf_22 : decode cX7_valueOf 22 = .ok (.iconst (-1), 1) := by decide +kernel
theorem dX7_valueOf_23 : decode cX7_valueOf 23 = .ok (.ireturn, 1) := by decide +kernel
theorem dX7_valueOf_4 : decode cX7_valueOf 4 = .ok (.iload_n 1, 1) := by decide +kernel
theorem dX7_valueOf_5 : decode cX7_valueOf 5 = .ok (.aload_n 0, 1) := by decide +kernel
theorem dX7_valueOf_6 : decode cX7_valueOf 6 = .ok (.getfield 20, 3) := by decide +kernel
theorem dX7_valueOf_9 : decode cX7_valueOf 9 = .ok (.arraylength, 1) := by decide +kernel
theorem dX8_clear_0 : decode cX8_clear 0 = .ok (.aload_n 0, 1) := by decide +kernel
theorem dX8_clear_1 : decode cX8_clear 1 = .ok (.iconst 0, 1) := by decide +kernel
theorem dX8_clear_12 : decode cX8_clear 12 = .ok (.return_, 1) := by decide +kernel
theorem dX8_clear_2 : decode cX8_clear 2 = .ok (.putfield 22, 3) := by decide +kernel
theorem dX8_clear_5 : decode cX8_clear 5 = .ok (.aload_n 0, 1) := by decide +kernel
theorem dX8_clear_6 : decode cX8_clear 6 = .ok (.getfield 18, 3) := by decide +kernel
theorem dX8_clear_9 : decode cX8_clear 9 = .ok (.invokevirtual 26, 3) := by decide +kernel
theorem dX8_init_0 : decode cX8_init 0 = .ok (.aload_n 0, 1) := by decide +kernel
theorem dX8_init_1 : decode cX8_init 1 = .ok (.invokespecial 3, 3) := by decide +kernel
theorem dX8_init_10 : decode cX8_init 10 = .ok (.putfield 9, 3) := by decide +kernel
theorem dX8_init_13 : decode cX8_init 13 = .ok (.aload_n 0, 1) := by decide +kernel
theorem dX8_init_14 : decode cX8_init 14 = .ok (.new 15, 3) := by decide +kernel
theorem dX8_init_17 : decode cX8_init 17 = .ok (.dup, 1) := by decide +kernel
theorem dX8_init_18 : decode cX8_init 18 = .ok (.invokespecial 17, 3) := by decide +kernel
theorem dX8_init_21 : decode cX8_init 21 = .ok (.putfield 18, 3) := by decide +kernel
theorem dX8_init_24 : decode cX8_init 24 = .ok (.return_, 1) := by decide +kernel
theorem dX8_init_4 : decode cX8_init 4 = .ok (.aload_n 0, 1) := by decide +kernel
theorem dX8_init_5 : decode cX8_init 5 = .ok (.sipush 160, 3) := by decide +kernel
theorem dX8_init_8 : decode cX8_init 8 = .ok (.newarray .int, 2) := by decide +kernel
theorem dX9_bringAll_0 : decode cX9_bringAll 0 = .ok (.iconst 0, 1) := by decide +kernel
theorem dX9_bringAll_1 : decode cX9_bringAll 1 = .ok (.istore_n 2, 1) := by decide +kernel
theorem dX9_bringAll_10 : decode cX9_bringAll 10 = .ok (.getfield 15, 3) := by decide +kernel
theorem dX9_bringAll_13 : decode cX9_bringAll 13 = .ok (.iload_n 2, 1) := by decide +kernel
theorem dX9_bringAll_14 : decode cX9_bringAll 14 = .ok (.aload_n 0, 1) := by decide +kernel
theorem dX9_bringAll_15 : decode cX9_bringAll 15 = .ok (.getfield 19, 3) := by decide +kernel
theorem dX9_bringAll_18 : decode cX9_bringAll 18 = .ok (.getfield 30, 3) := by decide +kernel
theorem dX9_bringAll_2 : decode cX9_bringAll 2 = .ok (.iload_n 2, 1) := by decide +kernel
theorem dX9_bringAll_21 : decode cX9_bringAll 21 = .ok (.iload_n 2, 1) := by decide +kernel
theorem dX9_bringAll_22 : decode cX9_bringAll 22 = .ok (.iload_n 1, 1) := by decide +kernel
theorem dX9_bringAll_23 : decode cX9_bringAll 23 = .ok (.invokevirtual 34, 3) := by decide +kernel
theorem dX9_bringAll_26 : decode cX9_bringAll 26 = .ok (.bastore, 1) := by decide +kernel
theorem dX9_bringAll_27 : decode cX9_bringAll 27 = .ok (.aload_n 0, 1) := by decide +kernel
theorem dX9_bringAll_28 : decode cX9_bringAll 28 = .ok (.getfield 15, 3) := by decide +kernel
theorem dX9_bringAll_3 : decode cX9_bringAll 3 = .ok (.sipush 160, 3) := by decide +kernel
theorem dX9_bringAll_31 : decode cX9_bringAll 31 = .ok (.iload_n 2, 1) := by decide +kernel
theorem dX9_bringAll_32 : decode cX9_bringAll 32 = .ok (.baload, 1) := by decide +kernel
theorem dX9_bringAll_33 : decode cX9_bringAll 33 = .ok (.ifCond .eq 27, 3) := by decide +kernel
theorem dX9_bringAll_6 : decode cX9_bringAll 6 = .ok (.if_icmp .ge 60, 3) := by decide +kernel
theorem dX9_bringAll_60 : decode cX9_bringAll 60 = .ok (.iinc 2 1, 3) := by decide +kernel
theorem dX9_bringAll_63 : decode cX9_bringAll 63 = .ok (.goto (-61), 3) := by decide +kernel
theorem dX9_bringAll_66 : decode cX9_bringAll 66 = .ok (.return_, 1) := by decide +kernel
theorem dX9_bringAll_9 : decode cX9_bringAll 9 = .ok (.aload_n 0, 1) := by decide +kernel
theorem dX9_findOdd_0 : decode cX9_findOdd 0 = .ok (.aload_n 0, 1) := by decide +kernel
theorem dX9_findOdd_1 : decode cX9_findOdd 1 = .ok (.bipush (-2), 2) := by decide +kernel
theorem dX9_findOdd_12 : decode cX9_findOdd 12 = .ok (.aload_n 0, 1) := by decide +kernel
theorem dX9_findOdd_13 : decode cX9_findOdd 13 = .ok (.iload_n 1, 1) := by decide +kernel
theorem dX9_findOdd_14 : decode cX9_findOdd 14 = .ok (.invokevirtual 50, 3) := by decide +kernel
theorem dX9_findOdd_17 : decode cX9_findOdd 17 = .ok (.iconst 0, 1) := by decide +kernel
theorem dX9_findOdd_18 : decode cX9_findOdd 18 = .ok (.istore_n 2, 1) := by decide +kernel
theorem dX9_findOdd_19 : decode cX9_findOdd 19 = .ok (.iload_n 2, 1) := by decide +kernel
theorem dX9_findOdd_20 : decode cX9_findOdd 20 = .ok (.sipush 160, 3) := by decide +kernel
theorem dX9_findOdd_23 : decode cX9_findOdd 23 = .ok (.if_icmp .ge 62, 3) := by decide +kernel
theorem dX9_findOdd_26 : decode cX9_findOdd 26 = .ok (.aload_n 0, 1) := by decide +kernel
theorem dX9_findOdd_27 : decode cX9_findOdd 27 = .ok (.getfield 15, 3) := by decide +kernel
theorem dX9_findOdd_3 : decode cX9_findOdd 3 = .ok (.putfield 98, 3) := by decide +kernel
theorem dX9_findOdd_30 : decode cX9_findOdd 30 = .ok (.iload_n 2, 1) := by decide +kernel
theorem dX9_findOdd_31 : decode cX9_findOdd 31 = .ok (.baload, 1) := by decide +kernel
theorem dX9_findOdd_32 : decode cX9_findOdd 32 = .ok (.ifCond .ne 6, 3) := by decide +kernel
theorem dX9_findOdd_35 : decode cX9_findOdd 35 = .ok (.goto 44, 3) := by decide +kernel
theorem dX9_findOdd_6 : decode cX9_findOdd 6 = .ok (.aload_n 0, 1) := by decide +kernel
theorem dX9_findOdd_7 : decode cX9_findOdd 7 = .ok (.bipush (-2), 2) := by decide +kernel
theorem dX9_findOdd_79 : decode cX9_findOdd 79 = .ok (.iinc 2 1, 3) := by decide +kernel
theorem dX9_findOdd_82 : decode cX9_findOdd 82 = .ok (.goto (-63), 3) := by decide +kernel
theorem dX9_findOdd_85 : decode cX9_findOdd 85 = .ok (.return_, 1) := by decide +kernel
theorem dX9_findOdd_9 : decode cX9_findOdd 9 = .ok (.putfield 101, 3) := by decide +kernel
theorem dX9_findPair_0 : decode cX9_findPair 0 = .ok (.aload_n 0, 1) := by decide +kernel
theorem dX9_findPair_1 : decode cX9_findPair 1 = .ok (.bipush (-2), 2) := by decide +kernel
theorem dX9_findPair_12 : decode cX9_findPair 12 = .ok (.aload_n 0, 1) := by decide +kernel
theorem dX9_findPair_13 : decode cX9_findPair 13 = .ok (.bipush (-2), 2) := by decide +kernel
theorem dX9_findPair_15 : decode cX9_findPair 15 = .ok (.putfield 92, 3) := by decide +kernel
theorem dX9_findPair_18 : decode cX9_findPair 18 = .ok (.aload_n 0, 1) := by decide +kernel
theorem dX9_findPair_19 : decode cX9_findPair 19 = .ok (.iload_n 1, 1) := by decide +kernel
theorem dX9_findPair_20 : decode cX9_findPair 20 = .ok (.invokevirtual 50, 3) := by decide +kernel
theorem dX9_findPair_23 : decode cX9_findPair 23 = .ok (.iconst 0, 1) := by decide +kernel
theorem dX9_findPair_24 : decode cX9_findPair 24 = .ok (.istore_n 2, 1) := by decide +kernel
theorem dX9_findPair_25 : decode cX9_findPair 25 = .ok (.iload_n 2, 1) := by decide +kernel
theorem dX9_findPair_26 : decode cX9_findPair 26 = .ok (.sipush 160, 3) := by decide +kernel
theorem dX9_findPair_29 : decode cX9_findPair 29 = .ok (.if_icmp .ge 39, 3) := by decide +kernel
theorem dX9_findPair_3 : decode cX9_findPair 3 = .ok (.putfield 86, 3) := by decide +kernel
theorem dX9_findPair_32 : decode cX9_findPair 32 = .ok (.aload_n 0, 1) := by decide +kernel
theorem dX9_findPair_33 : decode cX9_findPair 33 = .ok (.getfield 15, 3) := by decide +kernel
theorem dX9_findPair_36 : decode cX9_findPair 36 = .ok (.iload_n 2, 1) := by decide +kernel
theorem dX9_findPair_37 : decode cX9_findPair 37 = .ok (.baload, 1) := by decide +kernel
theorem dX9_findPair_38 : decode cX9_findPair 38 = .ok (.ifCond .eq 24, 3) := by decide +kernel
theorem dX9_findPair_6 : decode cX9_findPair 6 = .ok (.aload_n 0, 1) := by decide +kernel
theorem dX9_findPair_62 : decode cX9_findPair 62 = .ok (.iinc 2 1, 3) := by decide +kernel
theorem dX9_findPair_65 : decode cX9_findPair 65 = .ok (.goto (-40), 3) := by decide +kernel
theorem dX9_findPair_68 : decode cX9_findPair 68 = .ok (.return_, 1) := by decide +kernel
theorem dX9_findPair_7 : decode cX9_findPair 7 = .ok (.bipush (-2), 2) := by decide +kernel
theorem dX9_findPair_9 : decode cX9_findPair 9 = .ok (.putfield 89, 3) := by decide +kernel
theorem dX9_init_0 : decode cX9_init 0 = .ok (.aload_n 0, 1) := by decide +kernel
theorem dX9_init_1 : decode cX9_init 1 = .ok (.invokespecial 3, 3) := by decide +kernel
theorem dX9_init_10 : decode cX9_init 10 = .ok (.putfield 9, 3) := by decide +kernel
theorem dX9_init_13 : decode cX9_init 13 = .ok (.aload_n 0, 1) := by decide +kernel
theorem dX9_init_14 : decode cX9_init 14 = .ok (.sipush 160, 3) := by decide +kernel
theorem dX9_init_17 : decode cX9_init 17 = .ok (.newarray .boolean, 2) := by decide +kernel
theorem dX9_init_19 : decode cX9_init 19 = .ok (.putfield 15, 3) := by decide +kernel
theorem dX9_init_22 : decode cX9_init 22 = .ok (.aload_n 0, 1) := by decide +kernel
theorem dX9_init_23 : decode cX9_init 23 = .ok (.aload_n 1, 1) := by decide +kernel
theorem dX9_init_24 : decode cX9_init 24 = .ok (.putfield 19, 3) := by decide +kernel
theorem dX9_init_27 : decode cX9_init 27 = .ok (.aload_n 0, 1) := by decide +kernel
theorem dX9_init_28 : decode cX9_init 28 = .ok (.aload_n 1, 1) := by decide +kernel
theorem dX9_init_29 : decode cX9_init 29 = .ok (.getfield 23, 3) := by decide +kernel
theorem dX9_init_32 : decode cX9_init 32 = .ok (.putfield 29, 3) := by decide +kernel
theorem dX9_init_35 : decode cX9_init 35 = .ok (.return_, 1) := by decide +kernel
theorem dX9_init_4 : decode cX9_init 4 = .ok (.aload_n 0, 1) := by decide +kernel
theorem dX9_init_5 : decode cX9_init 5 = .ok (.sipush 2560, 3) := by decide +kernel
theorem dX9_init_8 : decode cX9_init 8 = .ok (.newarray .int, 2) := by decide +kernel
end
section
/-! THE G LAYER: a method's walk over a pure state (world, pc, locals, stack); the machine's context is one variable κ -/
abbrev Cx : Type := Program × Launch × Env × Room × State × MethodId × Array Value × List Frame × Method × Code × va_G × (Nat → Prop) × (State → Prop)
abbrev Tys : Type := List (ClassId × FieldType)
/-- the statics: three tables of Settings -/
def zLow : Nat → Value := fun k => match k with | 0 => .int 0 | 1 => .int 0 | 2 => .int 0 | _ => .int 1
def zHigh : Nat → Value := fun k => match k with | 0 => .int 15 | 1 => .int 3 | 2 => .int 1 | _ => .int 99
def zUn : Nat → Value := fun k => match k with | 0 => .int 2 | 1 => .int 0 | 2 => .int 0 | _ => .int 8
/-- nest mates' links, the array of Stands, and the clone of an int array: words that are no words of a method -/
def NS (U : State) : Prop := va_AO "WarpDesk$Stand" U ∧ va_Nw (.castable "[I" "java/lang/Cloneable") U ∧ va_Nw (.methodLinkNest RX11 9 yX10_init "WarpDesk") U ∧ va_Nw (.methodLinkNest RX5 11 yX8_init "WarpDesk") U ∧ va_Nw (.methodLinkNest RX8 17 yX7_init "WarpDesk") U ∧ va_Nw (.methodLinkNest RX5 20 yX4_init "WarpDesk") U ∧ va_Nw (.methodLinkNest RX11 27 yX6_init "WarpDesk") U ∧ va_Nw (.methodLinkNest RX11 34 yX4_init "WarpDesk") U ∧ va_Nw (.methodLinkNest RX11 41 yX7_init "WarpDesk") U ∧ va_Nw (.methodLinkNest RX11 48 yX3_init "WarpDesk") U ∧ va_Nw (.methodLinkNest RX11 55 yX8_init "WarpDesk") U ∧ va_Nw (.methodLinkNest RX0 11 yX2_init "WarpDesk") U
theorem NS.warm {s U : State} (hW : s.WarmedH U.vm) (h : NS s) : NS U := by
  obtain ⟨a, b, c1, c2, c3, c4, c5, c6, c7, c8, c9, c10⟩ := h
  exact ⟨a.moved hW.alike, b.warmC hW, c1.warmM hW, c2.warmM hW, c3.warmM hW, c4.warmM hW, c5.warmM hW, c6.warmM hW, c7.warmM hW, c8.warmM hW, c9.warmM hW, c10.warmM hW⟩
theorem NS.same {s U : State} (e : s.vm = U.vm) (h : NS s) : NS U := by
  obtain ⟨a, b, c1, c2, c3, c4, c5, c6, c7, c8, c9, c10⟩ := h
  exact ⟨a.moved (by rw [e]; exact Vm.Alike.refl U.vm), b.same rfl e, c1.same rfl e, c2.same rfl e, c3.same rfl e, c4.same rfl e, c5.same rfl e, c6.same rfl e, c7.same rfl e, c8.same rfl e, c9.same rfl e, c10.same rfl e⟩
/-- the cell of UNTOLD, to be cloned -/
def unI : Nat → Int32 := fun k => match k with | 0 => 2 | 1 => 0 | 2 => 0 | _ => 8
def ZU (t2 : Nat) (A : Nat → Prop) (U : State) (H : Heap) : Prop := ∃ cell : Cell, H[t2]? = some cell ∧ U.vm.findClass "[I" = some cell.cls ∧ ArrOfT U cell.cls .int ∧ (∀ k, cell.vm ≠ .statics k) ∧ cell.vm ≠ .unknown ∧ cell.slots = (arrV cell.cls 4 (fun j => .int (unI j))).slots ∧ ¬ A t2
theorem ZU.go {t2 : Nat} {A B : Nat → Prop} {u U : State} {H H1 : Heap} (h : ZU t2 A u H) (hvm : u.vm.Alike U.vm) (hq : ∀ a : Nat, a < H.size → ¬ A a → H1[a]? = H[a]?) (hAB : ∀ q, B q → A q) : ZU t2 B U H1 := by
  obtain ⟨cell, h1, h2, h3, h4, h5, h6, h7⟩ := h
  exact ⟨cell, by rw [hq t2 (Array.getElem?_eq_some_iff.mp h1).1 h7]; exact h1, by rw [hvm.findClass]; exact h2, arrOfT_moved hvm h3, h4, h5, h6, fun z => h7 (hAB t2 z)⟩
def ZS (t0 t1 t2 : Nat) (A : Nat → Prop) (U : State) (H : Heap) : Prop :=
  (va_Z "WarpDesk$Settings" "LOWEST" "[I" (.ref t0) A U H ∧ va_T .int t0 4 zLow A U H) ∧ (va_Z "WarpDesk$Settings" "HIGHEST" "[I" (.ref t1) A U H ∧ va_T .int t1 4 zHigh A U H) ∧ (va_Z "WarpDesk$Settings" "UNTOLD" "[I" (.ref t2) A U H ∧ va_T .int t2 4 zUn A U H) ∧ ZU t2 A U H ∧ NS U
theorem ZS.go {t0 t1 t2 : Nat} {A B : Nat → Prop} {u U : State} {H H1 : Heap} (h : ZS t0 t1 t2 A u H) (hvm : u.vm.Alike U.vm) (hN : NS u → NS U) (hq : ∀ a : Nat, a < H.size → ¬ A a → H1[a]? = H[a]?) (hAB : ∀ q, B q → A q) : ZS t0 t1 t2 B U H1 :=
  ⟨⟨((h.1.1.kept hq).narrow hAB).moved hvm, ((h.1.2.kept hq).narrow hAB).moved hvm⟩, ⟨((h.2.1.1.kept hq).narrow hAB).moved hvm, ((h.2.1.2.kept hq).narrow hAB).moved hvm⟩, ⟨((h.2.2.1.1.kept hq).narrow hAB).moved hvm, ((h.2.2.1.2.kept hq).narrow hAB).moved hvm⟩, h.2.2.2.1.go hvm hq hAB, hN h.2.2.2.2⟩
def GW (κ : Cx) (nL n1 n2 : Nat) (ws : va_W) (pc : Nat) (lv : List (Nat × Value)) (st : List Value) : Prop :=
  match κ with
  | (p, l, e, R, s, m, args, below, meth, c, D, A, Q) => ∀ (H : Heap) (locs : List Loc) (ls : Array Slot), va_P D vwCl ws H → va_D A ws → va_S A s.heap H locs → lv_has ls nL lv → W p l e R s m args below meth c H locs n1 n2 Q (F0 m pc ls st)
def GC (κ : Cx) (l0 : Launch) (D0 : va_G) (zt : Nat × Nat × Nat) (cc : ByteArray) (nL : Nat) (own : String) (Ts : List Cond) (tys : Tys) (rm : Room) : Prop :=
  match κ with
  | (p, l, e, R, s, m, args, below, meth, c, D, A, Q) => p.tables.exec = Jvm.exec ∧ c.code = cc ∧ c.maxLocals = nL ∧ s.vm.findClass own = some m.cls ∧ (∀ w ∈ Ts, w.before args s = true) ∧ va_K D vwCl tys s ∧ (∀ q, s.heap.size ≤ q → A q) ∧ R = rm ∧ ZS zt.1 zt.2.1 zt.2.2 A s s.heap ∧ l = l0 ∧ D = D0
/-- a method's contract over its whole world -/
def GQ (D : va_G) (P : Option Value → Tys → va_W → Prop) (w : va_W) (sz : Nat) : Array Value → State → Outcome → State → Prop := fun _ st oc t => (∃ (v : Option Value) (tys' : Tys) (w' : va_W), oc = .returned v ∧ P v tys' w' ∧ va_P D vwCl w' t.heap ∧ va_K D vwCl tys' t ∧ va_D (va_A w sz) w') ∧ va_F (va_A w sz) st t
def GP (D : va_G) (zt : Nat × Nat × Nat) (tys : Tys) (av : List Value) (w : va_W) (sz : Nat) : Array Value → State → Prop := va_Pc av (fun U => U.heap.size = sz ∧ va_P D vwCl w U.heap ∧ va_K D vwCl tys U ∧ va_D (fun _ => True) w ∧ ZS zt.1 zt.2.1 zt.2.2 (va_A w sz) U U.heap)
def GM (l : Launch) (D : va_G) (zt : Nat × Nat × Nat) (tys : Tys) (y : MethodName) (wsy : List Cond) (rm : Room) (av : List Value) (w : va_W) (P : Option Value → Tys → va_W → Prop) (mc ms : Nat) : Prop :=
  ∀ sz : Nat, Met l y wsy rm (GP D zt tys av w sz) (GQ D P w sz) mc ms (va_A w sz)
def GR (κ : Cx) (ret : Option FieldType) (P : Option Value → Tys → va_W → Prop) (mc ms : Nat) (w : va_W) (sz : Nat) : Prop :=
  match κ with
  | (p, l, e, R, s, m, args, below, meth, c, D, A, Q) => Q = MQ below (GQ D P w sz) args s mc ms (va_A w sz) ∧ A = va_A w sz ∧ meth.sig.returnType = ret ∧ meth.locks = false
def GN (κ : Cx) : Prop := match κ with | (p, l, e, R, s, m, args, below, meth, c, D, A, Q) => meth.name = "<init>"
theorem GP.blind {D : va_G} {zt : Nat × Nat × Nat} {tys : Tys} {av : List Value} {w : va_W} {sz : Nat} : FrameBlind (GP D zt tys av w sz) := by
  intro a U g mk q
  obtain ⟨q0, q1, qP, qK, qD, qZ⟩ := q
  exact ⟨q0, q1, qP, va_K.moved (u := U) (U := U.calling g mk a) (Vm.Alike.refl U.vm) qK, qD, ZS.go (u := U) (U := U.calling g mk a) qZ (Vm.Alike.refl U.vm) (NS.same (s := U) (U := U.calling g mk a) rfl) (fun _ _ _ => rfl) (fun _ h => h)⟩
theorem GM.of {l : Launch} {D : va_G} {zt : Nat × Nat × Nat} {tys : Tys} {y : MethodName} {wsy wsy' : List Cond} {rm : Room} {av : List Value} {w : va_W} {P : Option Value → Tys → va_W → Prop} {mc ms : Nat} {cc : ByteArray} {maxL : Nat} {ret : Option FieldType} {own : String} {lv : List (Nat × Value)}
    (hy : plainName y.cls = true) (hw : wsy = Cond.code y cc maxL ret :: wsy') (ho : y.cls = own) (hav : (lg_sl av).length ≤ maxL) (hlv : lv_args 0 av = lv)
    (body : ∀ (κ : Cx) (sz : Nat), GC κ l D zt cc maxL own wsy tys rm → GR κ ret P mc ms w sz → (y.name = "<init>" → GN κ) → GW κ maxL 0 0 w 0 lv []) : GM l D zt tys y wsy rm av w P mc ms := by
  intro sz
  refine Met.ofW (cc := cc) (maxL := maxL) (ret := ret) hy hw ?_
  intro p e s m args below meth c s₁ B hml hv
  obtain ⟨rfl, hsz, hP, hK, hD0, hZ⟩ := hv
  have hts := atoms_spec (ws := wsy) B.pre
  have hown : s.vm.findClass own = some m.cls := by rw [← ho]; exact findClass_of_methodNamed B.named
  subst hsz
  have hD := hD0.self (sz := s.heap.size)
  have hl := lv_entry av (n := maxL) hav
  rw [hlv] at hl
  rw [lg_entry_eq]
  exact body (p, l, e, (headSpec wsy rm).room, s, m, _, below, meth, c, D, va_A w s.heap.size, MQ below (GQ D P w s.heap.size) _ s mc ms (va_A w s.heap.size)) s.heap.size
    ⟨B.exec, B.bytes, hml, hown, hts, hK, fun q h => Or.inr h, rfl, hZ, rfl, rfl⟩ ⟨rfl, rfl, B.returns, B.notSynchronized⟩ (fun h => (name_of_methodNamed B.named B.method).1.trans h) s.heap [] _ hP hD va_S.rf hl
section GI
variable {κ : Cx} {l0 : Launch} {D0 : va_G} {zt : Nat × Nat × Nat} {cc : ByteArray} {nL : Nat} {own : String} {Ts : List Cond} {tys : Tys} {rm : Room} {n1 n2 : Nat} {ws : va_W} {pc : Nat} {lv lv' : List (Nat × Value)} {st : List Value}
def lvg : List (Nat × Value) → Nat → Option Value
  | [], _ => none
  | q :: l, i => if q.1 = i then some q.2 else lvg l i
theorem lvg_has {ls : Array Slot} {i : Nat} {v : Value} : ∀ {lv : List (Nat × Value)}, lv_has ls nL lv → lvg lv i = some v → ls[i]? = some (.val v)
  | [], _, h => by cases h
  | q :: l, hl, h => by
    unfold lvg at h
    by_cases e : q.1 = i
    · rw [if_pos e] at h
      cases h
      rw [← e]
      exact hl.2.2 q List.mem_cons_self
    · rw [if_neg e] at h
      exact lvg_has (lv := l) ⟨hl.1, hl.2.1, fun x hx => hl.2.2 x (List.mem_cons_of_mem _ hx)⟩ h
theorem g_iconst (hk : GC κ l0 D0 zt cc nL own Ts tys rm) {n : Int} {v : Int32} (hd : decode cc pc = .ok (.iconst n, 1)) (hv : Int32.ofInt n = v) (k : GW κ nL n1 n2 ws (pc + 1) lv (.int v :: st)) : GW κ nL n1 n2 ws pc lv st := by
  obtain ⟨p, l, e, R, s, m, args, below, meth, c, D, A, Q⟩ := κ
  exact fun H locs ls hP hD hS hl => lv_iconst hk.1 hk.2.1 hd hv (k H locs ls hP hD hS hl)
theorem g_bipush (hk : GC κ l0 D0 zt cc nL own Ts tys rm) {n : Int} {v : Int32} (hd : decode cc pc = .ok (.bipush n, 2)) (hv : (Int8.ofInt n).toInt32 = v) (k : GW κ nL n1 n2 ws (pc + 2) lv (.int v :: st)) : GW κ nL n1 n2 ws pc lv st := by
  obtain ⟨p, l, e, R, s, m, args, below, meth, c, D, A, Q⟩ := κ
  exact fun H locs ls hP hD hS hl => lv_bipush hk.1 hk.2.1 hd hv (k H locs ls hP hD hS hl)
theorem g_sipush (hk : GC κ l0 D0 zt cc nL own Ts tys rm) {n : Int} {v : Int32} (hd : decode cc pc = .ok (.sipush n, 3)) (hv : (Int16.ofInt n).toInt32 = v) (k : GW κ nL n1 n2 ws (pc + 3) lv (.int v :: st)) : GW κ nL n1 n2 ws pc lv st := by
  obtain ⟨p, l, e, R, s, m, args, below, meth, c, D, A, Q⟩ := κ
  exact fun H locs ls hP hD hS hl => lv_sipush hk.1 hk.2.1 hd hv (k H locs ls hP hD hS hl)
theorem g_lconst (hk : GC κ l0 D0 zt cc nL own Ts tys rm) {n : Fin 2} {v : Int64} (hd : decode cc pc = .ok (.lconst n, 1)) (hv : Int64.ofNat (n : Nat) = v) (k : GW κ nL n1 n2 ws (pc + 1) lv (.long v :: st)) : GW κ nL n1 n2 ws pc lv st := by
  obtain ⟨p, l, e, R, s, m, args, below, meth, c, D, A, Q⟩ := κ
  exact fun H locs ls hP hD hS hl => lv_lconst hk.1 hk.2.1 hd hv (k H locs ls hP hD hS hl)
theorem g_ldc (hk : GC κ l0 D0 zt cc nL own Ts tys rm) {index : Nat} {v : Int32} (hw : Cond.constant own index v ∈ Ts) (hd : decode cc pc = .ok (.ldc index, 2)) (k : GW κ nL n1 n2 ws (pc + 2) lv (.int v :: st)) : GW κ nL n1 n2 ws pc lv st := by
  obtain ⟨p, l, e, R, s, m, args, below, meth, c, D, A, Q⟩ := κ
  exact fun H locs ls hP hD hS hl => lv_ldc hk.1 hk.2.1 hk.2.2.2.1 (hk.2.2.2.2.1 _ hw) hd (k H locs ls hP hD hS hl)
theorem g_ldcw (hk : GC κ l0 D0 zt cc nL own Ts tys rm) {index : Nat} {v : Int32} (hw : Cond.constant own index v ∈ Ts) (hd : decode cc pc = .ok (.ldc_w index, 3)) (k : GW κ nL n1 n2 ws (pc + 3) lv (.int v :: st)) : GW κ nL n1 n2 ws pc lv st := by
  obtain ⟨p, l, e, R, s, m, args, below, meth, c, D, A, Q⟩ := κ
  exact fun H locs ls hP hD hS hl => lv_ldcw hk.1 hk.2.1 hk.2.2.2.1 (hk.2.2.2.2.1 _ hw) hd (k H locs ls hP hD hS hl)
theorem g_ldc2 (hk : GC κ l0 D0 zt cc nL own Ts tys rm) {index : Nat} {v : Int64} (hw : Cond.constantLong own index v ∈ Ts) (hd : decode cc pc = .ok (.ldc2_w index, 3)) (k : GW κ nL n1 n2 ws (pc + 3) lv (.long v :: st)) : GW κ nL n1 n2 ws pc lv st := by
  obtain ⟨p, l, e, R, s, m, args, below, meth, c, D, A, Q⟩ := κ
  exact fun H locs ls hP hD hS hl => lv_ldc2 hk.1 hk.2.1 hk.2.2.2.1 (hk.2.2.2.2.1 _ hw) hd (k H locs ls hP hD hS hl)
theorem g_iload_n (hk : GC κ l0 D0 zt cc nL own Ts tys rm) {i : Fin 4} {x : Int32} (hd : decode cc pc = .ok (.iload_n i, 1)) (hg : lvg lv (i : Nat) = some (.int x)) (k : GW κ nL n1 n2 ws (pc + 1) lv (.int x :: st)) : GW κ nL n1 n2 ws pc lv st := by
  obtain ⟨p, l, e, R, s, m, args, below, meth, c, D, A, Q⟩ := κ
  exact fun H locs ls hP hD hS hl => lv_iload_n hk.1 hk.2.1 hd rfl (lvg_has hl hg) (k H locs ls hP hD hS hl)
theorem g_iload (hk : GC κ l0 D0 zt cc nL own Ts tys rm) {i : Nat} {x : Int32} (hd : decode cc pc = .ok (.iload i, 2)) (hg : lvg lv i = some (.int x)) (k : GW κ nL n1 n2 ws (pc + 2) lv (.int x :: st)) : GW κ nL n1 n2 ws pc lv st := by
  obtain ⟨p, l, e, R, s, m, args, below, meth, c, D, A, Q⟩ := κ
  exact fun H locs ls hP hD hS hl => lv_iload hk.1 hk.2.1 hd (lvg_has hl hg) (k H locs ls hP hD hS hl)
theorem g_lload_n (hk : GC κ l0 D0 zt cc nL own Ts tys rm) {i : Fin 4} {x : Int64} (hd : decode cc pc = .ok (.lload_n i, 1)) (hg : lvg lv (i : Nat) = some (.long x)) (k : GW κ nL n1 n2 ws (pc + 1) lv (.long x :: st)) : GW κ nL n1 n2 ws pc lv st := by
  obtain ⟨p, l, e, R, s, m, args, below, meth, c, D, A, Q⟩ := κ
  exact fun H locs ls hP hD hS hl => lv_lload_n hk.1 hk.2.1 hd rfl (lvg_has hl hg) (k H locs ls hP hD hS hl)
theorem g_lload (hk : GC κ l0 D0 zt cc nL own Ts tys rm) {i : Nat} {x : Int64} (hd : decode cc pc = .ok (.lload i, 2)) (hg : lvg lv i = some (.long x)) (k : GW κ nL n1 n2 ws (pc + 2) lv (.long x :: st)) : GW κ nL n1 n2 ws pc lv st := by
  obtain ⟨p, l, e, R, s, m, args, below, meth, c, D, A, Q⟩ := κ
  exact fun H locs ls hP hD hS hl => lv_lload hk.1 hk.2.1 hd (lvg_has hl hg) (k H locs ls hP hD hS hl)
theorem g_aload_n (hk : GC κ l0 D0 zt cc nL own Ts tys rm) {i : Fin 4} {x : Nat} (hd : decode cc pc = .ok (.aload_n i, 1)) (hg : lvg lv (i : Nat) = some (.ref x)) (k : GW κ nL n1 n2 ws (pc + 1) lv (.ref x :: st)) : GW κ nL n1 n2 ws pc lv st := by
  obtain ⟨p, l, e, R, s, m, args, below, meth, c, D, A, Q⟩ := κ
  exact fun H locs ls hP hD hS hl => lv_aload_n hk.1 hk.2.1 hd rfl (lvg_has hl hg) (k H locs ls hP hD hS hl)
theorem g_aload (hk : GC κ l0 D0 zt cc nL own Ts tys rm) {i : Nat} {x : Nat} (hd : decode cc pc = .ok (.aload i, 2)) (hg : lvg lv i = some (.ref x)) (k : GW κ nL n1 n2 ws (pc + 2) lv (.ref x :: st)) : GW κ nL n1 n2 ws pc lv st := by
  obtain ⟨p, l, e, R, s, m, args, below, meth, c, D, A, Q⟩ := κ
  exact fun H locs ls hP hD hS hl => lv_aload hk.1 hk.2.1 hd (lvg_has hl hg) (k H locs ls hP hD hS hl)
def lvs (lv : List (Nat × Value)) (i : Nat) (v : Value) : List (Nat × Value) := (i, v) :: lv.filter (fun q => !(q.1 == i) && !(q.1 + 1 == i && q.2.category == 2))
def lvs2 (lv : List (Nat × Value)) (i : Nat) (v : Value) : List (Nat × Value) := (i, v) :: lv.filter (fun q => !(q.1 == i) && (!(q.1 == i + 1) && !(q.1 + 1 == i && q.2.category == 2)))
theorem g_istore_n (hk : GC κ l0 D0 zt cc nL own Ts tys rm) {i : Fin 4} {x : Int32} (hd : decode cc pc = .ok (.istore_n i, 1)) (hn : (i : Nat) < nL) (hl' : lvs lv i (.int x) = lv') (k : GW κ nL n1 n2 ws (pc + 1) lv' st) : GW κ nL n1 n2 ws pc lv (.int x :: st) := by
  obtain ⟨p, l, e, R, s, m, args, below, meth, c, D, A, Q⟩ := κ
  exact fun H locs ls hP hD hS hl => lv_istore_n hk.1 hk.2.1 hd rfl hl hn hl' (fun ls' h' => k H locs ls' hP hD hS h')
theorem g_istore (hk : GC κ l0 D0 zt cc nL own Ts tys rm) {i : Nat} {x : Int32} (hd : decode cc pc = .ok (.istore i, 2)) (hn : i < nL) (hl' : lvs lv i (.int x) = lv') (k : GW κ nL n1 n2 ws (pc + 2) lv' st) : GW κ nL n1 n2 ws pc lv (.int x :: st) := by
  obtain ⟨p, l, e, R, s, m, args, below, meth, c, D, A, Q⟩ := κ
  exact fun H locs ls hP hD hS hl => lv_istore hk.1 hk.2.1 hd hl hn hl' (fun ls' h' => k H locs ls' hP hD hS h')
theorem g_astore_n (hk : GC κ l0 D0 zt cc nL own Ts tys rm) {i : Fin 4} {x : Nat} (hd : decode cc pc = .ok (.astore_n i, 1)) (hn : (i : Nat) < nL) (hl' : lvs lv i (.ref x) = lv') (k : GW κ nL n1 n2 ws (pc + 1) lv' st) : GW κ nL n1 n2 ws pc lv (.ref x :: st) := by
  obtain ⟨p, l, e, R, s, m, args, below, meth, c, D, A, Q⟩ := κ
  exact fun H locs ls hP hD hS hl => lv_astore_n hk.1 hk.2.1 hd rfl hl hn hl' (fun ls' h' => k H locs ls' hP hD hS h')
theorem g_astore (hk : GC κ l0 D0 zt cc nL own Ts tys rm) {i : Nat} {x : Nat} (hd : decode cc pc = .ok (.astore i, 2)) (hn : i < nL) (hl' : lvs lv i (.ref x) = lv') (k : GW κ nL n1 n2 ws (pc + 2) lv' st) : GW κ nL n1 n2 ws pc lv (.ref x :: st) := by
  obtain ⟨p, l, e, R, s, m, args, below, meth, c, D, A, Q⟩ := κ
  exact fun H locs ls hP hD hS hl => lv_astore hk.1 hk.2.1 hd hl hn hl' (fun ls' h' => k H locs ls' hP hD hS h')
theorem g_lstore_n (hk : GC κ l0 D0 zt cc nL own Ts tys rm) {i : Fin 4} {x : Int64} (hd : decode cc pc = .ok (.lstore_n i, 1)) (hn : (i : Nat) + 1 < nL) (hl' : lvs2 lv i (.long x) = lv') (k : GW κ nL n1 n2 ws (pc + 1) lv' st) : GW κ nL n1 n2 ws pc lv (.long x :: st) := by
  obtain ⟨p, l, e, R, s, m, args, below, meth, c, D, A, Q⟩ := κ
  exact fun H locs ls hP hD hS hl => lv_lstore_n hk.1 hk.2.1 hd rfl hl hn hl' (fun ls' h' => k H locs ls' hP hD hS h')
theorem g_lstore (hk : GC κ l0 D0 zt cc nL own Ts tys rm) {i : Nat} {x : Int64} (hd : decode cc pc = .ok (.lstore i, 2)) (hn : i + 1 < nL) (hl' : lvs2 lv i (.long x) = lv') (k : GW κ nL n1 n2 ws (pc + 2) lv' st) : GW κ nL n1 n2 ws pc lv (.long x :: st) := by
  obtain ⟨p, l, e, R, s, m, args, below, meth, c, D, A, Q⟩ := κ
  exact fun H locs ls hP hD hS hl => lv_lstore hk.1 hk.2.1 hd hl hn hl' (fun ls' h' => k H locs ls' hP hD hS h')
/-- the locals in another order, or fewer of them -/
theorem g_lv (h : ∀ q ∈ lv', q ∈ lv) (k : GW κ nL n1 n2 ws pc lv' st) : GW κ nL n1 n2 ws pc lv st := by
  obtain ⟨p, l, e, R, s, m, args, below, meth, c, D, A, Q⟩ := κ
  exact fun H locs ls hP hD hS hl => k H locs ls hP hD hS ⟨hl.1, hl.2.1, fun q hq => hl.2.2 q (h q hq)⟩
theorem g_iinc (hk : GC κ l0 D0 zt cc nL own Ts tys rm) {i : Nat} {n : Int} {x v : Int32} (j : Nat) (hd : decode cc pc = .ok (.iinc i n, 3)) (hj : lv[j]? = some (i, .int x)) (hv : x + Int32.ofInt n = v) (hn : i < nL) (hl' : lvs lv i (.int v) = lv') (k : GW κ nL n1 n2 ws (pc + 3) lv' st) : GW κ nL n1 n2 ws pc lv st := by
  obtain ⟨p, l, e, R, s, m, args, below, meth, c, D, A, Q⟩ := κ
  exact fun H locs ls hP hD hS hl => lv_iinc hk.1 hk.2.1 hd hl hj hv hn hl' (fun ls' h' => k H locs ls' hP hD hS h')
theorem g_iadd (hk : GC κ l0 D0 zt cc nL own Ts tys rm) {x y : Int32} (hd : decode cc pc = .ok (.iadd, 1)) (k : GW κ nL n1 n2 ws (pc + 1) lv (.int (x + y) :: st)) : GW κ nL n1 n2 ws pc lv (.int y :: .int x :: st) := by
  obtain ⟨p, l, e, R, s, m, args, below, meth, c, D, A, Q⟩ := κ
  exact fun H locs ls hP hD hS hl => lv_iadd hk.1 hk.2.1 hd (k H locs ls hP hD hS hl)
theorem g_isub (hk : GC κ l0 D0 zt cc nL own Ts tys rm) {x y : Int32} (hd : decode cc pc = .ok (.isub, 1)) (k : GW κ nL n1 n2 ws (pc + 1) lv (.int (x - y) :: st)) : GW κ nL n1 n2 ws pc lv (.int y :: .int x :: st) := by
  obtain ⟨p, l, e, R, s, m, args, below, meth, c, D, A, Q⟩ := κ
  exact fun H locs ls hP hD hS hl => lv_isub hk.1 hk.2.1 hd (k H locs ls hP hD hS hl)
theorem g_imul (hk : GC κ l0 D0 zt cc nL own Ts tys rm) {x y : Int32} (hd : decode cc pc = .ok (.imul, 1)) (k : GW κ nL n1 n2 ws (pc + 1) lv (.int (x * y) :: st)) : GW κ nL n1 n2 ws pc lv (.int y :: .int x :: st) := by
  obtain ⟨p, l, e, R, s, m, args, below, meth, c, D, A, Q⟩ := κ
  exact fun H locs ls hP hD hS hl => lv_imul hk.1 hk.2.1 hd (k H locs ls hP hD hS hl)
theorem g_iand (hk : GC κ l0 D0 zt cc nL own Ts tys rm) {x y : Int32} (hd : decode cc pc = .ok (.iand, 1)) (k : GW κ nL n1 n2 ws (pc + 1) lv (.int (x &&& y) :: st)) : GW κ nL n1 n2 ws pc lv (.int y :: .int x :: st) := by
  obtain ⟨p, l, e, R, s, m, args, below, meth, c, D, A, Q⟩ := κ
  exact fun H locs ls hP hD hS hl => lv_iand hk.1 hk.2.1 hd (k H locs ls hP hD hS hl)
theorem g_ior (hk : GC κ l0 D0 zt cc nL own Ts tys rm) {x y : Int32} (hd : decode cc pc = .ok (.ior, 1)) (k : GW κ nL n1 n2 ws (pc + 1) lv (.int (x ||| y) :: st)) : GW κ nL n1 n2 ws pc lv (.int y :: .int x :: st) := by
  obtain ⟨p, l, e, R, s, m, args, below, meth, c, D, A, Q⟩ := κ
  exact fun H locs ls hP hD hS hl => lv_ior hk.1 hk.2.1 hd (k H locs ls hP hD hS hl)
theorem g_ishl (hk : GC κ l0 D0 zt cc nL own Ts tys rm) {x y : Int32} (hd : decode cc pc = .ok (.ishl, 1)) (k : GW κ nL n1 n2 ws (pc + 1) lv (.int (x <<< (y &&& 31)) :: st)) : GW κ nL n1 n2 ws pc lv (.int y :: .int x :: st) := by
  obtain ⟨p, l, e, R, s, m, args, below, meth, c, D, A, Q⟩ := κ
  exact fun H locs ls hP hD hS hl => lv_ishl hk.1 hk.2.1 hd (k H locs ls hP hD hS hl)
theorem g_ishr (hk : GC κ l0 D0 zt cc nL own Ts tys rm) {x y : Int32} (hd : decode cc pc = .ok (.ishr, 1)) (k : GW κ nL n1 n2 ws (pc + 1) lv (.int (x >>> (y &&& 31)) :: st)) : GW κ nL n1 n2 ws pc lv (.int y :: .int x :: st) := by
  obtain ⟨p, l, e, R, s, m, args, below, meth, c, D, A, Q⟩ := κ
  exact fun H locs ls hP hD hS hl => lv_ishr hk.1 hk.2.1 hd (k H locs ls hP hD hS hl)
theorem g_idiv (hk : GC κ l0 D0 zt cc nL own Ts tys rm) {x y : Int32} (hd : decode cc pc = .ok (.idiv, 1)) (hne : ¬ y = 0) (k : GW κ nL n1 n2 ws (pc + 1) lv (.int (x / y) :: st)) : GW κ nL n1 n2 ws pc lv (.int y :: .int x :: st) := by
  obtain ⟨p, l, e, R, s, m, args, below, meth, c, D, A, Q⟩ := κ
  exact fun H locs ls hP hD hS hl => lv_idiv hk.1 hk.2.1 hd hne (k H locs ls hP hD hS hl)
theorem g_irem (hk : GC κ l0 D0 zt cc nL own Ts tys rm) {x y : Int32} (hd : decode cc pc = .ok (.irem, 1)) (hne : ¬ y = 0) (k : GW κ nL n1 n2 ws (pc + 1) lv (.int (x - x / y * y) :: st)) : GW κ nL n1 n2 ws pc lv (.int y :: .int x :: st) := by
  obtain ⟨p, l, e, R, s, m, args, below, meth, c, D, A, Q⟩ := κ
  exact fun H locs ls hP hD hS hl => lv_irem hk.1 hk.2.1 hd hne (k H locs ls hP hD hS hl)
theorem g_ineg (hk : GC κ l0 D0 zt cc nL own Ts tys rm) {x : Int32} (hd : decode cc pc = .ok (.ineg, 1)) (k : GW κ nL n1 n2 ws (pc + 1) lv (.int (-x) :: st)) : GW κ nL n1 n2 ws pc lv (.int x :: st) := by
  obtain ⟨p, l, e, R, s, m, args, below, meth, c, D, A, Q⟩ := κ
  exact fun H locs ls hP hD hS hl => lv_ineg hk.1 hk.2.1 hd (k H locs ls hP hD hS hl)
theorem g_iushr (hk : GC κ l0 D0 zt cc nL own Ts tys rm) {x y v : Int32} (hd : decode cc pc = .ok (.iushr, 1)) (hv : (x.toUInt32 >>> (y.toUInt32 &&& Int32.toUInt32 31)).toInt32 = v) (k : GW κ nL n1 n2 ws (pc + 1) lv (.int v :: st)) : GW κ nL n1 n2 ws pc lv (.int y :: .int x :: st) := by
  obtain ⟨p, l, e, R, s, m, args, below, meth, c, D, A, Q⟩ := κ
  exact fun H locs ls hP hD hS hl => lv_iushr hk.1 hk.2.1 hd hv (k H locs ls hP hD hS hl)
theorem g_i2b (hk : GC κ l0 D0 zt cc nL own Ts tys rm) {x v : Int32} (hd : decode cc pc = .ok (.i2b, 1)) (hv : x.toInt8.toInt32 = v) (k : GW κ nL n1 n2 ws (pc + 1) lv (.int v :: st)) : GW κ nL n1 n2 ws pc lv (.int x :: st) := by
  obtain ⟨p, l, e, R, s, m, args, below, meth, c, D, A, Q⟩ := κ
  exact fun H locs ls hP hD hS hl => lv_i2b hk.1 hk.2.1 hd hv (k H locs ls hP hD hS hl)
theorem g_i2l (hk : GC κ l0 D0 zt cc nL own Ts tys rm) {x : Int32} {v : Int64} (hd : decode cc pc = .ok (.i2l, 1)) (hv : x.toInt64 = v) (k : GW κ nL n1 n2 ws (pc + 1) lv (.long v :: st)) : GW κ nL n1 n2 ws pc lv (.int x :: st) := by
  obtain ⟨p, l, e, R, s, m, args, below, meth, c, D, A, Q⟩ := κ
  exact fun H locs ls hP hD hS hl => lv_i2l hk.1 hk.2.1 hd hv (k H locs ls hP hD hS hl)
theorem g_ladd (hk : GC κ l0 D0 zt cc nL own Ts tys rm) {x y : Int64} (hd : decode cc pc = .ok (.ladd, 1)) (k : GW κ nL n1 n2 ws (pc + 1) lv (.long (x + y) :: st)) : GW κ nL n1 n2 ws pc lv (.long y :: .long x :: st) := by
  obtain ⟨p, l, e, R, s, m, args, below, meth, c, D, A, Q⟩ := κ
  exact fun H locs ls hP hD hS hl => lv_ladd hk.1 hk.2.1 hd (k H locs ls hP hD hS hl)
theorem g_lmul (hk : GC κ l0 D0 zt cc nL own Ts tys rm) {x y : Int64} (hd : decode cc pc = .ok (.lmul, 1)) (k : GW κ nL n1 n2 ws (pc + 1) lv (.long (x * y) :: st)) : GW κ nL n1 n2 ws pc lv (.long y :: .long x :: st) := by
  obtain ⟨p, l, e, R, s, m, args, below, meth, c, D, A, Q⟩ := κ
  exact fun H locs ls hP hD hS hl => lv_lmul hk.1 hk.2.1 hd (k H locs ls hP hD hS hl)
theorem g_dup (hk : GC κ l0 D0 zt cc nL own Ts tys rm) {a : Value} (hd : decode cc pc = .ok (.dup, 1)) (ha : a.category = 1) (k : GW κ nL n1 n2 ws (pc + 1) lv (a :: a :: st)) : GW κ nL n1 n2 ws pc lv (a :: st) := by
  obtain ⟨p, l, e, R, s, m, args, below, meth, c, D, A, Q⟩ := κ
  exact fun H locs ls hP hD hS hl => lv_dup hk.1 hk.2.1 hd ha (k H locs ls hP hD hS hl)
theorem g_pop (hk : GC κ l0 D0 zt cc nL own Ts tys rm) {a : Value} (hd : decode cc pc = .ok (.pop, 1)) (ha : a.category = 1) (k : GW κ nL n1 n2 ws (pc + 1) lv (st)) : GW κ nL n1 n2 ws pc lv (a :: st) := by
  obtain ⟨p, l, e, R, s, m, args, below, meth, c, D, A, Q⟩ := κ
  exact fun H locs ls hP hD hS hl => lv_pop hk.1 hk.2.1 hd ha (k H locs ls hP hD hS hl)
theorem g_dup2 (hk : GC κ l0 D0 zt cc nL own Ts tys rm) {a b : Value} (hd : decode cc pc = .ok (.dup2, 1)) (ha : a.category = 1) (hb : b.category = 1) (k : GW κ nL n1 n2 ws (pc + 1) lv (a :: b :: a :: b :: st)) : GW κ nL n1 n2 ws pc lv (a :: b :: st) := by
  obtain ⟨p, l, e, R, s, m, args, below, meth, c, D, A, Q⟩ := κ
  exact fun H locs ls hP hD hS hl => lv_dup2_11 hk.1 hk.2.1 hd ha hb (k H locs ls hP hD hS hl)
theorem g_goto (hk : GC κ l0 D0 zt cc nL own Ts tys rm) {off : Int} {tgt : Nat} (hd : decode cc pc = .ok (.goto off, 3)) (ht : (pc : Int) + off = (tgt : Int)) (k : GW κ nL n1 n2 ws tgt lv st) : GW κ nL n1 n2 ws pc lv st := by
  obtain ⟨p, l, e, R, s, m, args, below, meth, c, D, A, Q⟩ := κ
  exact fun H locs ls hP hD hS hl => lv_goto hk.1 hk.2.1 hd ht (k H locs ls hP hD hS hl)
theorem g_if_eq (hk : GC κ l0 D0 zt cc nL own Ts tys rm) {x : Int32} {a : Int} {off : Int} {tgt : Nat} (hd : decode cc pc = .ok (.ifCond .eq off, 3)) (ht : (pc : Int) + off = (tgt : Int)) (hx : x.toInt = a) (kt : a = 0 → GW κ nL n1 n2 ws tgt lv st) (kf : ¬ (a = 0) → GW κ nL n1 n2 ws (pc + 3) lv st) : GW κ nL n1 n2 ws pc lv (.int x :: st) := by
  obtain ⟨p, l, e, R, s, m, args, below, meth, c, D, A, Q⟩ := κ
  have E0 : (0 : Int32).toInt = 0 := rfl
  subst hx
  exact fun H locs ls hP hD hS hl => lv_if_eq hk.1 hk.2.1 hd ht (fun h => kt (congrArg Int32.toInt h) H locs ls hP hD hS hl) (fun h => kf (fun q => h (Int32.toInt_inj.mp q)) H locs ls hP hD hS hl)
theorem g_icmp_eq (hk : GC κ l0 D0 zt cc nL own Ts tys rm) {x y : Int32} {a b : Int} {off : Int} {tgt : Nat} (hd : decode cc pc = .ok (.if_icmp .eq off, 3)) (ht : (pc : Int) + off = (tgt : Int)) (hx : x.toInt = a) (hy : y.toInt = b) (kt : a = b → GW κ nL n1 n2 ws tgt lv st) (kf : ¬ (a = b) → GW κ nL n1 n2 ws (pc + 3) lv st) : GW κ nL n1 n2 ws pc lv (.int y :: .int x :: st) := by
  obtain ⟨p, l, e, R, s, m, args, below, meth, c, D, A, Q⟩ := κ
  have E0 : (0 : Int32).toInt = 0 := rfl
  subst hx
  subst hy
  exact fun H locs ls hP hD hS hl => lv_icmp_eq hk.1 hk.2.1 hd ht (fun h => kt (congrArg Int32.toInt h) H locs ls hP hD hS hl) (fun h => kf (fun q => h (Int32.toInt_inj.mp q)) H locs ls hP hD hS hl)
theorem g_if_ne (hk : GC κ l0 D0 zt cc nL own Ts tys rm) {x : Int32} {a : Int} {off : Int} {tgt : Nat} (hd : decode cc pc = .ok (.ifCond .ne off, 3)) (ht : (pc : Int) + off = (tgt : Int)) (hx : x.toInt = a) (kt : a ≠ 0 → GW κ nL n1 n2 ws tgt lv st) (kf : ¬ (a ≠ 0) → GW κ nL n1 n2 ws (pc + 3) lv st) : GW κ nL n1 n2 ws pc lv (.int x :: st) := by
  obtain ⟨p, l, e, R, s, m, args, below, meth, c, D, A, Q⟩ := κ
  have E0 : (0 : Int32).toInt = 0 := rfl
  subst hx
  exact fun H locs ls hP hD hS hl => lv_if_ne hk.1 hk.2.1 hd ht (fun h => kt (fun q => h (Int32.toInt_inj.mp q)) H locs ls hP hD hS hl) (fun h => kf (fun q => q (congrArg Int32.toInt h)) H locs ls hP hD hS hl)
theorem g_icmp_ne (hk : GC κ l0 D0 zt cc nL own Ts tys rm) {x y : Int32} {a b : Int} {off : Int} {tgt : Nat} (hd : decode cc pc = .ok (.if_icmp .ne off, 3)) (ht : (pc : Int) + off = (tgt : Int)) (hx : x.toInt = a) (hy : y.toInt = b) (kt : a ≠ b → GW κ nL n1 n2 ws tgt lv st) (kf : ¬ (a ≠ b) → GW κ nL n1 n2 ws (pc + 3) lv st) : GW κ nL n1 n2 ws pc lv (.int y :: .int x :: st) := by
  obtain ⟨p, l, e, R, s, m, args, below, meth, c, D, A, Q⟩ := κ
  have E0 : (0 : Int32).toInt = 0 := rfl
  subst hx
  subst hy
  exact fun H locs ls hP hD hS hl => lv_icmp_ne hk.1 hk.2.1 hd ht (fun h => kt (fun q => h (Int32.toInt_inj.mp q)) H locs ls hP hD hS hl) (fun h => kf (fun q => q (congrArg Int32.toInt h)) H locs ls hP hD hS hl)
theorem g_if_lt (hk : GC κ l0 D0 zt cc nL own Ts tys rm) {x : Int32} {a : Int} {off : Int} {tgt : Nat} (hd : decode cc pc = .ok (.ifCond .lt off, 3)) (ht : (pc : Int) + off = (tgt : Int)) (hx : x.toInt = a) (kt : a < 0 → GW κ nL n1 n2 ws tgt lv st) (kf : ¬ (a < 0) → GW κ nL n1 n2 ws (pc + 3) lv st) : GW κ nL n1 n2 ws pc lv (.int x :: st) := by
  obtain ⟨p, l, e, R, s, m, args, below, meth, c, D, A, Q⟩ := κ
  have E0 : (0 : Int32).toInt = 0 := rfl
  subst hx
  exact fun H locs ls hP hD hS hl => lv_if_lt hk.1 hk.2.1 hd ht (fun h => kt (Int32.lt_iff_toInt_lt.mp h) H locs ls hP hD hS hl) (fun h => kf (fun q => h (Int32.lt_iff_toInt_lt.mpr q)) H locs ls hP hD hS hl)
theorem g_icmp_lt (hk : GC κ l0 D0 zt cc nL own Ts tys rm) {x y : Int32} {a b : Int} {off : Int} {tgt : Nat} (hd : decode cc pc = .ok (.if_icmp .lt off, 3)) (ht : (pc : Int) + off = (tgt : Int)) (hx : x.toInt = a) (hy : y.toInt = b) (kt : a < b → GW κ nL n1 n2 ws tgt lv st) (kf : ¬ (a < b) → GW κ nL n1 n2 ws (pc + 3) lv st) : GW κ nL n1 n2 ws pc lv (.int y :: .int x :: st) := by
  obtain ⟨p, l, e, R, s, m, args, below, meth, c, D, A, Q⟩ := κ
  have E0 : (0 : Int32).toInt = 0 := rfl
  subst hx
  subst hy
  exact fun H locs ls hP hD hS hl => lv_icmp_lt hk.1 hk.2.1 hd ht (fun h => kt (Int32.lt_iff_toInt_lt.mp h) H locs ls hP hD hS hl) (fun h => kf (fun q => h (Int32.lt_iff_toInt_lt.mpr q)) H locs ls hP hD hS hl)
theorem g_if_ge (hk : GC κ l0 D0 zt cc nL own Ts tys rm) {x : Int32} {a : Int} {off : Int} {tgt : Nat} (hd : decode cc pc = .ok (.ifCond .ge off, 3)) (ht : (pc : Int) + off = (tgt : Int)) (hx : x.toInt = a) (kt : 0 ≤ a → GW κ nL n1 n2 ws tgt lv st) (kf : ¬ (0 ≤ a) → GW κ nL n1 n2 ws (pc + 3) lv st) : GW κ nL n1 n2 ws pc lv (.int x :: st) := by
  obtain ⟨p, l, e, R, s, m, args, below, meth, c, D, A, Q⟩ := κ
  have E0 : (0 : Int32).toInt = 0 := rfl
  subst hx
  exact fun H locs ls hP hD hS hl => lv_if_ge hk.1 hk.2.1 hd ht (fun h => kt (Int32.le_iff_toInt_le.mp h) H locs ls hP hD hS hl) (fun h => kf (fun q => h (Int32.le_iff_toInt_le.mpr q)) H locs ls hP hD hS hl)
theorem g_icmp_ge (hk : GC κ l0 D0 zt cc nL own Ts tys rm) {x y : Int32} {a b : Int} {off : Int} {tgt : Nat} (hd : decode cc pc = .ok (.if_icmp .ge off, 3)) (ht : (pc : Int) + off = (tgt : Int)) (hx : x.toInt = a) (hy : y.toInt = b) (kt : b ≤ a → GW κ nL n1 n2 ws tgt lv st) (kf : ¬ (b ≤ a) → GW κ nL n1 n2 ws (pc + 3) lv st) : GW κ nL n1 n2 ws pc lv (.int y :: .int x :: st) := by
  obtain ⟨p, l, e, R, s, m, args, below, meth, c, D, A, Q⟩ := κ
  have E0 : (0 : Int32).toInt = 0 := rfl
  subst hx
  subst hy
  exact fun H locs ls hP hD hS hl => lv_icmp_ge hk.1 hk.2.1 hd ht (fun h => kt (Int32.le_iff_toInt_le.mp h) H locs ls hP hD hS hl) (fun h => kf (fun q => h (Int32.le_iff_toInt_le.mpr q)) H locs ls hP hD hS hl)
theorem g_if_gt (hk : GC κ l0 D0 zt cc nL own Ts tys rm) {x : Int32} {a : Int} {off : Int} {tgt : Nat} (hd : decode cc pc = .ok (.ifCond .gt off, 3)) (ht : (pc : Int) + off = (tgt : Int)) (hx : x.toInt = a) (kt : 0 < a → GW κ nL n1 n2 ws tgt lv st) (kf : ¬ (0 < a) → GW κ nL n1 n2 ws (pc + 3) lv st) : GW κ nL n1 n2 ws pc lv (.int x :: st) := by
  obtain ⟨p, l, e, R, s, m, args, below, meth, c, D, A, Q⟩ := κ
  have E0 : (0 : Int32).toInt = 0 := rfl
  subst hx
  exact fun H locs ls hP hD hS hl => lv_if_gt hk.1 hk.2.1 hd ht (fun h => kt (Int32.lt_iff_toInt_lt.mp h) H locs ls hP hD hS hl) (fun h => kf (fun q => h (Int32.lt_iff_toInt_lt.mpr q)) H locs ls hP hD hS hl)
theorem g_icmp_gt (hk : GC κ l0 D0 zt cc nL own Ts tys rm) {x y : Int32} {a b : Int} {off : Int} {tgt : Nat} (hd : decode cc pc = .ok (.if_icmp .gt off, 3)) (ht : (pc : Int) + off = (tgt : Int)) (hx : x.toInt = a) (hy : y.toInt = b) (kt : b < a → GW κ nL n1 n2 ws tgt lv st) (kf : ¬ (b < a) → GW κ nL n1 n2 ws (pc + 3) lv st) : GW κ nL n1 n2 ws pc lv (.int y :: .int x :: st) := by
  obtain ⟨p, l, e, R, s, m, args, below, meth, c, D, A, Q⟩ := κ
  have E0 : (0 : Int32).toInt = 0 := rfl
  subst hx
  subst hy
  exact fun H locs ls hP hD hS hl => lv_icmp_gt hk.1 hk.2.1 hd ht (fun h => kt (Int32.lt_iff_toInt_lt.mp h) H locs ls hP hD hS hl) (fun h => kf (fun q => h (Int32.lt_iff_toInt_lt.mpr q)) H locs ls hP hD hS hl)
theorem g_if_le (hk : GC κ l0 D0 zt cc nL own Ts tys rm) {x : Int32} {a : Int} {off : Int} {tgt : Nat} (hd : decode cc pc = .ok (.ifCond .le off, 3)) (ht : (pc : Int) + off = (tgt : Int)) (hx : x.toInt = a) (kt : a ≤ 0 → GW κ nL n1 n2 ws tgt lv st) (kf : ¬ (a ≤ 0) → GW κ nL n1 n2 ws (pc + 3) lv st) : GW κ nL n1 n2 ws pc lv (.int x :: st) := by
  obtain ⟨p, l, e, R, s, m, args, below, meth, c, D, A, Q⟩ := κ
  have E0 : (0 : Int32).toInt = 0 := rfl
  subst hx
  exact fun H locs ls hP hD hS hl => lv_if_le hk.1 hk.2.1 hd ht (fun h => kt (Int32.le_iff_toInt_le.mp h) H locs ls hP hD hS hl) (fun h => kf (fun q => h (Int32.le_iff_toInt_le.mpr q)) H locs ls hP hD hS hl)
theorem g_icmp_le (hk : GC κ l0 D0 zt cc nL own Ts tys rm) {x y : Int32} {a b : Int} {off : Int} {tgt : Nat} (hd : decode cc pc = .ok (.if_icmp .le off, 3)) (ht : (pc : Int) + off = (tgt : Int)) (hx : x.toInt = a) (hy : y.toInt = b) (kt : a ≤ b → GW κ nL n1 n2 ws tgt lv st) (kf : ¬ (a ≤ b) → GW κ nL n1 n2 ws (pc + 3) lv st) : GW κ nL n1 n2 ws pc lv (.int y :: .int x :: st) := by
  obtain ⟨p, l, e, R, s, m, args, below, meth, c, D, A, Q⟩ := κ
  have E0 : (0 : Int32).toInt = 0 := rfl
  subst hx
  subst hy
  exact fun H locs ls hP hD hS hl => lv_icmp_le hk.1 hk.2.1 hd ht (fun h => kt (Int32.le_iff_toInt_le.mp h) H locs ls hP hD hS hl) (fun h => kf (fun q => h (Int32.le_iff_toInt_le.mpr q)) H locs ls hP hD hS hl)
theorem g_tabIn (hk : GC κ l0 D0 zt cc nL own Ts tys rm) {dflt lo hi : Int} {offs : Array Int} {len : Nat} {x : Int32} {a off : Int} {tgt : Nat} (hd : decode cc pc = .ok (.tableswitch dflt lo hi offs, len)) (hx : x.toInt = a) (h1 : ¬ a < lo) (h2 : ¬ hi < a) (ho : offs[(a - lo).toNat]? = some off) (ht : (pc : Int) + off = (tgt : Int)) (k : GW κ nL n1 n2 ws tgt lv st) : GW κ nL n1 n2 ws pc lv (.int x :: st) := by
  obtain ⟨p, l, e, R, s, m, args, below, meth, c, D, A, Q⟩ := κ
  subst hx
  exact fun H locs ls hP hD hS hl => lv_tableIn hk.1 hk.2.1 hd h1 h2 ho ht (k H locs ls hP hD hS hl)
theorem g_tabOut (hk : GC κ l0 D0 zt cc nL own Ts tys rm) {dflt lo hi : Int} {offs : Array Int} {len : Nat} {x : Int32} {a : Int} {tgt : Nat} (hd : decode cc pc = .ok (.tableswitch dflt lo hi offs, len)) (hx : x.toInt = a) (h : a < lo ∨ hi < a) (ht : (pc : Int) + dflt = (tgt : Int)) (k : GW κ nL n1 n2 ws tgt lv st) : GW κ nL n1 n2 ws pc lv (.int x :: st) := by
  obtain ⟨p, l, e, R, s, m, args, below, meth, c, D, A, Q⟩ := κ
  subst hx
  exact fun H locs ls hP hD hS hl => lv_tableOut hk.1 hk.2.1 hd h ht (k H locs ls hP hD hS hl)
theorem g_lcmp (hk : GC κ l0 D0 zt cc nL own Ts tys rm) {x y : Int64} (hd : decode cc pc = .ok (.lcmp, 1)) (k : GW κ nL n1 n2 ws (pc + 1) lv (.int (lg_cmp x y) :: st)) : GW κ nL n1 n2 ws pc lv (.long y :: .long x :: st) := by
  obtain ⟨p, l, e, R, s, m, args, below, meth, c, D, A, Q⟩ := κ
  exact fun H locs ls hP hD hS hl => W.lcmp hk.1 hk.2.1 hd (k H locs ls hP hD hS hl)
/-- a name for the number on top -/
theorem g_topi {x : Int32} (k : ∀ y : Int32, y = x → GW κ nL n1 n2 ws pc lv (.int y :: st)) : GW κ nL n1 n2 ws pc lv (.int x :: st) := k x rfl
theorem g_get (hk : GC κ l0 D0 zt cc nL own Ts tys rm) {C ref : String} {T : u_T} {N ci index a : Nat} (hin : ∀ w ∈ u_ws C T N, w ∈ Ts) (q0 : Nat) {fs : List Value} (he : ws[q0]? = some (a, .inr (ci, fs))) (hc : vwCl[ci]? = some (C, T, N)) (k : Nat) (hkN : k < N) (hlink : Cond.fieldLink own index ref (T k).2.1 (T k).2.2.1 ∈ Ts) (hr : (T k).1 = ref) {v : Value} (hv : fs[k]? = some v) (hd : decode cc pc = .ok (.getfield index, 3)) (kk : GW κ nL n1 n2 ws (pc + 3) lv (v :: st)) : GW κ nL n1 n2 ws pc lv (.ref a :: st) := by
  obtain ⟨p, l, e, R, s, m, args, below, meth, c, D, A, Q⟩ := κ
  subst hr
  exact fun H locs ls hP hD hS hl => va_get hk.1 hk.2.1 hk.2.2.2.2.1 hin hk.2.2.2.1 hk.2.2.2.2.2.1 hP q0 he hc k hkN (hk.2.2.2.2.1 _ hlink) (fun _ h => h) hv hd (kk H locs ls hP hD hS hl)
theorem g_put (hk : GC κ l0 D0 zt cc nL own Ts tys rm) {C ref : String} {T : u_T} {N ci index a : Nat} (hin : ∀ w ∈ u_ws C T N, w ∈ Ts) (ty0 : Nat → FieldType) (hty : ∀ k, k < N → parseFieldDescriptor (T k).2.2.1 = some (ty0 k)) (hnm : ∀ a, a < N → ∀ b, b < N → a ≠ b → (T a).2.1 ≠ (T b).2.1) (q0 : Nat) {fs : List Value} (he : ws[q0]? = some (a, .inr (ci, fs))) (hc : vwCl[ci]? = some (C, T, N)) (k : Nat) (hkN : k < N) (hlink : Cond.fieldLink own index ref (T k).2.1 (T k).2.2.1 ∈ Ts) (hr : (T k).1 = ref) (hfin : (T k).2.2.2 = false) {v : Value} (hn : narrow (ty0 k) v = v) (hfit : fits (ty0 k) v = true) (hlen : k < fs.length) {ws' : va_W} (hw : ws.set q0 (a, .inr (ci, fs.set k v)) = ws') (hd : decode cc pc = .ok (.putfield index, 3)) (kk : GW κ nL n1 n2 ws' (pc + 3) lv st) : GW κ nL n1 n2 ws pc lv (v :: .ref a :: st) := by
  obtain ⟨p, l, e, R, s, m, args, below, meth, c, D, A, Q⟩ := κ
  subst hr
  subst hw
  exact fun H locs ls hP hD hS hl => va_put hk.1 hk.2.1 hk.2.2.2.2.1 hin ty0 hty hnm hk.2.2.2.1 hk.2.2.2.2.2.1 hP hD hS q0 he hc k hkN (hk.2.2.2.2.1 _ hlink) (fun _ h => h) hfin (hty k hkN) hn hfit hlen hd (fun H1 locs1 hP hD hS => kk H1 locs1 ls hP hD hS hl)
theorem g_putF (hk : GC κ l0 D0 zt cc nL own Ts tys rm) (hN : GN κ) {C ref : String} {T : u_T} {N ci index a : Nat} (hin : ∀ w ∈ u_ws C T N, w ∈ Ts) (ty0 : Nat → FieldType) (hty : ∀ k, k < N → parseFieldDescriptor (T k).2.2.1 = some (ty0 k)) (hnm : ∀ a, a < N → ∀ b, b < N → a ≠ b → (T a).2.1 ≠ (T b).2.1) (q0 : Nat) {fs : List Value} (he : ws[q0]? = some (a, .inr (ci, fs))) (hc : vwCl[ci]? = some (C, T, N)) (k : Nat) (hkN : k < N) (hlink : Cond.fieldLink own index ref (T k).2.1 (T k).2.2.1 ∈ Ts) (hr : (T k).1 = ref) (hfin : (T k).2.2.2 = true) (hro : ref = own) {v : Value} (hn : narrow (ty0 k) v = v) (hfit : fits (ty0 k) v = true) (hlen : k < fs.length) {ws' : va_W} (hw : ws.set q0 (a, .inr (ci, fs.set k v)) = ws') (hd : decode cc pc = .ok (.putfield index, 3)) (kk : GW κ nL n1 n2 ws' (pc + 3) lv st) : GW κ nL n1 n2 ws pc lv (v :: .ref a :: st) := by
  obtain ⟨p, l, e, R, s, m, args, below, meth, c, D, A, Q⟩ := κ
  subst hr
  subst hw
  exact fun H locs ls hP hD hS hl => va_putF hk.1 hk.2.1 hk.2.2.2.2.1 hin ty0 hty hnm hk.2.2.2.1 hk.2.2.2.2.2.1 hP hD hS q0 he hc k hkN (hk.2.2.2.2.1 _ hlink) (fun _ h => h) hfin hN hro (hty k hkN) hn hfit hlen hd (fun H1 locs1 hP hD hS => kk H1 locs1 ls hP hD hS hl)
theorem g_iald (hk : GC κ l0 D0 zt cc nL own Ts tys rm) {a : Nat} (q0 t0 : Nat) {cA : ClassId} {n : Nat} {f : Nat → Int32} (ha : ws[q0]? = some (a, .inl (cA, n, .inl f))) (ht : tys[t0]? = some (cA, .int)) {i v : Int32} (hin : vp_in i n) (hv : f i.toNatClampNeg = v) (hd : decode cc pc = .ok (.iaload, 1)) (kk : GW κ nL n1 n2 ws (pc + 1) lv (.int v :: st)) : GW κ nL n1 n2 ws pc lv (.int i :: .ref a :: st) := by
  obtain ⟨p, l, e, R, s, m, args, below, meth, c, D, A, Q⟩ := κ
  subst hv
  exact fun H locs ls hP hD hS hl => va_iald hk.1 hk.2.1 hk.2.2.2.2.2.1 hP q0 t0 ha ht hin hd (kk H locs ls hP hD hS hl)
theorem g_bald (hk : GC κ l0 D0 zt cc nL own Ts tys rm) {a : Nat} (q0 t0 : Nat) {cA : ClassId} {n : Nat} {f : Nat → Int32} (ha : ws[q0]? = some (a, .inl (cA, n, .inl f))) (ht : tys[t0]? = some (cA, .byte)) {i v : Int32} (hin : vp_in i n) (hv : f i.toNatClampNeg = v) (hd : decode cc pc = .ok (.baload, 1)) (kk : GW κ nL n1 n2 ws (pc + 1) lv (.int v :: st)) : GW κ nL n1 n2 ws pc lv (.int i :: .ref a :: st) := by
  obtain ⟨p, l, e, R, s, m, args, below, meth, c, D, A, Q⟩ := κ
  subst hv
  exact fun H locs ls hP hD hS hl => va_bald hk.1 hk.2.1 hk.2.2.2.2.2.1 hP q0 t0 ha ht hin hd (kk H locs ls hP hD hS hl)
theorem g_zald (hk : GC κ l0 D0 zt cc nL own Ts tys rm) {a : Nat} (q0 t0 : Nat) {cA : ClassId} {n : Nat} {f : Nat → Int32} (ha : ws[q0]? = some (a, .inl (cA, n, .inl f))) (ht : tys[t0]? = some (cA, .boolean)) {i v : Int32} (hin : vp_in i n) (hv : f i.toNatClampNeg = v) (hd : decode cc pc = .ok (.baload, 1)) (kk : GW κ nL n1 n2 ws (pc + 1) lv (.int v :: st)) : GW κ nL n1 n2 ws pc lv (.int i :: .ref a :: st) := by
  obtain ⟨p, l, e, R, s, m, args, below, meth, c, D, A, Q⟩ := κ
  subst hv
  exact fun H locs ls hP hD hS hl => va_zald hk.1 hk.2.1 hk.2.2.2.2.2.1 hP q0 t0 ha ht hin hd (kk H locs ls hP hD hS hl)
theorem g_lald (hk : GC κ l0 D0 zt cc nL own Ts tys rm) {a : Nat} (q0 t0 : Nat) {cA : ClassId} {n : Nat} {f : Nat → Int64} (ha : ws[q0]? = some (a, .inl (cA, n, .inr (.inl f)))) (ht : tys[t0]? = some (cA, .long)) {i : Int32} {v : Int64} (hin : vp_in i n) (hv : f i.toNatClampNeg = v) (hd : decode cc pc = .ok (.laload, 1)) (kk : GW κ nL n1 n2 ws (pc + 1) lv (.long v :: st)) : GW κ nL n1 n2 ws pc lv (.int i :: .ref a :: st) := by
  obtain ⟨p, l, e, R, s, m, args, below, meth, c, D, A, Q⟩ := κ
  subst hv
  exact fun H locs ls hP hD hS hl => va_lald hk.1 hk.2.1 hk.2.2.2.2.2.1 hP q0 t0 ha ht hin hd (kk H locs ls hP hD hS hl)
theorem g_aald (hk : GC κ l0 D0 zt cc nL own Ts tys rm) {a : Nat} (q0 t0 : Nat) {cA : ClassId} {C : String} {n : Nat} {f : Nat → Option Nat} (ha : ws[q0]? = some (a, .inl (cA, n, .inr (.inr (.inr (.inr f)))))) (ht : tys[t0]? = some (cA, .object C)) {i : Int32} {r : Nat} (hin : vp_in i n) (hv : f i.toNatClampNeg = some r) (hd : decode cc pc = .ok (.aaload, 1)) (kk : GW κ nL n1 n2 ws (pc + 1) lv (.ref r :: st)) : GW κ nL n1 n2 ws pc lv (.int i :: .ref a :: st) := by
  obtain ⟨p, l, e, R, s, m, args, below, meth, c, D, A, Q⟩ := κ
  refine fun H locs ls hP hD hS hl => va_aldq hk.1 hk.2.1 hk.2.2.2.2.2.1 hP q0 t0 ha ht hin hd ?_
  rw [hv]
  exact kk H locs ls hP hD hS hl
theorem g_iast (hk : GC κ l0 D0 zt cc nL own Ts tys rm) {a : Nat} (q0 t0 : Nat) {cA : ClassId} {n : Nat} {f : Nat → Int32} (ha : ws[q0]? = some (a, .inl (cA, n, .inl f))) (ht : tys[t0]? = some (cA, .int)) {i x : Int32} (hin : vp_in i n) {j : Nat} (hj : i.toNatClampNeg = j) {ws' : va_W} (hw : ws.set q0 (a, .inl (cA, n, .inl (upd f j x))) = ws') (hd : decode cc pc = .ok (.iastore, 1)) (kk : GW κ nL n1 n2 ws' (pc + 1) lv st) : GW κ nL n1 n2 ws pc lv (.int x :: .int i :: .ref a :: st) := by
  obtain ⟨p, l, e, R, s, m, args, below, meth, c, D, A, Q⟩ := κ
  subst hj
  subst hw
  exact fun H locs ls hP hD hS hl => va_iast hk.1 hk.2.1 hk.2.2.2.2.2.1 hP hD hS q0 t0 ha ht hin hd (fun H1 locs1 hP hD hS => kk H1 locs1 ls hP hD hS hl)
theorem g_zast (hk : GC κ l0 D0 zt cc nL own Ts tys rm) {a : Nat} (q0 t0 : Nat) {cA : ClassId} {n : Nat} {f : Nat → Int32} (ha : ws[q0]? = some (a, .inl (cA, n, .inl f))) (ht : tys[t0]? = some (cA, .boolean)) {i x y : Int32} (hin : vp_in i n) {j : Nat} (hj : i.toNatClampNeg = j) (hx : vp_nar .boolean x = y) {ws' : va_W} (hw : ws.set q0 (a, .inl (cA, n, .inl (upd f j y))) = ws') (hd : decode cc pc = .ok (.bastore, 1)) (kk : GW κ nL n1 n2 ws' (pc + 1) lv st) : GW κ nL n1 n2 ws pc lv (.int x :: .int i :: .ref a :: st) := by
  obtain ⟨p, l, e, R, s, m, args, below, meth, c, D, A, Q⟩ := κ
  subst hj
  subst hx
  subst hw
  exact fun H locs ls hP hD hS hl => va_zast hk.1 hk.2.1 hk.2.2.2.2.2.1 hP hD hS q0 t0 ha ht hin hd (fun H1 locs1 hP hD hS => kk H1 locs1 ls hP hD hS hl)
theorem g_bast (hk : GC κ l0 D0 zt cc nL own Ts tys rm) {a : Nat} (q0 t0 : Nat) {cA : ClassId} {n : Nat} {f : Nat → Int32} (ha : ws[q0]? = some (a, .inl (cA, n, .inl f))) (ht : tys[t0]? = some (cA, .byte)) {i x y : Int32} (hin : vp_in i n) {j : Nat} (hj : i.toNatClampNeg = j) (hx : vp_nar .byte x = y) {ws' : va_W} (hw : ws.set q0 (a, .inl (cA, n, .inl (upd f j y))) = ws') (hd : decode cc pc = .ok (.bastore, 1)) (kk : GW κ nL n1 n2 ws' (pc + 1) lv st) : GW κ nL n1 n2 ws pc lv (.int x :: .int i :: .ref a :: st) := by
  obtain ⟨p, l, e, R, s, m, args, below, meth, c, D, A, Q⟩ := κ
  subst hj
  subst hx
  subst hw
  exact fun H locs ls hP hD hS hl => va_bast hk.1 hk.2.1 hk.2.2.2.2.2.1 hP hD hS q0 t0 ha ht hin hd (fun H1 locs1 hP hD hS => kk H1 locs1 ls hP hD hS hl)
theorem g_last (hk : GC κ l0 D0 zt cc nL own Ts tys rm) {a : Nat} (q0 t0 : Nat) {cA : ClassId} {n : Nat} {f : Nat → Int64} (ha : ws[q0]? = some (a, .inl (cA, n, .inr (.inl f)))) (ht : tys[t0]? = some (cA, .long)) {i : Int32} {x : Int64} (hin : vp_in i n) {j : Nat} (hj : i.toNatClampNeg = j) {ws' : va_W} (hw : ws.set q0 (a, .inl (cA, n, .inr (.inl (vp_updL f j x)))) = ws') (hd : decode cc pc = .ok (.lastore, 1)) (kk : GW κ nL n1 n2 ws' (pc + 1) lv st) : GW κ nL n1 n2 ws pc lv (.long x :: .int i :: .ref a :: st) := by
  obtain ⟨p, l, e, R, s, m, args, below, meth, c, D, A, Q⟩ := κ
  subst hj
  subst hw
  exact fun H locs ls hP hD hS hl => va_last hk.1 hk.2.1 hk.2.2.2.2.2.1 hP hD hS q0 t0 ha ht hin hd (fun H1 locs1 hP hD hS => kk H1 locs1 ls hP hD hS hl)
theorem g_alen (hk : GC κ l0 D0 zt cc nL own Ts tys rm) {a : Nat} (q0 t0 : Nat) {cA : ClassId} {x : vp_A} (ha : ws[q0]? = some (a, .inl (cA, x))) {ty : FieldType} (ht : tys[t0]? = some (cA, ty)) {v : Int32} (hv : Int32.ofNat x.1 = v) (hd : decode cc pc = .ok (.arraylength, 1)) (kk : GW κ nL n1 n2 ws (pc + 1) lv (.int v :: st)) : GW κ nL n1 n2 ws pc lv (.ref a :: st) := by
  obtain ⟨p, l, e, R, s, m, args, below, meth, c, D, A, Q⟩ := κ
  exact fun H locs ls hP hD hS hl => va_alen hk.1 hk.2.1 hk.2.2.2.2.2.1 hP q0 t0 ha ht hv hd (kk H locs ls hP hD hS hl)
/-! returns -/
theorem g_iret (hk : GC κ l0 D0 zt cc nL own Ts tys rm) {ty : FieldType} {P : Option Value → Tys → va_W → Prop} {mc ms sz : Nat} {w : va_W} (hR : GR κ (some ty) P mc ms w sz) {x : Int32} (hn : narrow ty (.int x) = .int x) (hP : P (some (.int x)) tys ws) (hd : decode cc pc = .ok (.ireturn, 1)) : GW κ nL mc ms ws pc lv [.int x] := by
  obtain ⟨p, l, e, R, s, m, args, below, meth, c, D, A, Q⟩ := κ
  obtain ⟨rfl, rfl, hr, hlk⟩ := hR
  intro H locs ls hPw hD hS hl
  exact W.zret hk.1 hk.2.1 hr hn (fun t ht hW => ⟨⟨_, tys, ws, rfl, hP, by rw [ht]; exact hPw, va_K.moved hW.alike hk.2.2.2.2.2.1, hD⟩, hS.F ht⟩) hS.2.2 hd hlk
theorem g_vret (hk : GC κ l0 D0 zt cc nL own Ts tys rm) {P : Option Value → Tys → va_W → Prop} {mc ms sz : Nat} {w : va_W} (hR : GR κ none P mc ms w sz) (hP : P none tys ws) (hd : decode cc pc = .ok (.return_, 1)) : GW κ nL mc ms ws pc lv [] := by
  obtain ⟨p, l, e, R, s, m, args, below, meth, c, D, A, Q⟩ := κ
  obtain ⟨rfl, rfl, hr, hlk⟩ := hR
  intro H locs ls hPw hD hS hl
  exact W.vret hk.1 hk.2.1 hr (fun t ht hW => ⟨⟨_, tys, ws, rfl, hP, by rw [ht]; exact hPw, va_K.moved hW.alike hk.2.2.2.2.2.1, hD⟩, hS.F ht⟩) hS.2.2 hd hlk
theorem g_lret (hk : GC κ l0 D0 zt cc nL own Ts tys rm) {P : Option Value → Tys → va_W → Prop} {mc ms sz : Nat} {w : va_W} (hR : GR κ (some .long) P mc ms w sz) {x : Int64} (hP : P (some (.long x)) tys ws) (hd : decode cc pc = .ok (.lreturn, 1)) : GW κ nL mc ms ws pc lv [.long x] := by
  obtain ⟨p, l, e, R, s, m, args, below, meth, c, D, A, Q⟩ := κ
  obtain ⟨rfl, rfl, hr, hlk⟩ := hR
  intro H locs ls hPw hD hS hl
  exact W.lret hk.1 hk.2.1 hr (fun t ht hW => ⟨⟨_, tys, ws, rfl, hP, by rw [ht]; exact hPw, va_K.moved hW.alike hk.2.2.2.2.2.1, hD⟩, hS.F ht⟩) hS.2.2 hd hlk
/-! Math -/
theorem g_mmax (hk : GC κ l0 D0 zt cc nL own Ts tys rm) {index : Nat} (h1 : Cond.methodLink own index Lib.Math.max.name ∈ Ts) (h2 : Cond.static Lib.Math.max.name ∈ Ts) (h3 : Cond.initialized "java/lang/Math" ∈ Ts) (h4 : Cond.code Lib.Math.max.name Lib.Math.max.code 2 (some .int) ∈ Ts) (hf : 1 ≤ rm.frames) (hlo : (st.map fun v => v.category).sum + 13 ≤ rm.locals) (hc : n1 ≤ rm.cells) (hs : n2 ≤ rm.slots) {x y : Int32} (hd : decode cc pc = .ok (.invokestatic index, 3)) (kk : GW κ nL n1 n2 ws (pc + 3) lv (.int (if x < y then y else x) :: st)) : GW κ nL n1 n2 ws pc lv (.int y :: .int x :: st) := by
  obtain ⟨p, l, e, R, s, m, args, below, meth, c, D, A, Q⟩ := κ
  obtain ⟨hx, hb, hml, hown, hts, hK, hA, rfl, hz⟩ := hk
  exact fun H locs ls hP hD hS hl => va_mmax hx hb (hml.trans hl.1.symm) hown (hts _ h1) (hts _ h2) (hts _ h3) (hts _ h4) hf hlo hc hs hd (kk H locs ls hP hD hS hl)
theorem g_mmin (hk : GC κ l0 D0 zt cc nL own Ts tys rm) {index : Nat} (h1 : Cond.methodLink own index Lib.Math.min.name ∈ Ts) (h2 : Cond.static Lib.Math.min.name ∈ Ts) (h3 : Cond.initialized "java/lang/Math" ∈ Ts) (h4 : Cond.code Lib.Math.min.name Lib.Math.min.code 2 (some .int) ∈ Ts) (hf : 1 ≤ rm.frames) (hlo : (st.map fun v => v.category).sum + 13 ≤ rm.locals) (hc : n1 ≤ rm.cells) (hs : n2 ≤ rm.slots) {x y : Int32} (hd : decode cc pc = .ok (.invokestatic index, 3)) (kk : GW κ nL n1 n2 ws (pc + 3) lv (.int (if y < x then y else x) :: st)) : GW κ nL n1 n2 ws pc lv (.int y :: .int x :: st) := by
  obtain ⟨p, l, e, R, s, m, args, below, meth, c, D, A, Q⟩ := κ
  obtain ⟨hx, hb, hml, hown, hts, hK, hA, rfl, hz⟩ := hk
  exact fun H locs ls hP hD hS hl => va_mmin hx hb (hml.trans hl.1.symm) hown (hts _ h1) (hts _ h2) (hts _ h3) (hts _ h4) hf hlo hc hs hd (kk H locs ls hP hD hS hl)
/-! Object.<init>, new, newarray -/
theorem g_objInit (hk : GC κ l0 D0 zt cc nL own Ts tys rm) {idx a : Nat} (h1 : Cond.methodLink own idx Lib.objectInit ∈ Ts) (h2 : Cond.instanceMethod Lib.objectInit ∈ Ts) (h3 : Cond.code Lib.objectInit ⟨#[0xb1]⟩ 1 none ∈ Ts) (hf : 1 ≤ rm.frames) (hlo : (st.map fun v => v.category).sum + 12 ≤ rm.locals) (hd : decode cc pc = .ok (.invokespecial idx, 3)) (kk : GW κ nL n1 n2 ws (pc + 3) lv st) : GW κ nL n1 n2 ws pc lv (.ref a :: st) := by
  obtain ⟨p, l, e, R, s, m, args, below, meth, c, D, A, Q⟩ := κ
  obtain ⟨hx, hb, hml, hown, hts, hK, hA, rfl, hz⟩ := hk
  exact fun H locs ls hP hD hS hl => W.objInit hx hb hown (hts _ h1) (hts _ h2) (hts _ h3) rfl (by rw [hml]; exact hl.1) rfl hd hf (by show 2 * 0 + _ + 12 ≤ _; omega) (kk H locs ls hP hD hS hl)
theorem g_new (hk : GC κ l0 D0 zt cc nL own Ts tys rm) {C : String} {T : u_T} {N ci index : Nat} (hin : ∀ w ∈ u_ws C T N, w ∈ Ts) (ty : Nat → FieldType) (hty : ∀ k, k < N → parseFieldDescriptor (T k).2.2.1 = some (ty k)) (h1 : Cond.classLink own index C ∈ Ts) (h2 : Cond.instantiable C N ∈ Ts) (h3 : Cond.initialized C ∈ Ts) (hc : vwCl[ci]? = some (C, T, N)) {fs : List Value} (hfs : ∀ j, j < N → defaultValue (ty j) = vp_V fs j) (hcells : n1 + 1 ≤ rm.cells) (hslots : n2 + N ≤ rm.slots) (hd : decode cc pc = .ok (.new index, 3))
    (kk : ∀ q : Nat, GW κ nL (n1 + 1) (n2 + N) (ws ++ [(q, .inr (ci, fs))]) (pc + 3) lv (.ref q :: st)) : GW κ nL n1 n2 ws pc lv st := by
  obtain ⟨p, l, e, R, s, m, args, below, meth, c, D, A, Q⟩ := κ
  obtain ⟨hx, hb, hml, hown, hts, hK, hA, rfl, hz⟩ := hk
  exact fun H locs ls hP hD hS hl => va_new hx hb hts hin ty hty hown (hts _ h1) (hts _ h2) (hts _ h3) hK hP hD hS hA hc hfs hcells hslots hd (fun q H1 hP hD hS => kk q H1 locs ls hP hD hS hl)
theorem g_newa (hk : GC κ l0 D0 zt cc nL own Ts tys rm) {atype : ArrayType} {ty : FieldType} (h1 : Cond.arrayClass (newarray.typeOf atype) ∈ Ts) (hty : newarray.typeOf atype = ty) {n : Int32} {N' : Nat} {a0 : vp_A} (ha : ∀ cA : ClassId, vp_cell cA a0 = arrV cA N' (fun _ => defaultValue ty)) (hn : ¬ n < 0) (hN : n.toNatClampNeg = N') (hbytes : N' * componentBytes ty ≤ 536870912) (hcells : n1 + 1 ≤ rm.cells) (hslots : n2 + N' ≤ rm.slots) (hd : decode cc pc = .ok (.newarray atype, 2))
    (kk : ∀ (q : Nat) (cA : ClassId), GC κ l0 D0 zt cc nL own Ts (tys ++ [(cA, ty)]) rm → GW κ nL (n1 + 1) (n2 + N') (ws ++ [(q, .inl (cA, a0))]) (pc + 2) lv (.ref q :: st)) : GW κ nL n1 n2 ws pc lv (.int n :: st) := by
  obtain ⟨p, l, e, R, s, m, args, below, meth, c, D, A, Q⟩ := κ
  obtain ⟨hx, hb, hml, hown, hts, hK, hA, rfl, hz⟩ := hk
  exact fun H locs ls hP hD hS hl => va_newa hx hb (hts _ h1) hty hK hP hD hS hA ha hn hN hbytes hcells hslots hd (fun q cA H1 hK hP hD hS => kk q cA ⟨hx, hb, hml, hown, hts, hK, hA, rfl, hz⟩ H1 locs ls hP hD hS hl)
theorem g_newq (hk : GC κ l0 D0 zt cc nL own Ts tys rm) {index : Nat} (h1 : Cond.classLink own index RX8 ∈ Ts) {n : Int32} {N' : Nat} (hn : ¬ n < 0) (hN : n.toNatClampNeg = N') (hbytes : N' * 4 ≤ 536870912) (hcells : n1 + 1 ≤ rm.cells) (hslots : n2 + N' ≤ rm.slots) (hd : decode cc pc = .ok (.anewarray index, 3))
    (kk : ∀ (q : Nat) (cA : ClassId), GC κ l0 D0 zt cc nL own Ts (tys ++ [(cA, .object RX8)]) rm → GW κ nL (n1 + 1) (n2 + N') (ws ++ [(q, .inl (cA, N', .inr (.inr (.inr (.inr (fun _ => none))))))]) (pc + 3) lv (.ref q :: st)) : GW κ nL n1 n2 ws pc lv (.int n :: st) := by
  obtain ⟨p, l, e, R, s, m, args, below, meth, c, D, A, Q⟩ := κ
  obtain ⟨hx, hb, hml, hown, hts, hK, hA, rfl, hz⟩ := hk
  exact fun H locs ls hP hD hS hl => va_newq hx hb hown (hts _ h1) hz.1.2.2.2.2.1 hK hP hD hS hA hn hN hbytes hcells hslots hd (fun q cA H1 hK hP hD hS => kk q cA ⟨hx, hb, hml, hown, hts, hK, hA, rfl, hz⟩ H1 locs ls hP hD hS hl)
theorem g_aast (hk : GC κ l0 D0 zt cc nL own Ts tys rm) {a : Nat} (q0 t0 qk ci : Nat) {cA : ClassId} {r : vw_C} {n v : Nat} {vs : List Value} {f : Nat → Option Nat} (ha : ws[q0]? = some (a, .inl (cA, n, .inr (.inr (.inr (.inr f)))))) (ht : tys[t0]? = some (cA, .object r.1)) (hv : ws[qk]? = some (v, .inr (ci, vs))) (hc : vwCl[ci]? = some r) {i : Int32} (hin : vp_in i n) {j : Nat} (hj : i.toNatClampNeg = j) {ws' : va_W} (hw : ws.set q0 (a, .inl (cA, n, .inr (.inr (.inr (.inr (va_up f j (some v))))))) = ws') (hd : decode cc pc = .ok (.aastore, 1)) (kk : GW κ nL n1 n2 ws' (pc + 1) lv st) : GW κ nL n1 n2 ws pc lv (.ref v :: .int i :: .ref a :: st) := by
  obtain ⟨p, l, e, R, s, m, args, below, meth, c, D, A, Q⟩ := κ
  subst hj
  subst hw
  exact fun H locs ls hP hD hS hl => va_astq hk.1 hk.2.1 hk.2.2.2.2.2.1 hP hD hS q0 t0 qk ci ha ht hv hc hin hd (fun H1 locs1 hP hD hS => kk H1 locs1 ls hP hD hS hl)
/-! statics -/
theorem g_getsL (hk : GC κ l0 D0 zt cc nL own Ts tys rm) {index : Nat} (h1 : Cond.fieldLink own index "WarpDesk$Settings" "LOWEST" "[I" ∈ Ts) (hd : decode cc pc = .ok (.getstatic index, 3)) (kk : GW κ nL n1 n2 ws (pc + 3) lv (.ref zt.1 :: st)) : GW κ nL n1 n2 ws pc lv st := by
  obtain ⟨p, l, e, R, s, m, args, below, meth, c, D, A, Q⟩ := κ
  obtain ⟨hx, hb, hml, hown, hts, hK, hA, rfl, hz⟩ := hk
  exact fun H locs ls hP hD hS hl => va_gets hx hb hz.1.1.1 hS hown (hts _ h1) (fun _ h => h) hd (kk H locs ls hP hD hS hl)
theorem g_getsH (hk : GC κ l0 D0 zt cc nL own Ts tys rm) {index : Nat} (h1 : Cond.fieldLink own index "WarpDesk$Settings" "HIGHEST" "[I" ∈ Ts) (hd : decode cc pc = .ok (.getstatic index, 3)) (kk : GW κ nL n1 n2 ws (pc + 3) lv (.ref zt.2.1 :: st)) : GW κ nL n1 n2 ws pc lv st := by
  obtain ⟨p, l, e, R, s, m, args, below, meth, c, D, A, Q⟩ := κ
  obtain ⟨hx, hb, hml, hown, hts, hK, hA, rfl, hz⟩ := hk
  exact fun H locs ls hP hD hS hl => va_gets hx hb hz.1.2.1.1 hS hown (hts _ h1) (fun _ h => h) hd (kk H locs ls hP hD hS hl)
theorem g_getsU (hk : GC κ l0 D0 zt cc nL own Ts tys rm) {index : Nat} (h1 : Cond.fieldLink own index "WarpDesk$Settings" "UNTOLD" "[I" ∈ Ts) (hd : decode cc pc = .ok (.getstatic index, 3)) (kk : GW κ nL n1 n2 ws (pc + 3) lv (.ref zt.2.2 :: st)) : GW κ nL n1 n2 ws pc lv st := by
  obtain ⟨p, l, e, R, s, m, args, below, meth, c, D, A, Q⟩ := κ
  obtain ⟨hx, hb, hml, hown, hts, hK, hA, rfl, hz⟩ := hk
  exact fun H locs ls hP hD hS hl => va_gets hx hb hz.1.2.2.1.1 hS hown (hts _ h1) (fun _ h => h) hd (kk H locs ls hP hD hS hl)
theorem g_sL (hk : GC κ l0 D0 zt cc nL own Ts tys rm) {i : Int32} {v : Value} (hin : vp_in i 4) (hv : zLow i.toNatClampNeg = v) (hd : decode cc pc = .ok (.iaload, 1)) (kk : GW κ nL n1 n2 ws (pc + 1) lv (v :: st)) : GW κ nL n1 n2 ws pc lv (.int i :: .ref zt.1 :: st) := by
  obtain ⟨p, l, e, R, s, m, args, below, meth, c, D, A, Q⟩ := κ
  obtain ⟨hx, hb, hml, hown, hts, hK, hA, rfl, hz⟩ := hk
  exact fun H locs ls hP hD hS hl => va_ti hx hb hz.1.1.2 hS hin hv hd (kk H locs ls hP hD hS hl)
theorem g_sH (hk : GC κ l0 D0 zt cc nL own Ts tys rm) {i : Int32} {v : Value} (hin : vp_in i 4) (hv : zHigh i.toNatClampNeg = v) (hd : decode cc pc = .ok (.iaload, 1)) (kk : GW κ nL n1 n2 ws (pc + 1) lv (v :: st)) : GW κ nL n1 n2 ws pc lv (.int i :: .ref zt.2.1 :: st) := by
  obtain ⟨p, l, e, R, s, m, args, below, meth, c, D, A, Q⟩ := κ
  obtain ⟨hx, hb, hml, hown, hts, hK, hA, rfl, hz⟩ := hk
  exact fun H locs ls hP hD hS hl => va_ti hx hb hz.1.2.1.2 hS hin hv hd (kk H locs ls hP hD hS hl)
theorem g_sU (hk : GC κ l0 D0 zt cc nL own Ts tys rm) {i : Int32} {v : Value} (hin : vp_in i 4) (hv : zUn i.toNatClampNeg = v) (hd : decode cc pc = .ok (.iaload, 1)) (kk : GW κ nL n1 n2 ws (pc + 1) lv (v :: st)) : GW κ nL n1 n2 ws pc lv (.int i :: .ref zt.2.2 :: st) := by
  obtain ⟨p, l, e, R, s, m, args, below, meth, c, D, A, Q⟩ := κ
  obtain ⟨hx, hb, hml, hown, hts, hK, hA, rfl, hz⟩ := hk
  exact fun H locs ls hP hD hS hl => va_ti hx hb hz.1.2.2.1.2 hS hin hv hd (kk H locs ls hP hD hS hl)
theorem g_lenL (hk : GC κ l0 D0 zt cc nL own Ts tys rm) (hd : decode cc pc = .ok (.arraylength, 1)) (kk : GW κ nL n1 n2 ws (pc + 1) lv (.int 4 :: st)) : GW κ nL n1 n2 ws pc lv (.ref zt.1 :: st) := by
  obtain ⟨p, l, e, R, s, m, args, below, meth, c, D, A, Q⟩ := κ
  obtain ⟨hx, hb, hml, hown, hts, hK, hA, rfl, hz⟩ := hk
  exact fun H locs ls hP hD hS hl => va_tlen hx hb hz.1.1.2 hS rfl hd (kk H locs ls hP hD hS hl)
theorem g_lenH (hk : GC κ l0 D0 zt cc nL own Ts tys rm) (hd : decode cc pc = .ok (.arraylength, 1)) (kk : GW κ nL n1 n2 ws (pc + 1) lv (.int 4 :: st)) : GW κ nL n1 n2 ws pc lv (.ref zt.2.1 :: st) := by
  obtain ⟨p, l, e, R, s, m, args, below, meth, c, D, A, Q⟩ := κ
  obtain ⟨hx, hb, hml, hown, hts, hK, hA, rfl, hz⟩ := hk
  exact fun H locs ls hP hD hS hl => va_tlen hx hb hz.1.2.1.2 hS rfl hd (kk H locs ls hP hD hS hl)
theorem g_lenU (hk : GC κ l0 D0 zt cc nL own Ts tys rm) (hd : decode cc pc = .ok (.arraylength, 1)) (kk : GW κ nL n1 n2 ws (pc + 1) lv (.int 4 :: st)) : GW κ nL n1 n2 ws pc lv (.ref zt.2.2 :: st) := by
  obtain ⟨p, l, e, R, s, m, args, below, meth, c, D, A, Q⟩ := κ
  obtain ⟨hx, hb, hml, hown, hts, hK, hA, rfl, hz⟩ := hk
  exact fun H locs ls hP hD hS hl => va_tlen hx hb hz.1.2.2.1.2 hS rfl hd (kk H locs ls hP hD hS hl)
/-- UNTOLD.clone() -/
theorem g_cloneU (hk : GC κ l0 D0 zt cc nL own Ts tys rm) {index : Nat} (w1 : Cond.methodLink own index ⟨"[I", "clone", "()Ljava/lang/Object;"⟩ ∈ Ts) (w2 : Cond.sameMethod "[I" "java/lang/Object" "clone" "()Ljava/lang/Object;" ∈ Ts) (w3 : Cond.native ⟨"java/lang/Object", "clone", "()Ljava/lang/Object;"⟩ ∈ Ts) (w4 : Cond.instanceMethod ⟨"java/lang/Object", "clone", "()Ljava/lang/Object;"⟩ ∈ Ts) (w5 : Cond.selects "[I" ⟨"[I", "clone", "()Ljava/lang/Object;"⟩ ⟨"java/lang/Object", "clone", "()Ljava/lang/Object;"⟩ ∈ Ts)
    (hframes : 1 ≤ rm.frames) (hlocals : (st.map fun v => v.category).sum + 14 ≤ rm.locals) (hcells : n1 + 1 ≤ rm.cells) (hslots : n2 + 4 ≤ rm.slots) (hd : decode cc pc = .ok (.invokevirtual index, 3))
    (kk : ∀ (q : Nat) (cA : ClassId), GC κ l0 D0 zt cc nL own Ts (tys ++ [(cA, .int)]) rm → GW κ nL (n1 + 1) (n2 + 4) (ws ++ [(q, .inl (cA, 4, .inl unI))]) (pc + 3) lv (.ref q :: st)) : GW κ nL n1 n2 ws pc lv (.ref zt.2.2 :: st) := by
  obtain ⟨p, l, e, R, s, m, args, below, meth, c, D, A, Q⟩ := κ
  obtain ⟨hx, hb, hml, hown, hts, hK, hA, rfl, hz⟩ := hk
  intro H locs ls hP hD hS hl
  obtain ⟨cell, z1, z2, z3, z4, z5, z6, z7⟩ := hz.1.2.2.2.1
  obtain ⟨c0, t0', f1, f2, f3⟩ := Cond.castable_spec (va_Nw.use (A := args) rfl hz.1.2.2.2.2.2.1)
  cases z2.symm.trans f1
  intro T hT X
  have hsz : cell.slots.size = 4 := by rw [z6]; exact arrV_size _ _ _
  have hcellT : T.heap[zt.2.2]? = some cell := by rw [hT, hS.2.1 _ (Array.getElem?_eq_some_iff.mp z1).1 z7]; exact z1
  obtain ⟨-, kA, hkA, comp, hkind⟩ := State.isArrayOf_alike X.warmed.alike (z3 0 (fun _ => .null))
  obtain ⟨-, kS, hkS, compS, hkindS⟩ := z3 0 (fun _ => .null)
  have hcellE : ({ cls := cell.cls, slots := cell.slots } : Cell) = vp_cell cell.cls (4, .inl unI) := by rw [z6]; rfl
  obtain ⟨vm', X', st'⟩ := X.cloneArray hx hown (hts _ w1) (hts _ w2) (hts _ w3) (hts _ w4) (hts _ w5) (a := zt.2.2) (cell := cell) hcellT (fun k h => z4 k h) z5 z2 f2 f3
    (fun i v hv => by
      have hk' : T.vm.classes[cell.cls]? = some kA := hkA
      have hi : i < 4 := by rw [← hsz]; exact (Array.getElem?_eq_some_iff.mp hv).1
      rw [z6, arrV_read _ _ hi] at hv
      cases hv
      simp [State.fitsSlot, State.slotType?, hk', hkind, fits])
    (g := F0 m pc ls (.ref zt.2.2 :: st)) rfl (by rw [hml]; exact hl.1) rfl (by rw [hb]; exact hd) hframes (by show 2 * 0 + _ + 14 ≤ _; omega) hcells (by rw [hsz]; exact hslots) (hloader := Vm.clonesLoader_of_array hkS hkindS)
  rw [hcellE, hsz] at X'
  generalize hH1 : H.push (vp_cell cell.cls (4, .inl unI)) = H1
  have z1' : H1.size = H.size + 1 := by rw [← hH1, Array.size_push]
  have e1 : H1[H.size]? = some (vp_cell cell.cls (4, .inl unI)) := by rw [← hH1, Array.getElem?_push_size]
  have o1 : ∀ q : Nat, q < H.size → H1[q]? = H[q]? := fun q hq => by rw [← hH1, Array.getElem?_push, if_neg (Nat.ne_of_lt hq)]
  have hkq : ∀ (k : Nat) (y : Nat × va_E), ws[k]? = some y → H1[y.1]? = H[y.1]? := fun k y hy => o1 y.1 ((hP k y hy).lt)
  have hK' : va_K D vwCl (tys ++ [(cell.cls, .int)]) s := ⟨hK.1, fun k y hy => by
      by_cases hl : k < tys.length
      · rw [List.getElem?_append_left hl] at hy
        exact hK.2 k y hy
      · rw [List.getElem?_append_right (by omega)] at hy
        have hz : k - tys.length < 1 := (List.getElem?_eq_some_iff.mp hy).1
        rw [show k - tys.length = 0 by omega] at hy
        cases hy
        exact ⟨z3, z2⟩⟩
  obtain ⟨t, b1, b2⟩ := kk H.size cell.cls ⟨hx, hb, hml, hown, hts, hK', hA, rfl, hz⟩ H1 locs ls ((hP.kept hkq).app (fun k y hy => by
      have hz : k < 1 := (List.getElem?_eq_some_iff.mp hy).1
      rw [show k = 0 by omega] at hy
      cases hy
      exact e1)) (hD.push hP rfl (hA _ hS.1)) ⟨Nat.le_trans hS.1 (by omega), fun y h1 h2 => (o1 y (Nat.lt_of_lt_of_le h1 hS.1)).trans (hS.2.1 y h1 h2), hS.2.2⟩ hl
    ((T.setVm vm').pushCell (vp_cell cell.cls (4, .inl unI))) (by rw [← hH1, ← hT]; rfl) X'
  refine ⟨t, st' t ?_, b2⟩
  rw [hcellE, hT]
  exact b1
/-- checkcast "[I" of a clone: the newest cell of the world -/
theorem g_castI (hk : GC κ l0 D0 zt cc nL own Ts tys rm) {index a : Nat} (w1 : Cond.classLink own index "[I" ∈ Ts) (q0 t0 : Nat) {cA : ClassId} {x : vp_A} (ha : ws[q0]? = some (a, .inl (cA, x))) (ht : tys[t0]? = some (cA, .int)) (hd : decode cc pc = .ok (.checkcast index, 3)) (kk : GW κ nL n1 n2 ws (pc + 3) lv (.ref a :: st)) : GW κ nL n1 n2 ws pc lv (.ref a :: st) := by
  obtain ⟨p, l, e, R, s, m, args, below, meth, c, D, A, Q⟩ := κ
  obtain ⟨hx, hb, hml, hown, hts, hK, hA, rfl, hz⟩ := hk
  exact fun H locs ls hP hD hS hl => va_castA hx hb hown (hts _ w1) hP q0 ha (hK.2 t0 _ ht).2 hd (kk H locs ls hP hD hS hl)
end GI
end
section
/-! CALLS over the G layer: the callee's world is a part of the caller's -/
def SP (ws w wr : va_W) : Prop := ∃ fr fc : Nat → Nat, (∀ i p, wr[i]? = some p → ws[fr i]? = some p) ∧ (∀ i p, w[i]? = some p → ws[fc i]? = some p) ∧ (∀ i j, fr i = fr j → i = j) ∧ (∀ i j, fc i = fc j → i = j) ∧ ∀ i j p q, wr[i]? = some p → w[j]? = some q → fr i ≠ fc j
theorem SP.same (w : va_W) : SP w w [] := ⟨fun i => i, fun i => i, fun i p h => by simp at h, fun _ _ h => h, fun _ _ h => h, fun _ _ h => h, fun i j p q h => by simp at h⟩
theorem SP.suf (wl w : va_W) : SP (wl ++ w) w wl := by
  refine ⟨fun i => i, fun i => wl.length + i, fun i p h => ?_, fun i p h => ?_, fun _ _ h => h, fun i j h => ?_, fun i j p q h h2 => ?_⟩
  · show (wl ++ w)[i]? = some p
    rw [List.getElem?_append_left (List.getElem?_eq_some_iff.mp h).1]; exact h
  · show (wl ++ w)[wl.length + i]? = some p
    rw [List.getElem?_append_right (by omega), Nat.add_sub_cancel_left]; exact h
  · exact Nat.add_left_cancel h
  · have := (List.getElem?_eq_some_iff.mp h).1
    show i ≠ wl.length + j
    omega
theorem SP.pre (w wr : va_W) : SP (w ++ wr) w wr := by
  refine ⟨fun i => w.length + i, fun i => i, fun i p h => ?_, fun i p h => ?_, fun i j h => ?_, fun _ _ h => h, fun i j p q h h2 => ?_⟩
  · show (w ++ wr)[w.length + i]? = some p
    rw [List.getElem?_append_right (by omega), Nat.add_sub_cancel_left]; exact h
  · show (w ++ wr)[i]? = some p
    rw [List.getElem?_append_left (List.getElem?_eq_some_iff.mp h).1]; exact h
  · exact Nat.add_left_cancel h
  · have := (List.getElem?_eq_some_iff.mp h2).1
    show w.length + i ≠ j
    omega
theorem SP.join {A0 : Nat → Prop} {D : va_G} {ws w wr w' : va_W} {H H1 : Heap} (hs : SP ws w wr) (hP : va_P D vwCl ws H) (hD : va_D A0 ws) (hk : ∀ q : Nat, q < H.size → ¬ va_A w H.size q → H1[q]? = H[q]?) (hF : ∀ q, va_A w H.size q → A0 q) (hP1 : va_P D vwCl w' H1) (hD1 : va_D (va_A w H.size) w') : va_P D vwCl (wr ++ w') H1 ∧ va_D A0 (wr ++ w') := by
  obtain ⟨fr, fc, hr, hc, hi, hj, hdis⟩ := hs
  have apart : ∀ (i : Nat) (p : Nat × va_E), wr[i]? = some p → p.1 < H.size ∧ ¬ va_A w H.size p.1 := by
    intro i p h
    have h1 := hr i p h
    have hl := (hP _ p h1).lt
    refine ⟨hl, fun z => ?_⟩
    rcases z with ⟨k, e, z⟩ | z
    · exact hdis i k p (p.1, e) h z (hD.1 _ _ p (p.1, e) h1 (hc k _ z) rfl)
    · omega
  refine ⟨va_P.app (fun k q hq => ?_) hP1, va_D.app ⟨fun i j x y hx hy hxy => hi _ _ (hD.1 _ _ x y (hr _ _ hx) (hr _ _ hy) hxy), fun k q hq => hD.2 _ q (hr _ _ hq)⟩ (hD1.weaken (fun k q _ h => hF q.1 h)) (fun i j x y hx hy hxy => (apart i x hx).2 (by rw [hxy]; exact hD1.2 j y hy))⟩
  obtain ⟨g1, g2⟩ := apart k q hq
  exact (hP _ q (hr _ _ hq)).kept (hk q.1 g1 g2)
section GB
variable {p : Program} {l : Launch} {e : Env} {R : Room} {s : State} {m : MethodId} {args : Array Value} {below : List Frame} {meth : Method} {c : Code} {D : va_G} {A : Nat → Prop} {Q : State → Prop}
theorem g_behind {H : Heap} {locs : List Loc} {n1 n2 mc ms pc : Nat} {ls : Array Slot} {st rest : List Value} {P : Option Value → Tys → va_W → Prop} {ws w wr : va_W} {a : Array Value} {tys : Tys}
    (run : va_Run p l e R s m args below meth c H locs n1 n2 mc ms (F0 m pc ls st) rest (GQ D P w H.size a) (va_A w H.size)) (hs : SP ws w wr) (hP : va_P D vwCl ws H) (hD : va_D A ws) (hS : va_S A s.heap H locs) (hF : ∀ q, va_A w H.size q → A q) (hK : va_K D vwCl tys s)
    (kk : ∀ (v : Option Value) (tys' : Tys) (w' : va_W), P v tys' w' → va_K D vwCl (tys ++ tys') s → ∀ (H1 : Heap) (locs1 : List Loc), va_P D vwCl (wr ++ w') H1 → va_D A (wr ++ w') → va_S A s.heap H1 locs1 → W p l e R s m args below meth c H1 locs1 (n1 + mc) (n2 + ms) Q (F0 m (pc + 3) ls (v.toList ++ rest))) :
    W p l e R s m args below meth c H locs n1 n2 Q (F0 m pc ls st) := by
  intro T hT X
  obtain ⟨v, st₀, t, T', L, h0, X', hL, e1, e2, ⟨⟨v', tys', w', hv, hp, hPw, hKw, hDw⟩, hz, hkq⟩, stp⟩ := run T hT X
  cases hv
  rw [h0] at hz hkq
  have hvm : s.vm.Alike t.vm := by rw [← e2]; exact X'.warmed.alike
  obtain ⟨hP', hD'⟩ := hs.join (H1 := T'.heap) hP hD (fun q h1 h2 => by rw [e1]; exact hkq q h1 h2) hF (by rw [e1]; exact hPw) hDw
  obtain ⟨t2, a1, b1⟩ := kk v tys' w' hp (hK.app (va_K.moved hvm.symm hKw)) T'.heap (locs ++ L) hP' hD'
    ⟨Nat.le_trans hS.1 (by rw [e1]; exact hz), fun q h1 h2 => by rw [e1, hkq q (Nat.lt_of_lt_of_le h1 hS.1) (fun z => h2 (hF q z))]; exact hS.2.1 q h1 h2, fun q hq => by
      rcases List.mem_append.mp hq with h | h
      · exact hS.2.2 q h
      · exact hF _ (hL q h)⟩ T' rfl X'
  exact ⟨t2, stp t2 a1, b1⟩
theorem SP.Fp {H : Heap} {locs : List Loc} {ws w wr : va_W} (hs : SP ws w wr) (hD : va_D A ws) (hS : va_S A s.heap H locs) (hA : ∀ q, s.heap.size ≤ q → A q) : ∀ q, va_A w H.size q → A q := by
  obtain ⟨fr, fc, hr, hc, hi, hj, hdis⟩ := hs
  intro q h
  rcases h with ⟨k, e, h⟩ | h
  · exact hD.2 _ _ (hc k _ h)
  · exact hA q (Nat.le_trans hS.1 h)
theorem SP.Pp {H : Heap} {ws w wr : va_W} (hs : SP ws w wr) (hP : va_P D vwCl ws H) : va_P D vwCl w H := by
  obtain ⟨fr, fc, hr, hc, hi, hj, hdis⟩ := hs
  exact fun k q h => hP _ q (hc k q h)
theorem SP.Dp {ws w wr : va_W} (hs : SP ws w wr) (hD : va_D A ws) : va_D A w := by
  obtain ⟨fr, fc, hr, hc, hi, hj, hdis⟩ := hs
  exact ⟨fun i j x y hx hy hxy => hj _ _ (hD.1 _ _ x y (hc _ _ hx) (hc _ _ hy) hxy), fun k q hq => hD.2 _ q (hc _ _ hq)⟩
theorem g_pre {H : Heap} {locs : List Loc} {zt : Nat × Nat × Nat} {tysC : Tys} {av : List Value} {w : va_W} (hPc : va_P D vwCl w H) (hKc : va_K D vwCl tysC s) (hDc : va_D A w) (hz : ZS zt.1 zt.2.1 zt.2.2 A s s.heap) (hS : va_S A s.heap H locs) (hF : ∀ q, va_A w H.size q → A q) : ∀ U : State, U.heap = H → s.WarmedH U.vm → GP D zt tysC av w H.size av.toArray U := by
  intro U hU hW
  refine ⟨rfl, by rw [hU], by rw [hU]; exact hPc, va_K.moved hW.alike hKc, hDc.weaken (fun _ _ _ _ => trivial), ?_⟩
  rw [hU]
  exact hz.go hW.alike (NS.warm hW) (fun a h1 h2 => hS.2.1 a h1 h2) hF
end GB
theorem tysub {D : va_G} {s : State} {t1 t2 : Tys} (h : va_K D vwCl t1 s) (hs : ∀ q ∈ t2, q ∈ t1) : va_K D vwCl t2 s := ⟨h.1, fun k q hk => by
  obtain ⟨i, hi⟩ := List.getElem?_of_mem (hs q (List.mem_of_getElem? hk))
  exact h.2 i q hi⟩
theorem GC.tys {κ : Cx} {l0 : Launch} {D0 : va_G} {zt : Nat × Nat × Nat} {cc : ByteArray} {nL : Nat} {own : String} {Ts : List Cond} {t1 t2 : Tys} {rm : Room} (hk : GC κ l0 D0 zt cc nL own Ts t1 rm) (hs : ∀ q ∈ t2, q ∈ t1) : GC κ l0 D0 zt cc nL own Ts t2 rm := by
  obtain ⟨p, l, e, R, s, m, args, below, meth, c, D, A, Q⟩ := κ
  obtain ⟨hx, hb, hml, hown, hts, hK, hA, hz⟩ := hk
  exact ⟨hx, hb, hml, hown, hts, tysub hK hs, hA, hz⟩
section GK
variable {κ : Cx} {l0 : Launch} {D0 : va_G} {zt : Nat × Nat × Nat} {cc : ByteArray} {nL : Nat} {own : String} {Ts : List Cond} {tys tysC : Tys} {rm rmy : Room} {n1 n2 : Nat} {ws w wr : va_W} {pc : Nat} {lv : List (Nat × Value)} {st : List Value}
  {y : MethodName} {wsy wsy' : List Cond} {As rest : List Value} {b : Nat} {P : Option Value → Tys → va_W → Prop} {mc ms n idx maxL : Nat} {bytes : ByteArray} {ret : Option FieldType} {C : String} {T : u_T} {N ci : Nat} {fs : List Value}
theorem g_callV (hk : GC κ l0 D0 zt cc nL own Ts tys rm) (hM : GM l0 D0 zt tysC y wsy rmy (.ref b :: As) w P mc ms) (hs : SP ws w wr) (hty : ∀ q ∈ tysC, q ∈ tys)
    (hG : GoodIn Ts (wsV own idx C y wsy)) (hw : wsy = Cond.code y bytes maxL ret :: wsy') (hrc : rmy.cells = mc) (hrs : rmy.slots = ms) (hdd : y.cls = C ∧ y.cls ≠ "java/lang/invoke/MethodHandle" ∧ y.cls ≠ "java/lang/invoke/VarHandle" ∧ (parseMethodDescriptor y.desc).map (fun d => d.parameters.length) = some n) (hRm : rmy.frames + 1 ≤ rm.frames ∧ 8 + (maxL + 11) + rmy.locals ≤ rm.locals)
    (q0 : Nat) (he : w[q0]? = some (b, .inr (ci, fs))) (hc : vwCl[ci]? = some (C, T, N)) (hn : As.length = n) (hst : st = As.reverse ++ .ref b :: rest) (hcat : (rest.map fun v => v.category).sum ≤ 8) (hf : n1 + mc ≤ rm.cells ∧ n2 + ms ≤ rm.slots) (hd : decode cc pc = .ok (.invokevirtual idx, 3))
    (kk : ∀ (v : Option Value) (tys' : Tys) (w' : va_W), P v tys' w' → GC κ l0 D0 zt cc nL own Ts (tys ++ tys') rm → GW κ nL (n1 + mc) (n2 + ms) (wr ++ w') (pc + 3) lv (v.toList ++ rest)) : GW κ nL n1 n2 ws pc lv st := by
  obtain ⟨p, l, e, R, s, m, args, below, meth, c, D, A, Q⟩ := κ
  obtain ⟨hx, hb, hml, hown, hts, hK, hA, rfl, hz, rfl, rfl⟩ := hk
  subst hst
  intro H locs ls hP hD hS hl
  have hF := hs.Fp hD hS hA
  have hKc := tysub hK hty
  exact g_behind (tys := tys) (va_runV (As := As) (rest := rest) ⟨hx, hb, hml, hown, hts⟩ (hM H.size) (cwV n hts hG hw hrc hrs hdd hRm) ⟨GP.blind, va_recv hKc (hs.Pp hP) hc he, g_pre (hs.Pp hP) hKc (hs.Dp hD) hz hS hF⟩ rfl hn hl.1 rfl (lv_room hcat) hd hf) hs hP hD hS hF hK
    (fun v tys' w' hp hK' H1 locs1 hP' hD' hS' => kk v tys' w' hp ⟨hx, hb, hml, hown, hts, hK', hA, rfl, hz, rfl, rfl⟩ H1 locs1 ls hP' hD' hS' hl)
theorem g_callS (hk : GC κ l0 D0 zt cc nL own Ts tys rm) (hM : GM l0 D0 zt tysC y wsy rmy As w P mc ms) (hs : SP ws w wr) (hty : ∀ q ∈ tysC, q ∈ tys)
    (hG : GoodIn Ts (va_wsS own idx y wsy)) (hw : wsy = Cond.code y bytes maxL ret :: wsy') (hrc : rmy.cells = mc) (hrs : rmy.slots = ms) (hdd : y.cls ≠ "java/lang/invoke/MethodHandle" ∧ y.cls ≠ "java/lang/invoke/VarHandle" ∧ (parseMethodDescriptor y.desc).map (fun d => d.parameters.length) = some n) (hRm : rmy.frames + 1 ≤ rm.frames ∧ 8 + (maxL + 11) + rmy.locals ≤ rm.locals)
    (hn : As.length = n) (hst : st = As.reverse ++ rest) (hcat : (rest.map fun v => v.category).sum ≤ 8) (hf : n1 + mc ≤ rm.cells ∧ n2 + ms ≤ rm.slots) (hd : decode cc pc = .ok (.invokestatic idx, 3))
    (kk : ∀ (v : Option Value) (tys' : Tys) (w' : va_W), P v tys' w' → GC κ l0 D0 zt cc nL own Ts (tys ++ tys') rm → GW κ nL (n1 + mc) (n2 + ms) (wr ++ w') (pc + 3) lv (v.toList ++ rest)) : GW κ nL n1 n2 ws pc lv st := by
  obtain ⟨p, l, e, R, s, m, args, below, meth, c, D, A, Q⟩ := κ
  obtain ⟨hx, hb, hml, hown, hts, hK, hA, rfl, hz, rfl, rfl⟩ := hk
  subst hst
  intro H locs ls hP hD hS hl
  have hF := hs.Fp hD hS hA
  have hKc := tysub hK hty
  exact g_behind (tys := tys) (va_runS (As := As) (rest := rest) ⟨hx, hb, hml, hown, hts⟩ (hM H.size) (va_cwS n hts hG hw hrc hrs hdd hRm) ⟨GP.blind, g_pre (hs.Pp hP) hKc (hs.Dp hD) hz hS hF⟩ rfl hn hl.1 rfl (lv_room hcat) hd hf) hs hP hD hS hF hK
    (fun v tys' w' hp hK' H1 locs1 hP' hD' hS' => kk v tys' w' hp ⟨hx, hb, hml, hown, hts, hK', hA, rfl, hz, rfl, rfl⟩ H1 locs1 ls hP' hD' hS' hl)
theorem g_callI (hk : GC κ l0 D0 zt cc nL own Ts tys rm) (hM : GM l0 D0 zt tysC y wsy rmy (.ref b :: As) w P mc ms) (hs : SP ws w wr) (hty : ∀ q ∈ tysC, q ∈ tys)
    (hG : GoodIn Ts wsy) (hw : wsy = Cond.code y bytes maxL none :: wsy') (hrc : rmy.cells = mc) (hrs : rmy.slots = ms) (h1 : Cond.initialized y.cls ∈ Ts) (h2 : Cond.methodLink own idx y ∈ Ts) (h3 : Cond.instanceMethod y ∈ Ts) (hy1 : y.name = "<init>") (hdd : y.cls ≠ "java/lang/invoke/MethodHandle" ∧ y.cls ≠ "java/lang/invoke/VarHandle" ∧ (parseMethodDescriptor y.desc).map (fun d => d.parameters.length) = some n) (hRm : rmy.frames + 1 ≤ rm.frames ∧ 8 + (maxL + 11) + rmy.locals ≤ rm.locals)
    (hn : As.length = n) (hst : st = As.reverse ++ .ref b :: rest) (hcat : (rest.map fun v => v.category).sum ≤ 8) (hf : n1 + mc ≤ rm.cells ∧ n2 + ms ≤ rm.slots) (hd : decode cc pc = .ok (.invokespecial idx, 3))
    (kk : ∀ (v : Option Value) (tys' : Tys) (w' : va_W), P v tys' w' → GC κ l0 D0 zt cc nL own Ts (tys ++ tys') rm → GW κ nL (n1 + mc) (n2 + ms) (wr ++ w') (pc + 3) lv (v.toList ++ rest)) : GW κ nL n1 n2 ws pc lv st := by
  obtain ⟨p, l, e, R, s, m, args, below, meth, c, D, A, Q⟩ := κ
  obtain ⟨hx, hb, hml, hown, hts, hK, hA, rfl, hz, rfl, rfl⟩ := hk
  subst hst
  intro H locs ls hP hD hS hl
  have hF := hs.Fp hD hS hA
  have hKc := tysub hK hty
  exact g_behind (tys := tys) (va_runI (As := As) (rest := rest) ⟨hx, hb, hml, hown, hts⟩ (hM H.size) (cwI n hts hG hw hrc hrs (hts _ h1) (hts _ h2) (hts _ h3) hy1 hdd hRm) ⟨GP.blind, g_pre (hs.Pp hP) hKc (hs.Dp hD) hz hS hF⟩ rfl hn hl.1 rfl (lv_room hcat) hd hf) hs hP hD hS hF hK
    (fun v tys' w' hp hK' H1 locs1 hP' hD' hS' => kk v tys' w' hp ⟨hx, hb, hml, hown, hts, hK', hA, rfl, hz, rfl, rfl⟩ H1 locs1 ls hP' hD' hS' hl)
/-- a nest mate's private constructor: its link is one of NS -/
theorem g_callN (hk : GC κ l0 D0 zt cc nL own Ts tys rm) (hM : GM l0 D0 zt tysC y wsy rmy (.ref b :: As) w P mc ms) (hs : SP ws w wr) (hty : ∀ q ∈ tysC, q ∈ tys)
    (hG : GoodIn Ts wsy) (hw : wsy = Cond.code y bytes maxL none :: wsy') (hrc : rmy.cells = mc) (hrs : rmy.slots = ms) (h1 : Cond.initialized y.cls ∈ Ts) (h2 : ∀ U, NS U → va_Nw (.methodLinkNest own idx y "WarpDesk") U) (h3 : Cond.instanceMethod y ∈ Ts) (hy1 : y.name = "<init>") (hdd : y.cls ≠ "java/lang/invoke/MethodHandle" ∧ y.cls ≠ "java/lang/invoke/VarHandle" ∧ (parseMethodDescriptor y.desc).map (fun d => d.parameters.length) = some n) (hRm : rmy.frames + 1 ≤ rm.frames ∧ 8 + (maxL + 11) + rmy.locals ≤ rm.locals)
    (hn : As.length = n) (hst : st = As.reverse ++ .ref b :: rest) (hcat : (rest.map fun v => v.category).sum ≤ 8) (hf : n1 + mc ≤ rm.cells ∧ n2 + ms ≤ rm.slots) (hd : decode cc pc = .ok (.invokespecial idx, 3))
    (kk : ∀ (v : Option Value) (tys' : Tys) (w' : va_W), P v tys' w' → GC κ l0 D0 zt cc nL own Ts (tys ++ tys') rm → GW κ nL (n1 + mc) (n2 + ms) (wr ++ w') (pc + 3) lv (v.toList ++ rest)) : GW κ nL n1 n2 ws pc lv st := by
  obtain ⟨p, l, e, R, s, m, args, below, meth, c, D, A, Q⟩ := κ
  obtain ⟨hx, hb, hml, hown, hts, hK, hA, rfl, hz, rfl, rfl⟩ := hk
  subst hst
  intro H locs ls hP hD hS hl
  have hF := hs.Fp hD hS hA
  have hKc := tysub hK hty
  exact g_behind (tys := tys) (va_runIN (As := As) (rest := rest) ⟨hx, hb, hml, hown, hts⟩ (hM H.size) ⟨va_cnB n hts hG hw hrc hrs (h2 s hz.2.2.2.2) (hts _ h1) hdd hRm, hy1, hts _ h3⟩ ⟨GP.blind, g_pre (hs.Pp hP) hKc (hs.Dp hD) hz hS hF⟩ rfl hn hl.1 rfl (lv_room hcat) hd hf) hs hP hD hS hF hK
    (fun v tys' w' hp hK' H1 locs1 hP' hD' hS' => kk v tys' w' hp ⟨hx, hb, hml, hown, hts, hK', hA, rfl, hz, rfl, rfl⟩ H1 locs1 ls hP' hD' hS' hl)
end GK
end
section
def up2 (A : Nat → Nat → Int32) (a : Nat) (f : Nat → Int32) : Nat → Nat → Int32 := fun k => if k = a then f else A k
def up2L (A : Nat → Nat → Int64) (a : Nat) (f : Nat → Int64) : Nat → Nat → Int64 := fun k => if k = a then f else A k
def up3 (A : Nat → Nat → Int32) (a j : Nat) (x : Int32) : Nat → Nat → Int32 := fun k => if k = a then upd (A a) j x else A k
def up3L (A : Nat → Nat → Int64) (a j : Nat) (x : Int64) : Nat → Nat → Int64 := fun k => if k = a then vp_updL (A a) j x else A k
theorem upd_same {f : Nat → Int32} {a : Nat} {x : Int32} (h : f a = x) : upd f a x = f := by
  funext k
  unfold upd
  by_cases e : k = a
  · rw [if_pos e, e, h]
  · rw [if_neg e]
theorem up3_same {A : Nat → Nat → Int32} {a j : Nat} {x : Int32} (h : A a j = x) : up3 A a j x = A := by
  funext k
  unfold up3
  by_cases e : k = a
  · rw [if_pos e, e, upd_same h]
  · rw [if_neg e]
/-- the first k places of f, the others of g -/
def cp (f g : Nat → Int32) (k : Nat) : Nat → Int32 := fun j => if j < k then f j else g j
theorem cp_s (f g : Nat → Int32) (k : Nat) : upd (cp f g k) k (f k) = cp f g (k + 1) := by
  funext j
  unfold upd cp
  by_cases e : j = k
  · rw [if_pos e, if_pos (by omega), e]
  · rw [if_neg e]
    by_cases h : j < k
    · rw [if_pos h, if_pos (by omega)]
    · rw [if_neg h, if_neg (by omega)]
theorem i32_sub {x y z : Int32} {a b : Int} (e : z = x - y) (hx : x.toInt = a) (hy : y.toInt = b) (h1 : -2147483648 ≤ a - b) (h2 : a - b < 2147483648) : z.toInt = a - b := by
  rw [e, Int32.toInt_sub, hx, hy]
  exact Int.bmod_eq_of_le (by omega) (by omega)
theorem zg_nil : ∀ w ∈ ([] : List Cond), goodWord w = true := fun _ h => absurd h List.not_mem_nil
theorem zg_app {a b : List Cond} (ha : ∀ w ∈ a, goodWord w = true) (hb : ∀ w ∈ b, goodWord w = true) : ∀ w ∈ a ++ b, goodWord w = true := fun w h => (List.mem_append.mp h).elim (ha w) (hb w)
theorem zg_cons {c : Cond} {a : List Cond} (hc : goodWord c = true) (ha : ∀ w ∈ a, goodWord w = true) : ∀ w ∈ c :: a, goodWord w = true := fun w h => (List.mem_cons.mp h).elim (fun e => e ▸ hc) (ha w)
theorem zi_nil {big : List Cond} : ∀ w ∈ ([] : List Cond), w ∈ big := fun _ h => absurd h List.not_mem_nil
theorem zi_app {big a b : List Cond} (ha : ∀ w ∈ a, w ∈ big) (hb : ∀ w ∈ b, w ∈ big) : ∀ w ∈ a ++ b, w ∈ big := fun w h => (List.mem_append.mp h).elim (ha w) (hb w)
theorem zi_cons {big : List Cond} {c : Cond} {a : List Cond} (hc : c ∈ big) (ha : ∀ w ∈ a, w ∈ big) : ∀ w ∈ c :: a, w ∈ big := fun w h => (List.mem_cons.mp h).elim (fun e => e ▸ hc) (ha w)
theorem gi_sub {big ws : List Cond} (hm : ∀ w ∈ ws, w ∈ big) (h : ∀ w ∈ ws, goodWord w = true) : GoodIn big ws := fun w hw => ⟨hm w hw, good_of_word (h w hw)⟩
theorem gi_V {big ws : List Cond} {own C : String} {idx : Nat} {y : MethodName} (h1 : Cond.methodLink own idx y ∈ big) (h2 : Cond.instanceMethod y ∈ big) (h3 : Cond.selects C y y ∈ big) (h4 : Cond.initialized C ∈ big) (h : GoodIn big ws) : GoodIn big (wsV own idx C y ws) :=
  goodIn_app (gi_sub (zi_cons h1 (zi_cons h2 (zi_cons h3 (zi_cons h4 zi_nil)))) (zg_cons rfl (zg_cons rfl (zg_cons rfl (zg_cons rfl zg_nil))))) h
theorem gi_S {big ws : List Cond} {own : String} {idx : Nat} {y : MethodName} (h1 : Cond.methodLink own idx y ∈ big) (h2 : Cond.static y ∈ big) (h3 : Cond.initialized y.cls ∈ big) (h : GoodIn big ws) : GoodIn big (va_wsS own idx y ws) :=
  goodIn_app (gi_sub (zi_cons h1 (zi_cons h2 (zi_cons h3 zi_nil))) (zg_cons rfl (zg_cons rfl (zg_cons rfl zg_nil)))) h
section GZ
variable {κ : Cx} {nL n1 n2 : Nat} {ws : va_W} {pc : Nat} {lv : List (Nat × Value)} {st : List Value}
theorem g_norm {x v : Int32} (h : x = v) (k : GW κ nL n1 n2 ws pc lv (.int v :: st)) : GW κ nL n1 n2 ws pc lv (.int x :: st) := h ▸ k
theorem g_norml {x v : Int64} (h : x = v) (k : GW κ nL n1 n2 ws pc lv (.long v :: st)) : GW κ nL n1 n2 ws pc lv (.long x :: st) := h ▸ k
end GZ
theorem zgU_wsX00 : ∀ w ∈ wsX00, goodWord w = true := by decide +kernel
theorem zgU_wsX10 : ∀ w ∈ wsX10, goodWord w = true := by decide +kernel
theorem zgU_wsX20 : ∀ w ∈ wsX20, goodWord w = true := by decide +kernel
theorem zgU_wsX30 : ∀ w ∈ wsX30, goodWord w = true := by decide +kernel
theorem zgU_wsX40 : ∀ w ∈ wsX40, goodWord w = true := by decide +kernel
theorem zgU_wsX50 : ∀ w ∈ wsX50, goodWord w = true := by decide +kernel
theorem zgU_wsX60 : ∀ w ∈ wsX60, goodWord w = true := by decide +kernel
theorem zgU_wsX70 : ∀ w ∈ wsX70, goodWord w = true := by decide +kernel
theorem zgU_wsX80 : ∀ w ∈ wsX80, goodWord w = true := by decide +kernel
theorem zgU_wsX90 : ∀ w ∈ wsX90, goodWord w = true := by decide +kernel
theorem zgU_wsX100 : ∀ w ∈ wsX100, goodWord w = true := by decide +kernel
theorem zgU_wsX110 : ∀ w ∈ wsX110, goodWord w = true := by decide +kernel
theorem zgU_wsX120 : ∀ w ∈ wsX120, goodWord w = true := by decide +kernel
def wX (q : Nat → Nat) (d : Nat → ClassId) (I : Nat → Int32) (A : Nat → Nat → Int32) : va_W := [(q 0, .inr (11, [.ref (q 1), .ref (q 3), .ref (q 13), .ref (q 15), .ref (q 18), .ref (q 20), .ref (q 24), .ref (q 37), .ref (q 43), .ref (q 49)])), (q 1, .inr (10, [.ref (q 2), .int (I 0), .int (I 1), .int (I 2), .int (I 3), .int (I 4), .int (I 5)])), (q 2, .inl (d 0, 2000, .inl (A 0))), (q 3, .inr (5, [.ref (q 1), .ref (q 4), .ref (q 8), .ref (q 11), .ref (q 12), .int (I 6), .int (I 7), .int (I 8), .int (I 9), .int (I 10), .int (I 11), .int (I 12), .int (I 13)])), (q 4, .inr (8, [.ref (q 5), .int (I 14), .ref (q 6), .int (I 15)])), (q 5, .inl (d 1, 160, .inl (A 1))), (q 6, .inr (7, [.ref (q 7)])), (q 7, .inl (d 2, 4, .inl (A 2))), (q 8, .inr (4, [.ref (q 9), .ref (q 10), .int (I 16)])), (q 9, .inl (d 3, 80, .inl (A 3))), (q 10, .inl (d 4, 5, .inl (A 4))), (q 11, .inl (d 5, 5, .inl (A 5))), (q 12, .inl (d 6, 5, .inl (A 6))), (q 13, .inr (6, [.ref (q 14), .int (I 17), .int (I 18)])), (q 14, .inl (d 7, 256, .inl (A 7))), (q 15, .inr (4, [.ref (q 16), .ref (q 17), .int (I 19)])), (q 16, .inl (d 8, 80, .inl (A 8))), (q 17, .inl (d 9, 5, .inl (A 9))), (q 18, .inr (7, [.ref (q 19)])), (q 19, .inl (d 10, 4, .inl (A 10))), (q 20, .inr (3, [.ref (q 21), .ref (q 22), .ref (q 23), .int (I 20), .int (I 21)])), (q 21, .inl (d 11, 40, .inl (A 11))), (q 22, .inl (d 12, 40, .inl (A 12))), (q 23, .inl (d 13, 40, .inl (A 13))), (q 24, .inl (d 14, 3, .inr (.inr (.inr (.inr (va_up (va_up (va_up (fun _ => none) 0 (some (q 25))) 1 (some (q 29))) 2 (some (q 33)))))))), (q 25, .inr (8, [.ref (q 26), .int (I 22), .ref (q 27), .int (I 23)])), (q 26, .inl (d 15, 160, .inl (A 15))), (q 27, .inr (7, [.ref (q 28)])), (q 28, .inl (d 16, 4, .inl (A 16))), (q 29, .inr (8, [.ref (q 30), .int (I 24), .ref (q 31), .int (I 25)])), (q 30, .inl (d 17, 160, .inl (A 17))), (q 31, .inr (7, [.ref (q 32)])), (q 32, .inl (d 18, 4, .inl (A 18))), (q 33, .inr (8, [.ref (q 34), .int (I 26), .ref (q 35), .int (I 27)])), (q 34, .inl (d 19, 160, .inl (A 19))), (q 35, .inr (7, [.ref (q 36)])), (q 36, .inl (d 20, 4, .inl (A 20))), (q 37, .inr (0, [.ref (q 13), .ref (q 15), .ref (q 18), .ref (q 38), .int (I 28)])), (q 38, .inr (2, [.ref (q 39), .ref (q 40), .ref (q 41), .ref (q 42), .int (I 29), .int (I 30), .int (I 31), .int (I 32), .int (I 33), .int (I 34)])), (q 39, .inl (d 21, 16, .inl (A 21))), (q 40, .inl (d 22, 16, .inl (A 22))), (q 41, .inl (d 23, 256, .inl (A 23))), (q 42, .inl (d 24, 32, .inl (A 24))), (q 43, .inr (1, [.ref (q 37), .ref (q 13), .ref (q 15), .ref (q 44), .int (I 35), .int (I 36), .ref (q 45), .ref (q 46), .ref (q 47), .int (I 37), .ref (q 48)])), (q 44, .inl (d 25, 9, .inl (A 25))), (q 45, .inl (d 26, 160, .inl (A 26))), (q 46, .inl (d 27, 160, .inl (A 27))), (q 47, .inl (d 28, 160, .inl (A 28))), (q 48, .inl (d 29, 160, .inl (A 29))), (q 49, .inr (9, [.ref (q 37), .ref (q 38), .ref (q 50), .ref (q 51), .int (I 38), .int (I 39), .int (I 40), .int (I 41), .int (I 42), .int (I 43), .int (I 44)])), (q 50, .inl (d 30, 2560, .inl (A 30))), (q 51, .inl (d 31, 160, .inl (A 31)))]
def tyX (d : Nat → ClassId) : Tys := [(d 0, .int), (d 1, .int), (d 2, .int), (d 3, .int), (d 4, .int), (d 5, .int), (d 6, .int), (d 7, .int), (d 8, .int), (d 9, .int), (d 10, .int), (d 11, .int), (d 12, .int), (d 13, .int), (d 14, .object RX8), (d 15, .int), (d 16, .int), (d 17, .int), (d 18, .int), (d 19, .int), (d 20, .int), (d 21, .int), (d 22, .int), (d 23, .int), (d 24, .int), (d 25, .int), (d 26, .int), (d 27, .int), (d 28, .int), (d 29, .boolean), (d 30, .int), (d 31, .boolean)]
def iX0 : Nat → Int32 := fun k => match k with | 9 => (-2) | 12 => (-1) | 13 => (-1) | 30 => 1 | _ => 0
def aX0 : Nat → Nat → Int32 := fun k => match k with | 2 => unI | 10 => unI | 16 => unI | 18 => unI | 20 => unI | _ => (fun _ => 0)
def wM (r : Nat → Nat) (g : Nat → ClassId) (I : Nat → Int32) (A : Nat → Nat → Int32) (L : Nat → Nat → Int64) : va_W := [(r 0, .inr (12, [.int (I 0), .ref (r 1), .int (I 1), .ref (r 2), .int (I 2), .ref (r 3), .ref (r 4), .ref (r 5), .ref (r 6), .ref (r 7), .int (I 3), .int (I 4), .int (I 5), .int (I 6), .int (I 7), .int (I 8), .int (I 9), .int (I 10), .int (I 11), .int (I 12), .int (I 13), .int (I 14), .int (I 15), .int (I 16), .int (I 17), .ref (r 8), .ref (r 9), .ref (r 10), .ref (r 11), .ref (r 12), .ref (r 13), .ref (r 14), .ref (r 15), .ref (r 16), .ref (r 17), .ref (r 18), .ref (r 19), .int (I 18), .ref (r 20), .ref (r 21), .ref (r 22), .int (I 19), .int (I 20), .int (I 21), .int (I 22), .ref (r 23), .ref (r 24), .int (I 23), .ref (r 25), .ref (r 26), .int (I 24), .ref (r 27), .int (I 25), .ref (r 28), .ref (r 29)])), (r 1, .inl (g 0, 2000, .inl (A 0))), (r 2, .inl (g 1, 2000, .inl (A 1))), (r 3, .inl (g 2, 403, .inl (A 2))), (r 4, .inl (g 3, 403, .inl (A 3))), (r 5, .inl (g 4, 403, .inl (A 4))), (r 6, .inl (g 5, 403, .inr (.inl (L 5)))), (r 7, .inl (g 6, 13, .inr (.inl (L 6)))), (r 8, .inl (g 7, 5, .inr (.inl (L 7)))), (r 9, .inl (g 8, 2, .inl (A 8))), (r 10, .inl (g 9, 320, .inl (A 9))), (r 11, .inl (g 10, 2, .inl (A 10))), (r 12, .inl (g 11, 10, .inl (A 11))), (r 13, .inl (g 12, 160, .inl (A 12))), (r 14, .inl (g 13, 2, .inl (A 13))), (r 15, .inl (g 14, 2, .inl (A 14))), (r 16, .inl (g 15, 2, .inl (A 15))), (r 17, .inl (g 16, 2, .inl (A 16))), (r 18, .inl (g 17, 165, .inl (A 17))), (r 19, .inl (g 18, 165, .inl (A 18))), (r 20, .inl (g 19, 16, .inl (A 19))), (r 21, .inl (g 20, 16, .inl (A 20))), (r 22, .inl (g 21, 256, .inl (A 21))), (r 23, .inl (g 22, 6600, .inl (A 22))), (r 24, .inl (g 23, 40, .inl (A 23))), (r 25, .inl (g 24, 160, .inl (A 24))), (r 26, .inl (g 25, 9, .inl (A 25))), (r 27, .inl (g 26, 160, .inl (A 26))), (r 28, .inl (g 27, 3, .inl (A 27))), (r 29, .inl (g 28, 495, .inl (A 28)))]
def tyM (g : Nat → ClassId) : Tys := [(g 0, .byte), (g 1, .byte), (g 2, .int), (g 3, .int), (g 4, .int), (g 5, .long), (g 6, .long), (g 7, .long), (g 8, .int), (g 9, .int), (g 10, .int), (g 11, .int), (g 12, .int), (g 13, .int), (g 14, .int), (g 15, .int), (g 16, .int), (g 17, .int), (g 18, .int), (g 19, .int), (g 20, .int), (g 21, .int), (g 22, .int), (g 23, .int), (g 24, .int), (g 25, .int), (g 26, .int), (g 27, .boolean), (g 28, .int)]
def iM0 : Nat → Int32 := fun k => match k with | 10 => (-1) | _ => 0
def aM0 : Nat → Nat → Int32 := fun k => match k with | _ => (fun _ => 0)
def lM0 : Nat → Nat → Int64 := fun _ _ => 0
def iM1 : Nat → Int32 := (upd iM0 14 (-1))
def aM1 : Nat → Nat → Int32 := (up2 (up3 (up3 (up2 (up3 (up3 (up3 (up3 aM0 13 0 2) 16 0 8) 13 1 2) 16 1 8) 18 (cp (fun _ => 0) ((up3 (up3 (up3 (up3 aM0 13 0 2) 16 0 8) 13 1 2) 16 1 8) 18) 165)) 18 161 2) 18 164 8) 17 (cp ((up3 (up3 (up2 (up3 (up3 (up3 (up3 aM0 13 0 2) 16 0 8) 13 1 2) 16 1 8) 18 (cp (fun _ => 0) ((up3 (up3 (up3 (up3 aM0 13 0 2) 16 0 8) 13 1 2) 16 1 8) 18) 165)) 18 161 2) 18 164 8) 18) ((up3 (up3 (up2 (up3 (up3 (up3 (up3 aM0 13 0 2) 16 0 8) 13 1 2) 16 1 8) 18 (cp (fun _ => 0) ((up3 (up3 (up3 (up3 aM0 13 0 2) 16 0 8) 13 1 2) 16 1 8) 18) 165)) 18 161 2) 18 164 8) 17) 165))
def lM1 : Nat → Nat → Int64 := (up3L (up3L (up3L (up3L (up3L (up3L (up3L (up3L (up3L (up3L (up3L (up3L (up3L lM0 6 0 275647447) 6 1 9451996) 6 2 40477) 6 3 6491892) 6 4 70517) 6 5 847604) 6 6 5146) 6 7 286880) 6 8 259565) 6 9 3379448) 6 10 9596021) 6 11 8740238) 6 12 282078293)
section GX
variable {κ : Cx} {l0 : Launch} {D0 : va_G} {zt : Nat × Nat × Nat} {cc : ByteArray} {nL : Nat} {own : String} {Ts : List Cond} {tys : Tys} {rm : Room} {n1 n2 : Nat} {pc : Nat} {lv : List (Nat × Value)} {st : List Value} {q : Nat → Nat} {d : Nat → ClassId} {I : Nat → Int32} {A : Nat → Nat → Int32}
theorem gX_r0_0 (hk : GC κ l0 D0 zt cc nL own Ts tys rm) {index : Nat} (hin : ∀ w ∈ u_ws RX11 TX11 10, w ∈ Ts) (hl : Cond.fieldLink own index "WarpDesk" "tape" "LWarpDesk$Tape;" ∈ Ts) (hd : decode cc pc = .ok (.getfield index, 3)) (kk : GW κ nL n1 n2 (wX q d I A) (pc + 3) lv (.ref (q 1) :: st)) : GW κ nL n1 n2 (wX q d I A) pc lv (.ref (q 0) :: st) := g_get hk hin 0 rfl rfl 0 (by decide) hl rfl rfl hd kk
theorem gX_r0_1 (hk : GC κ l0 D0 zt cc nL own Ts tys rm) {index : Nat} (hin : ∀ w ∈ u_ws RX11 TX11 10, w ∈ Ts) (hl : Cond.fieldLink own index "WarpDesk" "reader" "LWarpDesk$Reader;" ∈ Ts) (hd : decode cc pc = .ok (.getfield index, 3)) (kk : GW κ nL n1 n2 (wX q d I A) (pc + 3) lv (.ref (q 3) :: st)) : GW κ nL n1 n2 (wX q d I A) pc lv (.ref (q 0) :: st) := g_get hk hin 0 rfl rfl 1 (by decide) hl rfl rfl hd kk
theorem gX_r0_2 (hk : GC κ l0 D0 zt cc nL own Ts tys rm) {index : Nat} (hin : ∀ w ∈ u_ws RX11 TX11 10, w ∈ Ts) (hl : Cond.fieldLink own index "WarpDesk" "series" "LWarpDesk$Series;" ∈ Ts) (hd : decode cc pc = .ok (.getfield index, 3)) (kk : GW κ nL n1 n2 (wX q d I A) (pc + 3) lv (.ref (q 13) :: st)) : GW κ nL n1 n2 (wX q d I A) pc lv (.ref (q 0) :: st) := g_get hk hin 0 rfl rfl 2 (by decide) hl rfl rfl hd kk
theorem gX_r0_3 (hk : GC κ l0 D0 zt cc nL own Ts tys rm) {index : Nat} (hin : ∀ w ∈ u_ws RX11 TX11 10, w ∈ Ts) (hl : Cond.fieldLink own index "WarpDesk" "queries" "LWarpDesk$Queries;" ∈ Ts) (hd : decode cc pc = .ok (.getfield index, 3)) (kk : GW κ nL n1 n2 (wX q d I A) (pc + 3) lv (.ref (q 15) :: st)) : GW κ nL n1 n2 (wX q d I A) pc lv (.ref (q 0) :: st) := g_get hk hin 0 rfl rfl 3 (by decide) hl rfl rfl hd kk
theorem gX_r0_4 (hk : GC κ l0 D0 zt cc nL own Ts tys rm) {index : Nat} (hin : ∀ w ∈ u_ws RX11 TX11 10, w ∈ Ts) (hl : Cond.fieldLink own index "WarpDesk" "settings" "LWarpDesk$Settings;" ∈ Ts) (hd : decode cc pc = .ok (.getfield index, 3)) (kk : GW κ nL n1 n2 (wX q d I A) (pc + 3) lv (.ref (q 18) :: st)) : GW κ nL n1 n2 (wX q d I A) pc lv (.ref (q 0) :: st) := g_get hk hin 0 rfl rfl 4 (by decide) hl rfl rfl hd kk
theorem gX_r0_5 (hk : GC κ l0 D0 zt cc nL own Ts tys rm) {index : Nat} (hin : ∀ w ∈ u_ws RX11 TX11 10, w ∈ Ts) (hl : Cond.fieldLink own index "WarpDesk" "past" "LWarpDesk$Past;" ∈ Ts) (hd : decode cc pc = .ok (.getfield index, 3)) (kk : GW κ nL n1 n2 (wX q d I A) (pc + 3) lv (.ref (q 20) :: st)) : GW κ nL n1 n2 (wX q d I A) pc lv (.ref (q 0) :: st) := g_get hk hin 0 rfl rfl 5 (by decide) hl rfl rfl hd kk
theorem gX_r0_6 (hk : GC κ l0 D0 zt cc nL own Ts tys rm) {index : Nat} (hin : ∀ w ∈ u_ws RX11 TX11 10, w ∈ Ts) (hl : Cond.fieldLink own index "WarpDesk" "slots" "[LWarpDesk$Stand;" ∈ Ts) (hd : decode cc pc = .ok (.getfield index, 3)) (kk : GW κ nL n1 n2 (wX q d I A) (pc + 3) lv (.ref (q 24) :: st)) : GW κ nL n1 n2 (wX q d I A) pc lv (.ref (q 0) :: st) := g_get hk hin 0 rfl rfl 6 (by decide) hl rfl rfl hd kk
theorem gX_r0_7 (hk : GC κ l0 D0 zt cc nL own Ts tys rm) {index : Nat} (hin : ∀ w ∈ u_ws RX11 TX11 10, w ∈ Ts) (hl : Cond.fieldLink own index "WarpDesk" "bench" "LWarpDesk$Bench;" ∈ Ts) (hd : decode cc pc = .ok (.getfield index, 3)) (kk : GW κ nL n1 n2 (wX q d I A) (pc + 3) lv (.ref (q 37) :: st)) : GW κ nL n1 n2 (wX q d I A) pc lv (.ref (q 0) :: st) := g_get hk hin 0 rfl rfl 7 (by decide) hl rfl rfl hd kk
theorem gX_r0_8 (hk : GC κ l0 D0 zt cc nL own Ts tys rm) {index : Nat} (hin : ∀ w ∈ u_ws RX11 TX11 10, w ∈ Ts) (hl : Cond.fieldLink own index "WarpDesk" "finder" "LWarpDesk$Finder;" ∈ Ts) (hd : decode cc pc = .ok (.getfield index, 3)) (kk : GW κ nL n1 n2 (wX q d I A) (pc + 3) lv (.ref (q 43) :: st)) : GW κ nL n1 n2 (wX q d I A) pc lv (.ref (q 0) :: st) := g_get hk hin 0 rfl rfl 8 (by decide) hl rfl rfl hd kk
theorem gX_r0_9 (hk : GC κ l0 D0 zt cc nL own Ts tys rm) {index : Nat} (hin : ∀ w ∈ u_ws RX11 TX11 10, w ∈ Ts) (hl : Cond.fieldLink own index "WarpDesk" "stretches" "LWarpDesk$Stretches;" ∈ Ts) (hd : decode cc pc = .ok (.getfield index, 3)) (kk : GW κ nL n1 n2 (wX q d I A) (pc + 3) lv (.ref (q 49) :: st)) : GW κ nL n1 n2 (wX q d I A) pc lv (.ref (q 0) :: st) := g_get hk hin 0 rfl rfl 9 (by decide) hl rfl rfl hd kk
theorem gX_r1_0 (hk : GC κ l0 D0 zt cc nL own Ts tys rm) {index : Nat} (hin : ∀ w ∈ u_ws RX10 TX10 7, w ∈ Ts) (hl : Cond.fieldLink own index "WarpDesk$Tape" "bytes" "[I" ∈ Ts) (hd : decode cc pc = .ok (.getfield index, 3)) (kk : GW κ nL n1 n2 (wX q d I A) (pc + 3) lv (.ref (q 2) :: st)) : GW κ nL n1 n2 (wX q d I A) pc lv (.ref (q 1) :: st) := g_get hk hin 1 rfl rfl 0 (by decide) hl rfl rfl hd kk
theorem gX_i0 (hk : GC κ l0 D0 zt cc nL own Ts tys rm) {v : Int32} {index : Nat} (hin : ∀ w ∈ u_ws RX10 TX10 7, w ∈ Ts) (hl : Cond.fieldLink own index "WarpDesk$Tape" "size" "I" ∈ Ts) (hd : decode cc pc = .ok (.getfield index, 3)) (hv : I 0 = v) (kk : GW κ nL n1 n2 (wX q d I A) (pc + 3) lv (.int v :: st)) : GW κ nL n1 n2 (wX q d I A) pc lv (.ref (q 1) :: st) := by
  subst hv
  exact g_get hk hin 1 rfl rfl 1 (by decide) hl rfl rfl hd kk
theorem pX_i0 (hk : GC κ l0 D0 zt cc nL own Ts tys rm) {v : Int32} {index : Nat} (hin : ∀ w ∈ u_ws RX10 TX10 7, w ∈ Ts) (hl : Cond.fieldLink own index "WarpDesk$Tape" "size" "I" ∈ Ts) (hd : decode cc pc = .ok (.putfield index, 3)) (kk : GW κ nL n1 n2 (wX q d (upd I 0 v) A) (pc + 3) lv st) : GW κ nL n1 n2 (wX q d I A) pc lv (.int v :: .ref (q 1) :: st) := g_put (ws' := (wX q d (upd I 0 v) A)) (fs := [.ref (q 2), .int (I 0), .int (I 1), .int (I 2), .int (I 3), .int (I 4), .int (I 5)]) hk hin tyX10 tyX10_ok nmX10 1 rfl rfl 1 (by decide) hl rfl rfl rfl rfl (Nat.le_of_ble_eq_true rfl) rfl hd kk
theorem gX_i1 (hk : GC κ l0 D0 zt cc nL own Ts tys rm) {v : Int32} {index : Nat} (hin : ∀ w ∈ u_ws RX10 TX10 7, w ∈ Ts) (hl : Cond.fieldLink own index "WarpDesk$Tape" "kind" "I" ∈ Ts) (hd : decode cc pc = .ok (.getfield index, 3)) (hv : I 1 = v) (kk : GW κ nL n1 n2 (wX q d I A) (pc + 3) lv (.int v :: st)) : GW κ nL n1 n2 (wX q d I A) pc lv (.ref (q 1) :: st) := by
  subst hv
  exact g_get hk hin 1 rfl rfl 2 (by decide) hl rfl rfl hd kk
theorem pX_i1 (hk : GC κ l0 D0 zt cc nL own Ts tys rm) {v : Int32} {index : Nat} (hin : ∀ w ∈ u_ws RX10 TX10 7, w ∈ Ts) (hl : Cond.fieldLink own index "WarpDesk$Tape" "kind" "I" ∈ Ts) (hd : decode cc pc = .ok (.putfield index, 3)) (kk : GW κ nL n1 n2 (wX q d (upd I 1 v) A) (pc + 3) lv st) : GW κ nL n1 n2 (wX q d I A) pc lv (.int v :: .ref (q 1) :: st) := g_put (ws' := (wX q d (upd I 1 v) A)) (fs := [.ref (q 2), .int (I 0), .int (I 1), .int (I 2), .int (I 3), .int (I 4), .int (I 5)]) hk hin tyX10 tyX10_ok nmX10 1 rfl rfl 2 (by decide) hl rfl rfl rfl rfl (Nat.le_of_ble_eq_true rfl) rfl hd kk
theorem gX_i2 (hk : GC κ l0 D0 zt cc nL own Ts tys rm) {v : Int32} {index : Nat} (hin : ∀ w ∈ u_ws RX10 TX10 7, w ∈ Ts) (hl : Cond.fieldLink own index "WarpDesk$Tape" "start" "I" ∈ Ts) (hd : decode cc pc = .ok (.getfield index, 3)) (hv : I 2 = v) (kk : GW κ nL n1 n2 (wX q d I A) (pc + 3) lv (.int v :: st)) : GW κ nL n1 n2 (wX q d I A) pc lv (.ref (q 1) :: st) := by
  subst hv
  exact g_get hk hin 1 rfl rfl 3 (by decide) hl rfl rfl hd kk
theorem pX_i2 (hk : GC κ l0 D0 zt cc nL own Ts tys rm) {v : Int32} {index : Nat} (hin : ∀ w ∈ u_ws RX10 TX10 7, w ∈ Ts) (hl : Cond.fieldLink own index "WarpDesk$Tape" "start" "I" ∈ Ts) (hd : decode cc pc = .ok (.putfield index, 3)) (kk : GW κ nL n1 n2 (wX q d (upd I 2 v) A) (pc + 3) lv st) : GW κ nL n1 n2 (wX q d I A) pc lv (.int v :: .ref (q 1) :: st) := g_put (ws' := (wX q d (upd I 2 v) A)) (fs := [.ref (q 2), .int (I 0), .int (I 1), .int (I 2), .int (I 3), .int (I 4), .int (I 5)]) hk hin tyX10 tyX10_ok nmX10 1 rfl rfl 3 (by decide) hl rfl rfl rfl rfl (Nat.le_of_ble_eq_true rfl) rfl hd kk
theorem gX_i3 (hk : GC κ l0 D0 zt cc nL own Ts tys rm) {v : Int32} {index : Nat} (hin : ∀ w ∈ u_ws RX10 TX10 7, w ∈ Ts) (hl : Cond.fieldLink own index "WarpDesk$Tape" "value" "I" ∈ Ts) (hd : decode cc pc = .ok (.getfield index, 3)) (hv : I 3 = v) (kk : GW κ nL n1 n2 (wX q d I A) (pc + 3) lv (.int v :: st)) : GW κ nL n1 n2 (wX q d I A) pc lv (.ref (q 1) :: st) := by
  subst hv
  exact g_get hk hin 1 rfl rfl 4 (by decide) hl rfl rfl hd kk
theorem pX_i3 (hk : GC κ l0 D0 zt cc nL own Ts tys rm) {v : Int32} {index : Nat} (hin : ∀ w ∈ u_ws RX10 TX10 7, w ∈ Ts) (hl : Cond.fieldLink own index "WarpDesk$Tape" "value" "I" ∈ Ts) (hd : decode cc pc = .ok (.putfield index, 3)) (kk : GW κ nL n1 n2 (wX q d (upd I 3 v) A) (pc + 3) lv st) : GW κ nL n1 n2 (wX q d I A) pc lv (.int v :: .ref (q 1) :: st) := g_put (ws' := (wX q d (upd I 3 v) A)) (fs := [.ref (q 2), .int (I 0), .int (I 1), .int (I 2), .int (I 3), .int (I 4), .int (I 5)]) hk hin tyX10 tyX10_ok nmX10 1 rfl rfl 4 (by decide) hl rfl rfl rfl rfl (Nat.le_of_ble_eq_true rfl) rfl hd kk
theorem gX_i4 (hk : GC κ l0 D0 zt cc nL own Ts tys rm) {v : Int32} {index : Nat} (hin : ∀ w ∈ u_ws RX10 TX10 7, w ∈ Ts) (hl : Cond.fieldLink own index "WarpDesk$Tape" "number" "I" ∈ Ts) (hd : decode cc pc = .ok (.getfield index, 3)) (hv : I 4 = v) (kk : GW κ nL n1 n2 (wX q d I A) (pc + 3) lv (.int v :: st)) : GW κ nL n1 n2 (wX q d I A) pc lv (.ref (q 1) :: st) := by
  subst hv
  exact g_get hk hin 1 rfl rfl 5 (by decide) hl rfl rfl hd kk
theorem pX_i4 (hk : GC κ l0 D0 zt cc nL own Ts tys rm) {v : Int32} {index : Nat} (hin : ∀ w ∈ u_ws RX10 TX10 7, w ∈ Ts) (hl : Cond.fieldLink own index "WarpDesk$Tape" "number" "I" ∈ Ts) (hd : decode cc pc = .ok (.putfield index, 3)) (kk : GW κ nL n1 n2 (wX q d (upd I 4 v) A) (pc + 3) lv st) : GW κ nL n1 n2 (wX q d I A) pc lv (.int v :: .ref (q 1) :: st) := g_put (ws' := (wX q d (upd I 4 v) A)) (fs := [.ref (q 2), .int (I 0), .int (I 1), .int (I 2), .int (I 3), .int (I 4), .int (I 5)]) hk hin tyX10 tyX10_ok nmX10 1 rfl rfl 5 (by decide) hl rfl rfl rfl rfl (Nat.le_of_ble_eq_true rfl) rfl hd kk
theorem gX_i5 (hk : GC κ l0 D0 zt cc nL own Ts tys rm) {v : Int32} {index : Nat} (hin : ∀ w ∈ u_ws RX10 TX10 7, w ∈ Ts) (hl : Cond.fieldLink own index "WarpDesk$Tape" "behind" "I" ∈ Ts) (hd : decode cc pc = .ok (.getfield index, 3)) (hv : I 5 = v) (kk : GW κ nL n1 n2 (wX q d I A) (pc + 3) lv (.int v :: st)) : GW κ nL n1 n2 (wX q d I A) pc lv (.ref (q 1) :: st) := by
  subst hv
  exact g_get hk hin 1 rfl rfl 6 (by decide) hl rfl rfl hd kk
theorem pX_i5 (hk : GC κ l0 D0 zt cc nL own Ts tys rm) {v : Int32} {index : Nat} (hin : ∀ w ∈ u_ws RX10 TX10 7, w ∈ Ts) (hl : Cond.fieldLink own index "WarpDesk$Tape" "behind" "I" ∈ Ts) (hd : decode cc pc = .ok (.putfield index, 3)) (kk : GW κ nL n1 n2 (wX q d (upd I 5 v) A) (pc + 3) lv st) : GW κ nL n1 n2 (wX q d I A) pc lv (.int v :: .ref (q 1) :: st) := g_put (ws' := (wX q d (upd I 5 v) A)) (fs := [.ref (q 2), .int (I 0), .int (I 1), .int (I 2), .int (I 3), .int (I 4), .int (I 5)]) hk hin tyX10 tyX10_ok nmX10 1 rfl rfl 6 (by decide) hl rfl rfl rfl rfl (Nat.le_of_ble_eq_true rfl) rfl hd kk
theorem lX_0 (hk : GC κ l0 D0 zt cc nL own Ts (tyX d) rm) {i v : Int32} (hin : vp_in i 2000) (hv : A 0 i.toNatClampNeg = v) (hd : decode cc pc = .ok (.iaload, 1)) (kk : GW κ nL n1 n2 (wX q d I A) (pc + 1) lv (.int v :: st)) : GW κ nL n1 n2 (wX q d I A) pc lv (.int i :: .ref (q 2) :: st) := g_iald hk 2 0 rfl rfl hin hv hd kk
theorem sX_0 (hk : GC κ l0 D0 zt cc nL own Ts (tyX d) rm) {i x : Int32} {j : Nat} (hin : vp_in i 2000) (hj : i.toNatClampNeg = j) (hd : decode cc pc = .ok (.iastore, 1)) (kk : GW κ nL n1 n2 (wX q d I (up3 A 0 j x)) (pc + 1) lv st) : GW κ nL n1 n2 (wX q d I A) pc lv (.int x :: .int i :: .ref (q 2) :: st) := g_iast hk 2 0 rfl rfl hin hj rfl hd kk
theorem nX_0 (hk : GC κ l0 D0 zt cc nL own Ts (tyX d) rm) (hd : decode cc pc = .ok (.arraylength, 1)) (kk : GW κ nL n1 n2 (wX q d I A) (pc + 1) lv (.int 2000 :: st)) : GW κ nL n1 n2 (wX q d I A) pc lv (.ref (q 2) :: st) := g_alen hk 2 0 rfl rfl rfl hd kk
theorem gX_r3_0 (hk : GC κ l0 D0 zt cc nL own Ts tys rm) {index : Nat} (hin : ∀ w ∈ u_ws RX5 TX5 13, w ∈ Ts) (hl : Cond.fieldLink own index "WarpDesk$Reader" "tape" "LWarpDesk$Tape;" ∈ Ts) (hd : decode cc pc = .ok (.getfield index, 3)) (kk : GW κ nL n1 n2 (wX q d I A) (pc + 3) lv (.ref (q 1) :: st)) : GW κ nL n1 n2 (wX q d I A) pc lv (.ref (q 3) :: st) := g_get hk hin 3 rfl rfl 0 (by decide) hl rfl rfl hd kk
theorem gX_r3_1 (hk : GC κ l0 D0 zt cc nL own Ts tys rm) {index : Nat} (hin : ∀ w ∈ u_ws RX5 TX5 13, w ∈ Ts) (hl : Cond.fieldLink own index "WarpDesk$Reader" "draft" "LWarpDesk$Stand;" ∈ Ts) (hd : decode cc pc = .ok (.getfield index, 3)) (kk : GW κ nL n1 n2 (wX q d I A) (pc + 3) lv (.ref (q 4) :: st)) : GW κ nL n1 n2 (wX q d I A) pc lv (.ref (q 3) :: st) := g_get hk hin 3 rfl rfl 1 (by decide) hl rfl rfl hd kk
theorem gX_r3_2 (hk : GC κ l0 D0 zt cc nL own Ts tys rm) {index : Nat} (hin : ∀ w ∈ u_ws RX5 TX5 13, w ∈ Ts) (hl : Cond.fieldLink own index "WarpDesk$Reader" "queries" "LWarpDesk$Queries;" ∈ Ts) (hd : decode cc pc = .ok (.getfield index, 3)) (kk : GW κ nL n1 n2 (wX q d I A) (pc + 3) lv (.ref (q 8) :: st)) : GW κ nL n1 n2 (wX q d I A) pc lv (.ref (q 3) :: st) := g_get hk hin 3 rfl rfl 2 (by decide) hl rfl rfl hd kk
theorem gX_r3_3 (hk : GC κ l0 D0 zt cc nL own Ts tys rm) {index : Nat} (hin : ∀ w ∈ u_ws RX5 TX5 13, w ∈ Ts) (hl : Cond.fieldLink own index "WarpDesk$Reader" "nameStarts" "[I" ∈ Ts) (hd : decode cc pc = .ok (.getfield index, 3)) (kk : GW κ nL n1 n2 (wX q d I A) (pc + 3) lv (.ref (q 11) :: st)) : GW κ nL n1 n2 (wX q d I A) pc lv (.ref (q 3) :: st) := g_get hk hin 3 rfl rfl 3 (by decide) hl rfl rfl hd kk
theorem gX_r3_4 (hk : GC κ l0 D0 zt cc nL own Ts tys rm) {index : Nat} (hin : ∀ w ∈ u_ws RX5 TX5 13, w ∈ Ts) (hl : Cond.fieldLink own index "WarpDesk$Reader" "nameLengths" "[I" ∈ Ts) (hd : decode cc pc = .ok (.getfield index, 3)) (kk : GW κ nL n1 n2 (wX q d I A) (pc + 3) lv (.ref (q 12) :: st)) : GW κ nL n1 n2 (wX q d I A) pc lv (.ref (q 3) :: st) := g_get hk hin 3 rfl rfl 4 (by decide) hl rfl rfl hd kk
theorem gX_i6 (hk : GC κ l0 D0 zt cc nL own Ts tys rm) {v : Int32} {index : Nat} (hin : ∀ w ∈ u_ws RX5 TX5 13, w ∈ Ts) (hl : Cond.fieldLink own index "WarpDesk$Reader" "state" "I" ∈ Ts) (hd : decode cc pc = .ok (.getfield index, 3)) (hv : I 6 = v) (kk : GW κ nL n1 n2 (wX q d I A) (pc + 3) lv (.int v :: st)) : GW κ nL n1 n2 (wX q d I A) pc lv (.ref (q 3) :: st) := by
  subst hv
  exact g_get hk hin 3 rfl rfl 5 (by decide) hl rfl rfl hd kk
theorem pX_i6 (hk : GC κ l0 D0 zt cc nL own Ts tys rm) {v : Int32} {index : Nat} (hin : ∀ w ∈ u_ws RX5 TX5 13, w ∈ Ts) (hl : Cond.fieldLink own index "WarpDesk$Reader" "state" "I" ∈ Ts) (hd : decode cc pc = .ok (.putfield index, 3)) (kk : GW κ nL n1 n2 (wX q d (upd I 6 v) A) (pc + 3) lv st) : GW κ nL n1 n2 (wX q d I A) pc lv (.int v :: .ref (q 3) :: st) := g_put (ws' := (wX q d (upd I 6 v) A)) (fs := [.ref (q 1), .ref (q 4), .ref (q 8), .ref (q 11), .ref (q 12), .int (I 6), .int (I 7), .int (I 8), .int (I 9), .int (I 10), .int (I 11), .int (I 12), .int (I 13)]) hk hin tyX5 tyX5_ok nmX5 3 rfl rfl 5 (by decide) hl rfl rfl rfl rfl (Nat.le_of_ble_eq_true rfl) rfl hd kk
theorem gX_i7 (hk : GC κ l0 D0 zt cc nL own Ts tys rm) {v : Int32} {index : Nat} (hin : ∀ w ∈ u_ws RX5 TX5 13, w ∈ Ts) (hl : Cond.fieldLink own index "WarpDesk$Reader" "tell" "I" ∈ Ts) (hd : decode cc pc = .ok (.getfield index, 3)) (hv : I 7 = v) (kk : GW κ nL n1 n2 (wX q d I A) (pc + 3) lv (.int v :: st)) : GW κ nL n1 n2 (wX q d I A) pc lv (.ref (q 3) :: st) := by
  subst hv
  exact g_get hk hin 3 rfl rfl 6 (by decide) hl rfl rfl hd kk
theorem pX_i7 (hk : GC κ l0 D0 zt cc nL own Ts tys rm) {v : Int32} {index : Nat} (hin : ∀ w ∈ u_ws RX5 TX5 13, w ∈ Ts) (hl : Cond.fieldLink own index "WarpDesk$Reader" "tell" "I" ∈ Ts) (hd : decode cc pc = .ok (.putfield index, 3)) (kk : GW κ nL n1 n2 (wX q d (upd I 7 v) A) (pc + 3) lv st) : GW κ nL n1 n2 (wX q d I A) pc lv (.int v :: .ref (q 3) :: st) := g_put (ws' := (wX q d (upd I 7 v) A)) (fs := [.ref (q 1), .ref (q 4), .ref (q 8), .ref (q 11), .ref (q 12), .int (I 6), .int (I 7), .int (I 8), .int (I 9), .int (I 10), .int (I 11), .int (I 12), .int (I 13)]) hk hin tyX5 tyX5_ok nmX5 3 rfl rfl 6 (by decide) hl rfl rfl rfl rfl (Nat.le_of_ble_eq_true rfl) rfl hd kk
theorem gX_i8 (hk : GC κ l0 D0 zt cc nL own Ts tys rm) {v : Int32} {index : Nat} (hin : ∀ w ∈ u_ws RX5 TX5 13, w ∈ Ts) (hl : Cond.fieldLink own index "WarpDesk$Reader" "isNegative" "Z" ∈ Ts) (hd : decode cc pc = .ok (.getfield index, 3)) (hv : I 8 = v) (kk : GW κ nL n1 n2 (wX q d I A) (pc + 3) lv (.int v :: st)) : GW κ nL n1 n2 (wX q d I A) pc lv (.ref (q 3) :: st) := by
  subst hv
  exact g_get hk hin 3 rfl rfl 7 (by decide) hl rfl rfl hd kk
theorem pX_i8 (hk : GC κ l0 D0 zt cc nL own Ts tys rm) {v : Int32} {index : Nat} (hin : ∀ w ∈ u_ws RX5 TX5 13, w ∈ Ts) (hl : Cond.fieldLink own index "WarpDesk$Reader" "isNegative" "Z" ∈ Ts) (hb : narrow .boolean (.int v) = .int v ∧ fits .boolean (.int v) = true) (hd : decode cc pc = .ok (.putfield index, 3)) (kk : GW κ nL n1 n2 (wX q d (upd I 8 v) A) (pc + 3) lv st) : GW κ nL n1 n2 (wX q d I A) pc lv (.int v :: .ref (q 3) :: st) := g_put (ws' := (wX q d (upd I 8 v) A)) (fs := [.ref (q 1), .ref (q 4), .ref (q 8), .ref (q 11), .ref (q 12), .int (I 6), .int (I 7), .int (I 8), .int (I 9), .int (I 10), .int (I 11), .int (I 12), .int (I 13)]) hk hin tyX5 tyX5_ok nmX5 3 rfl rfl 7 (by decide) hl rfl rfl hb.1 hb.2 (Nat.le_of_ble_eq_true rfl) rfl hd kk
theorem gX_i9 (hk : GC κ l0 D0 zt cc nL own Ts tys rm) {v : Int32} {index : Nat} (hin : ∀ w ∈ u_ws RX5 TX5 13, w ∈ Ts) (hl : Cond.fieldLink own index "WarpDesk$Reader" "told" "I" ∈ Ts) (hd : decode cc pc = .ok (.getfield index, 3)) (hv : I 9 = v) (kk : GW κ nL n1 n2 (wX q d I A) (pc + 3) lv (.int v :: st)) : GW κ nL n1 n2 (wX q d I A) pc lv (.ref (q 3) :: st) := by
  subst hv
  exact g_get hk hin 3 rfl rfl 8 (by decide) hl rfl rfl hd kk
theorem pX_i9 (hk : GC κ l0 D0 zt cc nL own Ts tys rm) {v : Int32} {index : Nat} (hin : ∀ w ∈ u_ws RX5 TX5 13, w ∈ Ts) (hl : Cond.fieldLink own index "WarpDesk$Reader" "told" "I" ∈ Ts) (hd : decode cc pc = .ok (.putfield index, 3)) (kk : GW κ nL n1 n2 (wX q d (upd I 9 v) A) (pc + 3) lv st) : GW κ nL n1 n2 (wX q d I A) pc lv (.int v :: .ref (q 3) :: st) := g_put (ws' := (wX q d (upd I 9 v) A)) (fs := [.ref (q 1), .ref (q 4), .ref (q 8), .ref (q 11), .ref (q 12), .int (I 6), .int (I 7), .int (I 8), .int (I 9), .int (I 10), .int (I 11), .int (I 12), .int (I 13)]) hk hin tyX5 tyX5_ok nmX5 3 rfl rfl 8 (by decide) hl rfl rfl rfl rfl (Nat.le_of_ble_eq_true rfl) rfl hd kk
theorem gX_i10 (hk : GC κ l0 D0 zt cc nL own Ts tys rm) {v : Int32} {index : Nat} (hin : ∀ w ∈ u_ws RX5 TX5 13, w ∈ Ts) (hl : Cond.fieldLink own index "WarpDesk$Reader" "isStopped" "Z" ∈ Ts) (hd : decode cc pc = .ok (.getfield index, 3)) (hv : I 10 = v) (kk : GW κ nL n1 n2 (wX q d I A) (pc + 3) lv (.int v :: st)) : GW κ nL n1 n2 (wX q d I A) pc lv (.ref (q 3) :: st) := by
  subst hv
  exact g_get hk hin 3 rfl rfl 9 (by decide) hl rfl rfl hd kk
theorem pX_i10 (hk : GC κ l0 D0 zt cc nL own Ts tys rm) {v : Int32} {index : Nat} (hin : ∀ w ∈ u_ws RX5 TX5 13, w ∈ Ts) (hl : Cond.fieldLink own index "WarpDesk$Reader" "isStopped" "Z" ∈ Ts) (hb : narrow .boolean (.int v) = .int v ∧ fits .boolean (.int v) = true) (hd : decode cc pc = .ok (.putfield index, 3)) (kk : GW κ nL n1 n2 (wX q d (upd I 10 v) A) (pc + 3) lv st) : GW κ nL n1 n2 (wX q d I A) pc lv (.int v :: .ref (q 3) :: st) := g_put (ws' := (wX q d (upd I 10 v) A)) (fs := [.ref (q 1), .ref (q 4), .ref (q 8), .ref (q 11), .ref (q 12), .int (I 6), .int (I 7), .int (I 8), .int (I 9), .int (I 10), .int (I 11), .int (I 12), .int (I 13)]) hk hin tyX5 tyX5_ok nmX5 3 rfl rfl 9 (by decide) hl rfl rfl hb.1 hb.2 (Nat.le_of_ble_eq_true rfl) rfl hd kk
theorem gX_i11 (hk : GC κ l0 D0 zt cc nL own Ts tys rm) {v : Int32} {index : Nat} (hin : ∀ w ∈ u_ws RX5 TX5 13, w ∈ Ts) (hl : Cond.fieldLink own index "WarpDesk$Reader" "fault" "I" ∈ Ts) (hd : decode cc pc = .ok (.getfield index, 3)) (hv : I 11 = v) (kk : GW κ nL n1 n2 (wX q d I A) (pc + 3) lv (.int v :: st)) : GW κ nL n1 n2 (wX q d I A) pc lv (.ref (q 3) :: st) := by
  subst hv
  exact g_get hk hin 3 rfl rfl 10 (by decide) hl rfl rfl hd kk
theorem pX_i11 (hk : GC κ l0 D0 zt cc nL own Ts tys rm) {v : Int32} {index : Nat} (hin : ∀ w ∈ u_ws RX5 TX5 13, w ∈ Ts) (hl : Cond.fieldLink own index "WarpDesk$Reader" "fault" "I" ∈ Ts) (hd : decode cc pc = .ok (.putfield index, 3)) (kk : GW κ nL n1 n2 (wX q d (upd I 11 v) A) (pc + 3) lv st) : GW κ nL n1 n2 (wX q d I A) pc lv (.int v :: .ref (q 3) :: st) := g_put (ws' := (wX q d (upd I 11 v) A)) (fs := [.ref (q 1), .ref (q 4), .ref (q 8), .ref (q 11), .ref (q 12), .int (I 6), .int (I 7), .int (I 8), .int (I 9), .int (I 10), .int (I 11), .int (I 12), .int (I 13)]) hk hin tyX5 tyX5_ok nmX5 3 rfl rfl 10 (by decide) hl rfl rfl rfl rfl (Nat.le_of_ble_eq_true rfl) rfl hd kk
theorem gX_i12 (hk : GC κ l0 D0 zt cc nL own Ts tys rm) {v : Int32} {index : Nat} (hin : ∀ w ∈ u_ws RX5 TX5 13, w ∈ Ts) (hl : Cond.fieldLink own index "WarpDesk$Reader" "faultPlace" "I" ∈ Ts) (hd : decode cc pc = .ok (.getfield index, 3)) (hv : I 12 = v) (kk : GW κ nL n1 n2 (wX q d I A) (pc + 3) lv (.int v :: st)) : GW κ nL n1 n2 (wX q d I A) pc lv (.ref (q 3) :: st) := by
  subst hv
  exact g_get hk hin 3 rfl rfl 11 (by decide) hl rfl rfl hd kk
theorem pX_i12 (hk : GC κ l0 D0 zt cc nL own Ts tys rm) {v : Int32} {index : Nat} (hin : ∀ w ∈ u_ws RX5 TX5 13, w ∈ Ts) (hl : Cond.fieldLink own index "WarpDesk$Reader" "faultPlace" "I" ∈ Ts) (hd : decode cc pc = .ok (.putfield index, 3)) (kk : GW κ nL n1 n2 (wX q d (upd I 12 v) A) (pc + 3) lv st) : GW κ nL n1 n2 (wX q d I A) pc lv (.int v :: .ref (q 3) :: st) := g_put (ws' := (wX q d (upd I 12 v) A)) (fs := [.ref (q 1), .ref (q 4), .ref (q 8), .ref (q 11), .ref (q 12), .int (I 6), .int (I 7), .int (I 8), .int (I 9), .int (I 10), .int (I 11), .int (I 12), .int (I 13)]) hk hin tyX5 tyX5_ok nmX5 3 rfl rfl 11 (by decide) hl rfl rfl rfl rfl (Nat.le_of_ble_eq_true rfl) rfl hd kk
theorem gX_i13 (hk : GC κ l0 D0 zt cc nL own Ts tys rm) {v : Int32} {index : Nat} (hin : ∀ w ∈ u_ws RX5 TX5 13, w ∈ Ts) (hl : Cond.fieldLink own index "WarpDesk$Reader" "faultCause" "I" ∈ Ts) (hd : decode cc pc = .ok (.getfield index, 3)) (hv : I 13 = v) (kk : GW κ nL n1 n2 (wX q d I A) (pc + 3) lv (.int v :: st)) : GW κ nL n1 n2 (wX q d I A) pc lv (.ref (q 3) :: st) := by
  subst hv
  exact g_get hk hin 3 rfl rfl 12 (by decide) hl rfl rfl hd kk
theorem pX_i13 (hk : GC κ l0 D0 zt cc nL own Ts tys rm) {v : Int32} {index : Nat} (hin : ∀ w ∈ u_ws RX5 TX5 13, w ∈ Ts) (hl : Cond.fieldLink own index "WarpDesk$Reader" "faultCause" "I" ∈ Ts) (hd : decode cc pc = .ok (.putfield index, 3)) (kk : GW κ nL n1 n2 (wX q d (upd I 13 v) A) (pc + 3) lv st) : GW κ nL n1 n2 (wX q d I A) pc lv (.int v :: .ref (q 3) :: st) := g_put (ws' := (wX q d (upd I 13 v) A)) (fs := [.ref (q 1), .ref (q 4), .ref (q 8), .ref (q 11), .ref (q 12), .int (I 6), .int (I 7), .int (I 8), .int (I 9), .int (I 10), .int (I 11), .int (I 12), .int (I 13)]) hk hin tyX5 tyX5_ok nmX5 3 rfl rfl 12 (by decide) hl rfl rfl rfl rfl (Nat.le_of_ble_eq_true rfl) rfl hd kk
theorem gX_r4_0 (hk : GC κ l0 D0 zt cc nL own Ts tys rm) {index : Nat} (hin : ∀ w ∈ u_ws RX8 TX8 4, w ∈ Ts) (hl : Cond.fieldLink own index "WarpDesk$Stand" "places" "[I" ∈ Ts) (hd : decode cc pc = .ok (.getfield index, 3)) (kk : GW κ nL n1 n2 (wX q d I A) (pc + 3) lv (.ref (q 5) :: st)) : GW κ nL n1 n2 (wX q d I A) pc lv (.ref (q 4) :: st) := g_get hk hin 4 rfl rfl 0 (by decide) hl rfl rfl hd kk
theorem gX_i14 (hk : GC κ l0 D0 zt cc nL own Ts tys rm) {v : Int32} {index : Nat} (hin : ∀ w ∈ u_ws RX8 TX8 4, w ∈ Ts) (hl : Cond.fieldLink own index "WarpDesk$Stand" "size" "I" ∈ Ts) (hd : decode cc pc = .ok (.getfield index, 3)) (hv : I 14 = v) (kk : GW κ nL n1 n2 (wX q d I A) (pc + 3) lv (.int v :: st)) : GW κ nL n1 n2 (wX q d I A) pc lv (.ref (q 4) :: st) := by
  subst hv
  exact g_get hk hin 4 rfl rfl 1 (by decide) hl rfl rfl hd kk
theorem pX_i14 (hk : GC κ l0 D0 zt cc nL own Ts tys rm) {v : Int32} {index : Nat} (hin : ∀ w ∈ u_ws RX8 TX8 4, w ∈ Ts) (hl : Cond.fieldLink own index "WarpDesk$Stand" "size" "I" ∈ Ts) (hd : decode cc pc = .ok (.putfield index, 3)) (kk : GW κ nL n1 n2 (wX q d (upd I 14 v) A) (pc + 3) lv st) : GW κ nL n1 n2 (wX q d I A) pc lv (.int v :: .ref (q 4) :: st) := g_put (ws' := (wX q d (upd I 14 v) A)) (fs := [.ref (q 5), .int (I 14), .ref (q 6), .int (I 15)]) hk hin tyX8 tyX8_ok nmX8 4 rfl rfl 1 (by decide) hl rfl rfl rfl rfl (Nat.le_of_ble_eq_true rfl) rfl hd kk
theorem gX_r4_2 (hk : GC κ l0 D0 zt cc nL own Ts tys rm) {index : Nat} (hin : ∀ w ∈ u_ws RX8 TX8 4, w ∈ Ts) (hl : Cond.fieldLink own index "WarpDesk$Stand" "settings" "LWarpDesk$Settings;" ∈ Ts) (hd : decode cc pc = .ok (.getfield index, 3)) (kk : GW κ nL n1 n2 (wX q d I A) (pc + 3) lv (.ref (q 6) :: st)) : GW κ nL n1 n2 (wX q d I A) pc lv (.ref (q 4) :: st) := g_get hk hin 4 rfl rfl 2 (by decide) hl rfl rfl hd kk
theorem gX_i15 (hk : GC κ l0 D0 zt cc nL own Ts tys rm) {v : Int32} {index : Nat} (hin : ∀ w ∈ u_ws RX8 TX8 4, w ∈ Ts) (hl : Cond.fieldLink own index "WarpDesk$Stand" "held" "Z" ∈ Ts) (hd : decode cc pc = .ok (.getfield index, 3)) (hv : I 15 = v) (kk : GW κ nL n1 n2 (wX q d I A) (pc + 3) lv (.int v :: st)) : GW κ nL n1 n2 (wX q d I A) pc lv (.ref (q 4) :: st) := by
  subst hv
  exact g_get hk hin 4 rfl rfl 3 (by decide) hl rfl rfl hd kk
theorem pX_i15 (hk : GC κ l0 D0 zt cc nL own Ts tys rm) {v : Int32} {index : Nat} (hin : ∀ w ∈ u_ws RX8 TX8 4, w ∈ Ts) (hl : Cond.fieldLink own index "WarpDesk$Stand" "held" "Z" ∈ Ts) (hb : narrow .boolean (.int v) = .int v ∧ fits .boolean (.int v) = true) (hd : decode cc pc = .ok (.putfield index, 3)) (kk : GW κ nL n1 n2 (wX q d (upd I 15 v) A) (pc + 3) lv st) : GW κ nL n1 n2 (wX q d I A) pc lv (.int v :: .ref (q 4) :: st) := g_put (ws' := (wX q d (upd I 15 v) A)) (fs := [.ref (q 5), .int (I 14), .ref (q 6), .int (I 15)]) hk hin tyX8 tyX8_ok nmX8 4 rfl rfl 3 (by decide) hl rfl rfl hb.1 hb.2 (Nat.le_of_ble_eq_true rfl) rfl hd kk
theorem lX_1 (hk : GC κ l0 D0 zt cc nL own Ts (tyX d) rm) {i v : Int32} (hin : vp_in i 160) (hv : A 1 i.toNatClampNeg = v) (hd : decode cc pc = .ok (.iaload, 1)) (kk : GW κ nL n1 n2 (wX q d I A) (pc + 1) lv (.int v :: st)) : GW κ nL n1 n2 (wX q d I A) pc lv (.int i :: .ref (q 5) :: st) := g_iald hk 5 1 rfl rfl hin hv hd kk
theorem sX_1 (hk : GC κ l0 D0 zt cc nL own Ts (tyX d) rm) {i x : Int32} {j : Nat} (hin : vp_in i 160) (hj : i.toNatClampNeg = j) (hd : decode cc pc = .ok (.iastore, 1)) (kk : GW κ nL n1 n2 (wX q d I (up3 A 1 j x)) (pc + 1) lv st) : GW κ nL n1 n2 (wX q d I A) pc lv (.int x :: .int i :: .ref (q 5) :: st) := g_iast hk 5 1 rfl rfl hin hj rfl hd kk
theorem nX_1 (hk : GC κ l0 D0 zt cc nL own Ts (tyX d) rm) (hd : decode cc pc = .ok (.arraylength, 1)) (kk : GW κ nL n1 n2 (wX q d I A) (pc + 1) lv (.int 160 :: st)) : GW κ nL n1 n2 (wX q d I A) pc lv (.ref (q 5) :: st) := g_alen hk 5 1 rfl rfl rfl hd kk
theorem gX_r6_0 (hk : GC κ l0 D0 zt cc nL own Ts tys rm) {index : Nat} (hin : ∀ w ∈ u_ws RX7 TX7 1, w ∈ Ts) (hl : Cond.fieldLink own index "WarpDesk$Settings" "values" "[I" ∈ Ts) (hd : decode cc pc = .ok (.getfield index, 3)) (kk : GW κ nL n1 n2 (wX q d I A) (pc + 3) lv (.ref (q 7) :: st)) : GW κ nL n1 n2 (wX q d I A) pc lv (.ref (q 6) :: st) := g_get hk hin 6 rfl rfl 0 (by decide) hl rfl rfl hd kk
theorem lX_2 (hk : GC κ l0 D0 zt cc nL own Ts (tyX d) rm) {i v : Int32} (hin : vp_in i 4) (hv : A 2 i.toNatClampNeg = v) (hd : decode cc pc = .ok (.iaload, 1)) (kk : GW κ nL n1 n2 (wX q d I A) (pc + 1) lv (.int v :: st)) : GW κ nL n1 n2 (wX q d I A) pc lv (.int i :: .ref (q 7) :: st) := g_iald hk 7 2 rfl rfl hin hv hd kk
theorem sX_2 (hk : GC κ l0 D0 zt cc nL own Ts (tyX d) rm) {i x : Int32} {j : Nat} (hin : vp_in i 4) (hj : i.toNatClampNeg = j) (hd : decode cc pc = .ok (.iastore, 1)) (kk : GW κ nL n1 n2 (wX q d I (up3 A 2 j x)) (pc + 1) lv st) : GW κ nL n1 n2 (wX q d I A) pc lv (.int x :: .int i :: .ref (q 7) :: st) := g_iast hk 7 2 rfl rfl hin hj rfl hd kk
theorem nX_2 (hk : GC κ l0 D0 zt cc nL own Ts (tyX d) rm) (hd : decode cc pc = .ok (.arraylength, 1)) (kk : GW κ nL n1 n2 (wX q d I A) (pc + 1) lv (.int 4 :: st)) : GW κ nL n1 n2 (wX q d I A) pc lv (.ref (q 7) :: st) := g_alen hk 7 2 rfl rfl rfl hd kk
theorem gX_r8_0 (hk : GC κ l0 D0 zt cc nL own Ts tys rm) {index : Nat} (hin : ∀ w ∈ u_ws RX4 TX4 3, w ∈ Ts) (hl : Cond.fieldLink own index "WarpDesk$Queries" "readings" "[I" ∈ Ts) (hd : decode cc pc = .ok (.getfield index, 3)) (kk : GW κ nL n1 n2 (wX q d I A) (pc + 3) lv (.ref (q 9) :: st)) : GW κ nL n1 n2 (wX q d I A) pc lv (.ref (q 8) :: st) := g_get hk hin 8 rfl rfl 0 (by decide) hl rfl rfl hd kk
theorem gX_r8_1 (hk : GC κ l0 D0 zt cc nL own Ts tys rm) {index : Nat} (hin : ∀ w ∈ u_ws RX4 TX4 3, w ∈ Ts) (hl : Cond.fieldLink own index "WarpDesk$Queries" "lengths" "[I" ∈ Ts) (hd : decode cc pc = .ok (.getfield index, 3)) (kk : GW κ nL n1 n2 (wX q d I A) (pc + 3) lv (.ref (q 10) :: st)) : GW κ nL n1 n2 (wX q d I A) pc lv (.ref (q 8) :: st) := g_get hk hin 8 rfl rfl 1 (by decide) hl rfl rfl hd kk
theorem gX_i16 (hk : GC κ l0 D0 zt cc nL own Ts tys rm) {v : Int32} {index : Nat} (hin : ∀ w ∈ u_ws RX4 TX4 3, w ∈ Ts) (hl : Cond.fieldLink own index "WarpDesk$Queries" "size" "I" ∈ Ts) (hd : decode cc pc = .ok (.getfield index, 3)) (hv : I 16 = v) (kk : GW κ nL n1 n2 (wX q d I A) (pc + 3) lv (.int v :: st)) : GW κ nL n1 n2 (wX q d I A) pc lv (.ref (q 8) :: st) := by
  subst hv
  exact g_get hk hin 8 rfl rfl 2 (by decide) hl rfl rfl hd kk
theorem pX_i16 (hk : GC κ l0 D0 zt cc nL own Ts tys rm) {v : Int32} {index : Nat} (hin : ∀ w ∈ u_ws RX4 TX4 3, w ∈ Ts) (hl : Cond.fieldLink own index "WarpDesk$Queries" "size" "I" ∈ Ts) (hd : decode cc pc = .ok (.putfield index, 3)) (kk : GW κ nL n1 n2 (wX q d (upd I 16 v) A) (pc + 3) lv st) : GW κ nL n1 n2 (wX q d I A) pc lv (.int v :: .ref (q 8) :: st) := g_put (ws' := (wX q d (upd I 16 v) A)) (fs := [.ref (q 9), .ref (q 10), .int (I 16)]) hk hin tyX4 tyX4_ok nmX4 8 rfl rfl 2 (by decide) hl rfl rfl rfl rfl (Nat.le_of_ble_eq_true rfl) rfl hd kk
theorem lX_3 (hk : GC κ l0 D0 zt cc nL own Ts (tyX d) rm) {i v : Int32} (hin : vp_in i 80) (hv : A 3 i.toNatClampNeg = v) (hd : decode cc pc = .ok (.iaload, 1)) (kk : GW κ nL n1 n2 (wX q d I A) (pc + 1) lv (.int v :: st)) : GW κ nL n1 n2 (wX q d I A) pc lv (.int i :: .ref (q 9) :: st) := g_iald hk 9 3 rfl rfl hin hv hd kk
theorem sX_3 (hk : GC κ l0 D0 zt cc nL own Ts (tyX d) rm) {i x : Int32} {j : Nat} (hin : vp_in i 80) (hj : i.toNatClampNeg = j) (hd : decode cc pc = .ok (.iastore, 1)) (kk : GW κ nL n1 n2 (wX q d I (up3 A 3 j x)) (pc + 1) lv st) : GW κ nL n1 n2 (wX q d I A) pc lv (.int x :: .int i :: .ref (q 9) :: st) := g_iast hk 9 3 rfl rfl hin hj rfl hd kk
theorem nX_3 (hk : GC κ l0 D0 zt cc nL own Ts (tyX d) rm) (hd : decode cc pc = .ok (.arraylength, 1)) (kk : GW κ nL n1 n2 (wX q d I A) (pc + 1) lv (.int 80 :: st)) : GW κ nL n1 n2 (wX q d I A) pc lv (.ref (q 9) :: st) := g_alen hk 9 3 rfl rfl rfl hd kk
theorem lX_4 (hk : GC κ l0 D0 zt cc nL own Ts (tyX d) rm) {i v : Int32} (hin : vp_in i 5) (hv : A 4 i.toNatClampNeg = v) (hd : decode cc pc = .ok (.iaload, 1)) (kk : GW κ nL n1 n2 (wX q d I A) (pc + 1) lv (.int v :: st)) : GW κ nL n1 n2 (wX q d I A) pc lv (.int i :: .ref (q 10) :: st) := g_iald hk 10 4 rfl rfl hin hv hd kk
theorem sX_4 (hk : GC κ l0 D0 zt cc nL own Ts (tyX d) rm) {i x : Int32} {j : Nat} (hin : vp_in i 5) (hj : i.toNatClampNeg = j) (hd : decode cc pc = .ok (.iastore, 1)) (kk : GW κ nL n1 n2 (wX q d I (up3 A 4 j x)) (pc + 1) lv st) : GW κ nL n1 n2 (wX q d I A) pc lv (.int x :: .int i :: .ref (q 10) :: st) := g_iast hk 10 4 rfl rfl hin hj rfl hd kk
theorem nX_4 (hk : GC κ l0 D0 zt cc nL own Ts (tyX d) rm) (hd : decode cc pc = .ok (.arraylength, 1)) (kk : GW κ nL n1 n2 (wX q d I A) (pc + 1) lv (.int 5 :: st)) : GW κ nL n1 n2 (wX q d I A) pc lv (.ref (q 10) :: st) := g_alen hk 10 4 rfl rfl rfl hd kk
theorem lX_5 (hk : GC κ l0 D0 zt cc nL own Ts (tyX d) rm) {i v : Int32} (hin : vp_in i 5) (hv : A 5 i.toNatClampNeg = v) (hd : decode cc pc = .ok (.iaload, 1)) (kk : GW κ nL n1 n2 (wX q d I A) (pc + 1) lv (.int v :: st)) : GW κ nL n1 n2 (wX q d I A) pc lv (.int i :: .ref (q 11) :: st) := g_iald hk 11 5 rfl rfl hin hv hd kk
theorem sX_5 (hk : GC κ l0 D0 zt cc nL own Ts (tyX d) rm) {i x : Int32} {j : Nat} (hin : vp_in i 5) (hj : i.toNatClampNeg = j) (hd : decode cc pc = .ok (.iastore, 1)) (kk : GW κ nL n1 n2 (wX q d I (up3 A 5 j x)) (pc + 1) lv st) : GW κ nL n1 n2 (wX q d I A) pc lv (.int x :: .int i :: .ref (q 11) :: st) := g_iast hk 11 5 rfl rfl hin hj rfl hd kk
theorem nX_5 (hk : GC κ l0 D0 zt cc nL own Ts (tyX d) rm) (hd : decode cc pc = .ok (.arraylength, 1)) (kk : GW κ nL n1 n2 (wX q d I A) (pc + 1) lv (.int 5 :: st)) : GW κ nL n1 n2 (wX q d I A) pc lv (.ref (q 11) :: st) := g_alen hk 11 5 rfl rfl rfl hd kk
theorem lX_6 (hk : GC κ l0 D0 zt cc nL own Ts (tyX d) rm) {i v : Int32} (hin : vp_in i 5) (hv : A 6 i.toNatClampNeg = v) (hd : decode cc pc = .ok (.iaload, 1)) (kk : GW κ nL n1 n2 (wX q d I A) (pc + 1) lv (.int v :: st)) : GW κ nL n1 n2 (wX q d I A) pc lv (.int i :: .ref (q 12) :: st) := g_iald hk 12 6 rfl rfl hin hv hd kk
theorem sX_6 (hk : GC κ l0 D0 zt cc nL own Ts (tyX d) rm) {i x : Int32} {j : Nat} (hin : vp_in i 5) (hj : i.toNatClampNeg = j) (hd : decode cc pc = .ok (.iastore, 1)) (kk : GW κ nL n1 n2 (wX q d I (up3 A 6 j x)) (pc + 1) lv st) : GW κ nL n1 n2 (wX q d I A) pc lv (.int x :: .int i :: .ref (q 12) :: st) := g_iast hk 12 6 rfl rfl hin hj rfl hd kk
theorem nX_6 (hk : GC κ l0 D0 zt cc nL own Ts (tyX d) rm) (hd : decode cc pc = .ok (.arraylength, 1)) (kk : GW κ nL n1 n2 (wX q d I A) (pc + 1) lv (.int 5 :: st)) : GW κ nL n1 n2 (wX q d I A) pc lv (.ref (q 12) :: st) := g_alen hk 12 6 rfl rfl rfl hd kk
theorem gX_r13_0 (hk : GC κ l0 D0 zt cc nL own Ts tys rm) {index : Nat} (hin : ∀ w ∈ u_ws RX6 TX6 3, w ∈ Ts) (hl : Cond.fieldLink own index "WarpDesk$Series" "ring" "[I" ∈ Ts) (hd : decode cc pc = .ok (.getfield index, 3)) (kk : GW κ nL n1 n2 (wX q d I A) (pc + 3) lv (.ref (q 14) :: st)) : GW κ nL n1 n2 (wX q d I A) pc lv (.ref (q 13) :: st) := g_get hk hin 13 rfl rfl 0 (by decide) hl rfl rfl hd kk
theorem gX_i17 (hk : GC κ l0 D0 zt cc nL own Ts tys rm) {v : Int32} {index : Nat} (hin : ∀ w ∈ u_ws RX6 TX6 3, w ∈ Ts) (hl : Cond.fieldLink own index "WarpDesk$Series" "first" "I" ∈ Ts) (hd : decode cc pc = .ok (.getfield index, 3)) (hv : I 17 = v) (kk : GW κ nL n1 n2 (wX q d I A) (pc + 3) lv (.int v :: st)) : GW κ nL n1 n2 (wX q d I A) pc lv (.ref (q 13) :: st) := by
  subst hv
  exact g_get hk hin 13 rfl rfl 1 (by decide) hl rfl rfl hd kk
theorem pX_i17 (hk : GC κ l0 D0 zt cc nL own Ts tys rm) {v : Int32} {index : Nat} (hin : ∀ w ∈ u_ws RX6 TX6 3, w ∈ Ts) (hl : Cond.fieldLink own index "WarpDesk$Series" "first" "I" ∈ Ts) (hd : decode cc pc = .ok (.putfield index, 3)) (kk : GW κ nL n1 n2 (wX q d (upd I 17 v) A) (pc + 3) lv st) : GW κ nL n1 n2 (wX q d I A) pc lv (.int v :: .ref (q 13) :: st) := g_put (ws' := (wX q d (upd I 17 v) A)) (fs := [.ref (q 14), .int (I 17), .int (I 18)]) hk hin tyX6 tyX6_ok nmX6 13 rfl rfl 1 (by decide) hl rfl rfl rfl rfl (Nat.le_of_ble_eq_true rfl) rfl hd kk
theorem gX_i18 (hk : GC κ l0 D0 zt cc nL own Ts tys rm) {v : Int32} {index : Nat} (hin : ∀ w ∈ u_ws RX6 TX6 3, w ∈ Ts) (hl : Cond.fieldLink own index "WarpDesk$Series" "size" "I" ∈ Ts) (hd : decode cc pc = .ok (.getfield index, 3)) (hv : I 18 = v) (kk : GW κ nL n1 n2 (wX q d I A) (pc + 3) lv (.int v :: st)) : GW κ nL n1 n2 (wX q d I A) pc lv (.ref (q 13) :: st) := by
  subst hv
  exact g_get hk hin 13 rfl rfl 2 (by decide) hl rfl rfl hd kk
theorem pX_i18 (hk : GC κ l0 D0 zt cc nL own Ts tys rm) {v : Int32} {index : Nat} (hin : ∀ w ∈ u_ws RX6 TX6 3, w ∈ Ts) (hl : Cond.fieldLink own index "WarpDesk$Series" "size" "I" ∈ Ts) (hd : decode cc pc = .ok (.putfield index, 3)) (kk : GW κ nL n1 n2 (wX q d (upd I 18 v) A) (pc + 3) lv st) : GW κ nL n1 n2 (wX q d I A) pc lv (.int v :: .ref (q 13) :: st) := g_put (ws' := (wX q d (upd I 18 v) A)) (fs := [.ref (q 14), .int (I 17), .int (I 18)]) hk hin tyX6 tyX6_ok nmX6 13 rfl rfl 2 (by decide) hl rfl rfl rfl rfl (Nat.le_of_ble_eq_true rfl) rfl hd kk
theorem lX_7 (hk : GC κ l0 D0 zt cc nL own Ts (tyX d) rm) {i v : Int32} (hin : vp_in i 256) (hv : A 7 i.toNatClampNeg = v) (hd : decode cc pc = .ok (.iaload, 1)) (kk : GW κ nL n1 n2 (wX q d I A) (pc + 1) lv (.int v :: st)) : GW κ nL n1 n2 (wX q d I A) pc lv (.int i :: .ref (q 14) :: st) := g_iald hk 14 7 rfl rfl hin hv hd kk
theorem sX_7 (hk : GC κ l0 D0 zt cc nL own Ts (tyX d) rm) {i x : Int32} {j : Nat} (hin : vp_in i 256) (hj : i.toNatClampNeg = j) (hd : decode cc pc = .ok (.iastore, 1)) (kk : GW κ nL n1 n2 (wX q d I (up3 A 7 j x)) (pc + 1) lv st) : GW κ nL n1 n2 (wX q d I A) pc lv (.int x :: .int i :: .ref (q 14) :: st) := g_iast hk 14 7 rfl rfl hin hj rfl hd kk
theorem nX_7 (hk : GC κ l0 D0 zt cc nL own Ts (tyX d) rm) (hd : decode cc pc = .ok (.arraylength, 1)) (kk : GW κ nL n1 n2 (wX q d I A) (pc + 1) lv (.int 256 :: st)) : GW κ nL n1 n2 (wX q d I A) pc lv (.ref (q 14) :: st) := g_alen hk 14 7 rfl rfl rfl hd kk
theorem gX_r15_0 (hk : GC κ l0 D0 zt cc nL own Ts tys rm) {index : Nat} (hin : ∀ w ∈ u_ws RX4 TX4 3, w ∈ Ts) (hl : Cond.fieldLink own index "WarpDesk$Queries" "readings" "[I" ∈ Ts) (hd : decode cc pc = .ok (.getfield index, 3)) (kk : GW κ nL n1 n2 (wX q d I A) (pc + 3) lv (.ref (q 16) :: st)) : GW κ nL n1 n2 (wX q d I A) pc lv (.ref (q 15) :: st) := g_get hk hin 15 rfl rfl 0 (by decide) hl rfl rfl hd kk
theorem gX_r15_1 (hk : GC κ l0 D0 zt cc nL own Ts tys rm) {index : Nat} (hin : ∀ w ∈ u_ws RX4 TX4 3, w ∈ Ts) (hl : Cond.fieldLink own index "WarpDesk$Queries" "lengths" "[I" ∈ Ts) (hd : decode cc pc = .ok (.getfield index, 3)) (kk : GW κ nL n1 n2 (wX q d I A) (pc + 3) lv (.ref (q 17) :: st)) : GW κ nL n1 n2 (wX q d I A) pc lv (.ref (q 15) :: st) := g_get hk hin 15 rfl rfl 1 (by decide) hl rfl rfl hd kk
theorem gX_i19 (hk : GC κ l0 D0 zt cc nL own Ts tys rm) {v : Int32} {index : Nat} (hin : ∀ w ∈ u_ws RX4 TX4 3, w ∈ Ts) (hl : Cond.fieldLink own index "WarpDesk$Queries" "size" "I" ∈ Ts) (hd : decode cc pc = .ok (.getfield index, 3)) (hv : I 19 = v) (kk : GW κ nL n1 n2 (wX q d I A) (pc + 3) lv (.int v :: st)) : GW κ nL n1 n2 (wX q d I A) pc lv (.ref (q 15) :: st) := by
  subst hv
  exact g_get hk hin 15 rfl rfl 2 (by decide) hl rfl rfl hd kk
theorem pX_i19 (hk : GC κ l0 D0 zt cc nL own Ts tys rm) {v : Int32} {index : Nat} (hin : ∀ w ∈ u_ws RX4 TX4 3, w ∈ Ts) (hl : Cond.fieldLink own index "WarpDesk$Queries" "size" "I" ∈ Ts) (hd : decode cc pc = .ok (.putfield index, 3)) (kk : GW κ nL n1 n2 (wX q d (upd I 19 v) A) (pc + 3) lv st) : GW κ nL n1 n2 (wX q d I A) pc lv (.int v :: .ref (q 15) :: st) := g_put (ws' := (wX q d (upd I 19 v) A)) (fs := [.ref (q 16), .ref (q 17), .int (I 19)]) hk hin tyX4 tyX4_ok nmX4 15 rfl rfl 2 (by decide) hl rfl rfl rfl rfl (Nat.le_of_ble_eq_true rfl) rfl hd kk
theorem lX_8 (hk : GC κ l0 D0 zt cc nL own Ts (tyX d) rm) {i v : Int32} (hin : vp_in i 80) (hv : A 8 i.toNatClampNeg = v) (hd : decode cc pc = .ok (.iaload, 1)) (kk : GW κ nL n1 n2 (wX q d I A) (pc + 1) lv (.int v :: st)) : GW κ nL n1 n2 (wX q d I A) pc lv (.int i :: .ref (q 16) :: st) := g_iald hk 16 8 rfl rfl hin hv hd kk
theorem sX_8 (hk : GC κ l0 D0 zt cc nL own Ts (tyX d) rm) {i x : Int32} {j : Nat} (hin : vp_in i 80) (hj : i.toNatClampNeg = j) (hd : decode cc pc = .ok (.iastore, 1)) (kk : GW κ nL n1 n2 (wX q d I (up3 A 8 j x)) (pc + 1) lv st) : GW κ nL n1 n2 (wX q d I A) pc lv (.int x :: .int i :: .ref (q 16) :: st) := g_iast hk 16 8 rfl rfl hin hj rfl hd kk
theorem nX_8 (hk : GC κ l0 D0 zt cc nL own Ts (tyX d) rm) (hd : decode cc pc = .ok (.arraylength, 1)) (kk : GW κ nL n1 n2 (wX q d I A) (pc + 1) lv (.int 80 :: st)) : GW κ nL n1 n2 (wX q d I A) pc lv (.ref (q 16) :: st) := g_alen hk 16 8 rfl rfl rfl hd kk
theorem lX_9 (hk : GC κ l0 D0 zt cc nL own Ts (tyX d) rm) {i v : Int32} (hin : vp_in i 5) (hv : A 9 i.toNatClampNeg = v) (hd : decode cc pc = .ok (.iaload, 1)) (kk : GW κ nL n1 n2 (wX q d I A) (pc + 1) lv (.int v :: st)) : GW κ nL n1 n2 (wX q d I A) pc lv (.int i :: .ref (q 17) :: st) := g_iald hk 17 9 rfl rfl hin hv hd kk
theorem sX_9 (hk : GC κ l0 D0 zt cc nL own Ts (tyX d) rm) {i x : Int32} {j : Nat} (hin : vp_in i 5) (hj : i.toNatClampNeg = j) (hd : decode cc pc = .ok (.iastore, 1)) (kk : GW κ nL n1 n2 (wX q d I (up3 A 9 j x)) (pc + 1) lv st) : GW κ nL n1 n2 (wX q d I A) pc lv (.int x :: .int i :: .ref (q 17) :: st) := g_iast hk 17 9 rfl rfl hin hj rfl hd kk
theorem nX_9 (hk : GC κ l0 D0 zt cc nL own Ts (tyX d) rm) (hd : decode cc pc = .ok (.arraylength, 1)) (kk : GW κ nL n1 n2 (wX q d I A) (pc + 1) lv (.int 5 :: st)) : GW κ nL n1 n2 (wX q d I A) pc lv (.ref (q 17) :: st) := g_alen hk 17 9 rfl rfl rfl hd kk
theorem gX_r18_0 (hk : GC κ l0 D0 zt cc nL own Ts tys rm) {index : Nat} (hin : ∀ w ∈ u_ws RX7 TX7 1, w ∈ Ts) (hl : Cond.fieldLink own index "WarpDesk$Settings" "values" "[I" ∈ Ts) (hd : decode cc pc = .ok (.getfield index, 3)) (kk : GW κ nL n1 n2 (wX q d I A) (pc + 3) lv (.ref (q 19) :: st)) : GW κ nL n1 n2 (wX q d I A) pc lv (.ref (q 18) :: st) := g_get hk hin 18 rfl rfl 0 (by decide) hl rfl rfl hd kk
theorem lX_10 (hk : GC κ l0 D0 zt cc nL own Ts (tyX d) rm) {i v : Int32} (hin : vp_in i 4) (hv : A 10 i.toNatClampNeg = v) (hd : decode cc pc = .ok (.iaload, 1)) (kk : GW κ nL n1 n2 (wX q d I A) (pc + 1) lv (.int v :: st)) : GW κ nL n1 n2 (wX q d I A) pc lv (.int i :: .ref (q 19) :: st) := g_iald hk 19 10 rfl rfl hin hv hd kk
theorem sX_10 (hk : GC κ l0 D0 zt cc nL own Ts (tyX d) rm) {i x : Int32} {j : Nat} (hin : vp_in i 4) (hj : i.toNatClampNeg = j) (hd : decode cc pc = .ok (.iastore, 1)) (kk : GW κ nL n1 n2 (wX q d I (up3 A 10 j x)) (pc + 1) lv st) : GW κ nL n1 n2 (wX q d I A) pc lv (.int x :: .int i :: .ref (q 19) :: st) := g_iast hk 19 10 rfl rfl hin hj rfl hd kk
theorem nX_10 (hk : GC κ l0 D0 zt cc nL own Ts (tyX d) rm) (hd : decode cc pc = .ok (.arraylength, 1)) (kk : GW κ nL n1 n2 (wX q d I A) (pc + 1) lv (.int 4 :: st)) : GW κ nL n1 n2 (wX q d I A) pc lv (.ref (q 19) :: st) := g_alen hk 19 10 rfl rfl rfl hd kk
theorem gX_r20_0 (hk : GC κ l0 D0 zt cc nL own Ts tys rm) {index : Nat} (hin : ∀ w ∈ u_ws RX3 TX3 5, w ∈ Ts) (hl : Cond.fieldLink own index "WarpDesk$Past" "kinds" "[I" ∈ Ts) (hd : decode cc pc = .ok (.getfield index, 3)) (kk : GW κ nL n1 n2 (wX q d I A) (pc + 3) lv (.ref (q 21) :: st)) : GW κ nL n1 n2 (wX q d I A) pc lv (.ref (q 20) :: st) := g_get hk hin 20 rfl rfl 0 (by decide) hl rfl rfl hd kk
theorem gX_r20_1 (hk : GC κ l0 D0 zt cc nL own Ts tys rm) {index : Nat} (hin : ∀ w ∈ u_ws RX3 TX3 5, w ∈ Ts) (hl : Cond.fieldLink own index "WarpDesk$Past" "firsts" "[I" ∈ Ts) (hd : decode cc pc = .ok (.getfield index, 3)) (kk : GW κ nL n1 n2 (wX q d I A) (pc + 3) lv (.ref (q 22) :: st)) : GW κ nL n1 n2 (wX q d I A) pc lv (.ref (q 20) :: st) := g_get hk hin 20 rfl rfl 1 (by decide) hl rfl rfl hd kk
theorem gX_r20_2 (hk : GC κ l0 D0 zt cc nL own Ts tys rm) {index : Nat} (hin : ∀ w ∈ u_ws RX3 TX3 5, w ∈ Ts) (hl : Cond.fieldLink own index "WarpDesk$Past" "seconds" "[I" ∈ Ts) (hd : decode cc pc = .ok (.getfield index, 3)) (kk : GW κ nL n1 n2 (wX q d I A) (pc + 3) lv (.ref (q 23) :: st)) : GW κ nL n1 n2 (wX q d I A) pc lv (.ref (q 20) :: st) := g_get hk hin 20 rfl rfl 2 (by decide) hl rfl rfl hd kk
theorem gX_i20 (hk : GC κ l0 D0 zt cc nL own Ts tys rm) {v : Int32} {index : Nat} (hin : ∀ w ∈ u_ws RX3 TX3 5, w ∈ Ts) (hl : Cond.fieldLink own index "WarpDesk$Past" "next" "I" ∈ Ts) (hd : decode cc pc = .ok (.getfield index, 3)) (hv : I 20 = v) (kk : GW κ nL n1 n2 (wX q d I A) (pc + 3) lv (.int v :: st)) : GW κ nL n1 n2 (wX q d I A) pc lv (.ref (q 20) :: st) := by
  subst hv
  exact g_get hk hin 20 rfl rfl 3 (by decide) hl rfl rfl hd kk
theorem pX_i20 (hk : GC κ l0 D0 zt cc nL own Ts tys rm) {v : Int32} {index : Nat} (hin : ∀ w ∈ u_ws RX3 TX3 5, w ∈ Ts) (hl : Cond.fieldLink own index "WarpDesk$Past" "next" "I" ∈ Ts) (hd : decode cc pc = .ok (.putfield index, 3)) (kk : GW κ nL n1 n2 (wX q d (upd I 20 v) A) (pc + 3) lv st) : GW κ nL n1 n2 (wX q d I A) pc lv (.int v :: .ref (q 20) :: st) := g_put (ws' := (wX q d (upd I 20 v) A)) (fs := [.ref (q 21), .ref (q 22), .ref (q 23), .int (I 20), .int (I 21)]) hk hin tyX3 tyX3_ok nmX3 20 rfl rfl 3 (by decide) hl rfl rfl rfl rfl (Nat.le_of_ble_eq_true rfl) rfl hd kk
theorem gX_i21 (hk : GC κ l0 D0 zt cc nL own Ts tys rm) {v : Int32} {index : Nat} (hin : ∀ w ∈ u_ws RX3 TX3 5, w ∈ Ts) (hl : Cond.fieldLink own index "WarpDesk$Past" "size" "I" ∈ Ts) (hd : decode cc pc = .ok (.getfield index, 3)) (hv : I 21 = v) (kk : GW κ nL n1 n2 (wX q d I A) (pc + 3) lv (.int v :: st)) : GW κ nL n1 n2 (wX q d I A) pc lv (.ref (q 20) :: st) := by
  subst hv
  exact g_get hk hin 20 rfl rfl 4 (by decide) hl rfl rfl hd kk
theorem pX_i21 (hk : GC κ l0 D0 zt cc nL own Ts tys rm) {v : Int32} {index : Nat} (hin : ∀ w ∈ u_ws RX3 TX3 5, w ∈ Ts) (hl : Cond.fieldLink own index "WarpDesk$Past" "size" "I" ∈ Ts) (hd : decode cc pc = .ok (.putfield index, 3)) (kk : GW κ nL n1 n2 (wX q d (upd I 21 v) A) (pc + 3) lv st) : GW κ nL n1 n2 (wX q d I A) pc lv (.int v :: .ref (q 20) :: st) := g_put (ws' := (wX q d (upd I 21 v) A)) (fs := [.ref (q 21), .ref (q 22), .ref (q 23), .int (I 20), .int (I 21)]) hk hin tyX3 tyX3_ok nmX3 20 rfl rfl 4 (by decide) hl rfl rfl rfl rfl (Nat.le_of_ble_eq_true rfl) rfl hd kk
theorem lX_11 (hk : GC κ l0 D0 zt cc nL own Ts (tyX d) rm) {i v : Int32} (hin : vp_in i 40) (hv : A 11 i.toNatClampNeg = v) (hd : decode cc pc = .ok (.iaload, 1)) (kk : GW κ nL n1 n2 (wX q d I A) (pc + 1) lv (.int v :: st)) : GW κ nL n1 n2 (wX q d I A) pc lv (.int i :: .ref (q 21) :: st) := g_iald hk 21 11 rfl rfl hin hv hd kk
theorem sX_11 (hk : GC κ l0 D0 zt cc nL own Ts (tyX d) rm) {i x : Int32} {j : Nat} (hin : vp_in i 40) (hj : i.toNatClampNeg = j) (hd : decode cc pc = .ok (.iastore, 1)) (kk : GW κ nL n1 n2 (wX q d I (up3 A 11 j x)) (pc + 1) lv st) : GW κ nL n1 n2 (wX q d I A) pc lv (.int x :: .int i :: .ref (q 21) :: st) := g_iast hk 21 11 rfl rfl hin hj rfl hd kk
theorem nX_11 (hk : GC κ l0 D0 zt cc nL own Ts (tyX d) rm) (hd : decode cc pc = .ok (.arraylength, 1)) (kk : GW κ nL n1 n2 (wX q d I A) (pc + 1) lv (.int 40 :: st)) : GW κ nL n1 n2 (wX q d I A) pc lv (.ref (q 21) :: st) := g_alen hk 21 11 rfl rfl rfl hd kk
theorem lX_12 (hk : GC κ l0 D0 zt cc nL own Ts (tyX d) rm) {i v : Int32} (hin : vp_in i 40) (hv : A 12 i.toNatClampNeg = v) (hd : decode cc pc = .ok (.iaload, 1)) (kk : GW κ nL n1 n2 (wX q d I A) (pc + 1) lv (.int v :: st)) : GW κ nL n1 n2 (wX q d I A) pc lv (.int i :: .ref (q 22) :: st) := g_iald hk 22 12 rfl rfl hin hv hd kk
theorem sX_12 (hk : GC κ l0 D0 zt cc nL own Ts (tyX d) rm) {i x : Int32} {j : Nat} (hin : vp_in i 40) (hj : i.toNatClampNeg = j) (hd : decode cc pc = .ok (.iastore, 1)) (kk : GW κ nL n1 n2 (wX q d I (up3 A 12 j x)) (pc + 1) lv st) : GW κ nL n1 n2 (wX q d I A) pc lv (.int x :: .int i :: .ref (q 22) :: st) := g_iast hk 22 12 rfl rfl hin hj rfl hd kk
theorem nX_12 (hk : GC κ l0 D0 zt cc nL own Ts (tyX d) rm) (hd : decode cc pc = .ok (.arraylength, 1)) (kk : GW κ nL n1 n2 (wX q d I A) (pc + 1) lv (.int 40 :: st)) : GW κ nL n1 n2 (wX q d I A) pc lv (.ref (q 22) :: st) := g_alen hk 22 12 rfl rfl rfl hd kk
theorem lX_13 (hk : GC κ l0 D0 zt cc nL own Ts (tyX d) rm) {i v : Int32} (hin : vp_in i 40) (hv : A 13 i.toNatClampNeg = v) (hd : decode cc pc = .ok (.iaload, 1)) (kk : GW κ nL n1 n2 (wX q d I A) (pc + 1) lv (.int v :: st)) : GW κ nL n1 n2 (wX q d I A) pc lv (.int i :: .ref (q 23) :: st) := g_iald hk 23 13 rfl rfl hin hv hd kk
theorem sX_13 (hk : GC κ l0 D0 zt cc nL own Ts (tyX d) rm) {i x : Int32} {j : Nat} (hin : vp_in i 40) (hj : i.toNatClampNeg = j) (hd : decode cc pc = .ok (.iastore, 1)) (kk : GW κ nL n1 n2 (wX q d I (up3 A 13 j x)) (pc + 1) lv st) : GW κ nL n1 n2 (wX q d I A) pc lv (.int x :: .int i :: .ref (q 23) :: st) := g_iast hk 23 13 rfl rfl hin hj rfl hd kk
theorem nX_13 (hk : GC κ l0 D0 zt cc nL own Ts (tyX d) rm) (hd : decode cc pc = .ok (.arraylength, 1)) (kk : GW κ nL n1 n2 (wX q d I A) (pc + 1) lv (.int 40 :: st)) : GW κ nL n1 n2 (wX q d I A) pc lv (.ref (q 23) :: st) := g_alen hk 23 13 rfl rfl rfl hd kk
theorem lX_14 (hk : GC κ l0 D0 zt cc nL own Ts (tyX d) rm) {i : Int32} {a : Nat} (hin : vp_in i 3) (hv : (va_up (va_up (va_up (fun _ => none) 0 (some (q 25))) 1 (some (q 29))) 2 (some (q 33))) i.toNatClampNeg = some a) (hd : decode cc pc = .ok (.aaload, 1)) (kk : GW κ nL n1 n2 (wX q d I A) (pc + 1) lv (.ref a :: st)) : GW κ nL n1 n2 (wX q d I A) pc lv (.int i :: .ref (q 24) :: st) := g_aald hk 24 14 rfl rfl hin hv hd kk
theorem nX_14 (hk : GC κ l0 D0 zt cc nL own Ts (tyX d) rm) (hd : decode cc pc = .ok (.arraylength, 1)) (kk : GW κ nL n1 n2 (wX q d I A) (pc + 1) lv (.int 3 :: st)) : GW κ nL n1 n2 (wX q d I A) pc lv (.ref (q 24) :: st) := g_alen hk 24 14 rfl rfl rfl hd kk
theorem gX_r25_0 (hk : GC κ l0 D0 zt cc nL own Ts tys rm) {index : Nat} (hin : ∀ w ∈ u_ws RX8 TX8 4, w ∈ Ts) (hl : Cond.fieldLink own index "WarpDesk$Stand" "places" "[I" ∈ Ts) (hd : decode cc pc = .ok (.getfield index, 3)) (kk : GW κ nL n1 n2 (wX q d I A) (pc + 3) lv (.ref (q 26) :: st)) : GW κ nL n1 n2 (wX q d I A) pc lv (.ref (q 25) :: st) := g_get hk hin 25 rfl rfl 0 (by decide) hl rfl rfl hd kk
theorem gX_i22 (hk : GC κ l0 D0 zt cc nL own Ts tys rm) {v : Int32} {index : Nat} (hin : ∀ w ∈ u_ws RX8 TX8 4, w ∈ Ts) (hl : Cond.fieldLink own index "WarpDesk$Stand" "size" "I" ∈ Ts) (hd : decode cc pc = .ok (.getfield index, 3)) (hv : I 22 = v) (kk : GW κ nL n1 n2 (wX q d I A) (pc + 3) lv (.int v :: st)) : GW κ nL n1 n2 (wX q d I A) pc lv (.ref (q 25) :: st) := by
  subst hv
  exact g_get hk hin 25 rfl rfl 1 (by decide) hl rfl rfl hd kk
theorem pX_i22 (hk : GC κ l0 D0 zt cc nL own Ts tys rm) {v : Int32} {index : Nat} (hin : ∀ w ∈ u_ws RX8 TX8 4, w ∈ Ts) (hl : Cond.fieldLink own index "WarpDesk$Stand" "size" "I" ∈ Ts) (hd : decode cc pc = .ok (.putfield index, 3)) (kk : GW κ nL n1 n2 (wX q d (upd I 22 v) A) (pc + 3) lv st) : GW κ nL n1 n2 (wX q d I A) pc lv (.int v :: .ref (q 25) :: st) := g_put (ws' := (wX q d (upd I 22 v) A)) (fs := [.ref (q 26), .int (I 22), .ref (q 27), .int (I 23)]) hk hin tyX8 tyX8_ok nmX8 25 rfl rfl 1 (by decide) hl rfl rfl rfl rfl (Nat.le_of_ble_eq_true rfl) rfl hd kk
theorem gX_r25_2 (hk : GC κ l0 D0 zt cc nL own Ts tys rm) {index : Nat} (hin : ∀ w ∈ u_ws RX8 TX8 4, w ∈ Ts) (hl : Cond.fieldLink own index "WarpDesk$Stand" "settings" "LWarpDesk$Settings;" ∈ Ts) (hd : decode cc pc = .ok (.getfield index, 3)) (kk : GW κ nL n1 n2 (wX q d I A) (pc + 3) lv (.ref (q 27) :: st)) : GW κ nL n1 n2 (wX q d I A) pc lv (.ref (q 25) :: st) := g_get hk hin 25 rfl rfl 2 (by decide) hl rfl rfl hd kk
theorem gX_i23 (hk : GC κ l0 D0 zt cc nL own Ts tys rm) {v : Int32} {index : Nat} (hin : ∀ w ∈ u_ws RX8 TX8 4, w ∈ Ts) (hl : Cond.fieldLink own index "WarpDesk$Stand" "held" "Z" ∈ Ts) (hd : decode cc pc = .ok (.getfield index, 3)) (hv : I 23 = v) (kk : GW κ nL n1 n2 (wX q d I A) (pc + 3) lv (.int v :: st)) : GW κ nL n1 n2 (wX q d I A) pc lv (.ref (q 25) :: st) := by
  subst hv
  exact g_get hk hin 25 rfl rfl 3 (by decide) hl rfl rfl hd kk
theorem pX_i23 (hk : GC κ l0 D0 zt cc nL own Ts tys rm) {v : Int32} {index : Nat} (hin : ∀ w ∈ u_ws RX8 TX8 4, w ∈ Ts) (hl : Cond.fieldLink own index "WarpDesk$Stand" "held" "Z" ∈ Ts) (hb : narrow .boolean (.int v) = .int v ∧ fits .boolean (.int v) = true) (hd : decode cc pc = .ok (.putfield index, 3)) (kk : GW κ nL n1 n2 (wX q d (upd I 23 v) A) (pc + 3) lv st) : GW κ nL n1 n2 (wX q d I A) pc lv (.int v :: .ref (q 25) :: st) := g_put (ws' := (wX q d (upd I 23 v) A)) (fs := [.ref (q 26), .int (I 22), .ref (q 27), .int (I 23)]) hk hin tyX8 tyX8_ok nmX8 25 rfl rfl 3 (by decide) hl rfl rfl hb.1 hb.2 (Nat.le_of_ble_eq_true rfl) rfl hd kk
theorem lX_15 (hk : GC κ l0 D0 zt cc nL own Ts (tyX d) rm) {i v : Int32} (hin : vp_in i 160) (hv : A 15 i.toNatClampNeg = v) (hd : decode cc pc = .ok (.iaload, 1)) (kk : GW κ nL n1 n2 (wX q d I A) (pc + 1) lv (.int v :: st)) : GW κ nL n1 n2 (wX q d I A) pc lv (.int i :: .ref (q 26) :: st) := g_iald hk 26 15 rfl rfl hin hv hd kk
theorem sX_15 (hk : GC κ l0 D0 zt cc nL own Ts (tyX d) rm) {i x : Int32} {j : Nat} (hin : vp_in i 160) (hj : i.toNatClampNeg = j) (hd : decode cc pc = .ok (.iastore, 1)) (kk : GW κ nL n1 n2 (wX q d I (up3 A 15 j x)) (pc + 1) lv st) : GW κ nL n1 n2 (wX q d I A) pc lv (.int x :: .int i :: .ref (q 26) :: st) := g_iast hk 26 15 rfl rfl hin hj rfl hd kk
theorem nX_15 (hk : GC κ l0 D0 zt cc nL own Ts (tyX d) rm) (hd : decode cc pc = .ok (.arraylength, 1)) (kk : GW κ nL n1 n2 (wX q d I A) (pc + 1) lv (.int 160 :: st)) : GW κ nL n1 n2 (wX q d I A) pc lv (.ref (q 26) :: st) := g_alen hk 26 15 rfl rfl rfl hd kk
theorem gX_r27_0 (hk : GC κ l0 D0 zt cc nL own Ts tys rm) {index : Nat} (hin : ∀ w ∈ u_ws RX7 TX7 1, w ∈ Ts) (hl : Cond.fieldLink own index "WarpDesk$Settings" "values" "[I" ∈ Ts) (hd : decode cc pc = .ok (.getfield index, 3)) (kk : GW κ nL n1 n2 (wX q d I A) (pc + 3) lv (.ref (q 28) :: st)) : GW κ nL n1 n2 (wX q d I A) pc lv (.ref (q 27) :: st) := g_get hk hin 27 rfl rfl 0 (by decide) hl rfl rfl hd kk
theorem lX_16 (hk : GC κ l0 D0 zt cc nL own Ts (tyX d) rm) {i v : Int32} (hin : vp_in i 4) (hv : A 16 i.toNatClampNeg = v) (hd : decode cc pc = .ok (.iaload, 1)) (kk : GW κ nL n1 n2 (wX q d I A) (pc + 1) lv (.int v :: st)) : GW κ nL n1 n2 (wX q d I A) pc lv (.int i :: .ref (q 28) :: st) := g_iald hk 28 16 rfl rfl hin hv hd kk
theorem sX_16 (hk : GC κ l0 D0 zt cc nL own Ts (tyX d) rm) {i x : Int32} {j : Nat} (hin : vp_in i 4) (hj : i.toNatClampNeg = j) (hd : decode cc pc = .ok (.iastore, 1)) (kk : GW κ nL n1 n2 (wX q d I (up3 A 16 j x)) (pc + 1) lv st) : GW κ nL n1 n2 (wX q d I A) pc lv (.int x :: .int i :: .ref (q 28) :: st) := g_iast hk 28 16 rfl rfl hin hj rfl hd kk
theorem nX_16 (hk : GC κ l0 D0 zt cc nL own Ts (tyX d) rm) (hd : decode cc pc = .ok (.arraylength, 1)) (kk : GW κ nL n1 n2 (wX q d I A) (pc + 1) lv (.int 4 :: st)) : GW κ nL n1 n2 (wX q d I A) pc lv (.ref (q 28) :: st) := g_alen hk 28 16 rfl rfl rfl hd kk
theorem gX_r29_0 (hk : GC κ l0 D0 zt cc nL own Ts tys rm) {index : Nat} (hin : ∀ w ∈ u_ws RX8 TX8 4, w ∈ Ts) (hl : Cond.fieldLink own index "WarpDesk$Stand" "places" "[I" ∈ Ts) (hd : decode cc pc = .ok (.getfield index, 3)) (kk : GW κ nL n1 n2 (wX q d I A) (pc + 3) lv (.ref (q 30) :: st)) : GW κ nL n1 n2 (wX q d I A) pc lv (.ref (q 29) :: st) := g_get hk hin 29 rfl rfl 0 (by decide) hl rfl rfl hd kk
theorem gX_i24 (hk : GC κ l0 D0 zt cc nL own Ts tys rm) {v : Int32} {index : Nat} (hin : ∀ w ∈ u_ws RX8 TX8 4, w ∈ Ts) (hl : Cond.fieldLink own index "WarpDesk$Stand" "size" "I" ∈ Ts) (hd : decode cc pc = .ok (.getfield index, 3)) (hv : I 24 = v) (kk : GW κ nL n1 n2 (wX q d I A) (pc + 3) lv (.int v :: st)) : GW κ nL n1 n2 (wX q d I A) pc lv (.ref (q 29) :: st) := by
  subst hv
  exact g_get hk hin 29 rfl rfl 1 (by decide) hl rfl rfl hd kk
theorem pX_i24 (hk : GC κ l0 D0 zt cc nL own Ts tys rm) {v : Int32} {index : Nat} (hin : ∀ w ∈ u_ws RX8 TX8 4, w ∈ Ts) (hl : Cond.fieldLink own index "WarpDesk$Stand" "size" "I" ∈ Ts) (hd : decode cc pc = .ok (.putfield index, 3)) (kk : GW κ nL n1 n2 (wX q d (upd I 24 v) A) (pc + 3) lv st) : GW κ nL n1 n2 (wX q d I A) pc lv (.int v :: .ref (q 29) :: st) := g_put (ws' := (wX q d (upd I 24 v) A)) (fs := [.ref (q 30), .int (I 24), .ref (q 31), .int (I 25)]) hk hin tyX8 tyX8_ok nmX8 29 rfl rfl 1 (by decide) hl rfl rfl rfl rfl (Nat.le_of_ble_eq_true rfl) rfl hd kk
theorem gX_r29_2 (hk : GC κ l0 D0 zt cc nL own Ts tys rm) {index : Nat} (hin : ∀ w ∈ u_ws RX8 TX8 4, w ∈ Ts) (hl : Cond.fieldLink own index "WarpDesk$Stand" "settings" "LWarpDesk$Settings;" ∈ Ts) (hd : decode cc pc = .ok (.getfield index, 3)) (kk : GW κ nL n1 n2 (wX q d I A) (pc + 3) lv (.ref (q 31) :: st)) : GW κ nL n1 n2 (wX q d I A) pc lv (.ref (q 29) :: st) := g_get hk hin 29 rfl rfl 2 (by decide) hl rfl rfl hd kk
theorem gX_i25 (hk : GC κ l0 D0 zt cc nL own Ts tys rm) {v : Int32} {index : Nat} (hin : ∀ w ∈ u_ws RX8 TX8 4, w ∈ Ts) (hl : Cond.fieldLink own index "WarpDesk$Stand" "held" "Z" ∈ Ts) (hd : decode cc pc = .ok (.getfield index, 3)) (hv : I 25 = v) (kk : GW κ nL n1 n2 (wX q d I A) (pc + 3) lv (.int v :: st)) : GW κ nL n1 n2 (wX q d I A) pc lv (.ref (q 29) :: st) := by
  subst hv
  exact g_get hk hin 29 rfl rfl 3 (by decide) hl rfl rfl hd kk
theorem pX_i25 (hk : GC κ l0 D0 zt cc nL own Ts tys rm) {v : Int32} {index : Nat} (hin : ∀ w ∈ u_ws RX8 TX8 4, w ∈ Ts) (hl : Cond.fieldLink own index "WarpDesk$Stand" "held" "Z" ∈ Ts) (hb : narrow .boolean (.int v) = .int v ∧ fits .boolean (.int v) = true) (hd : decode cc pc = .ok (.putfield index, 3)) (kk : GW κ nL n1 n2 (wX q d (upd I 25 v) A) (pc + 3) lv st) : GW κ nL n1 n2 (wX q d I A) pc lv (.int v :: .ref (q 29) :: st) := g_put (ws' := (wX q d (upd I 25 v) A)) (fs := [.ref (q 30), .int (I 24), .ref (q 31), .int (I 25)]) hk hin tyX8 tyX8_ok nmX8 29 rfl rfl 3 (by decide) hl rfl rfl hb.1 hb.2 (Nat.le_of_ble_eq_true rfl) rfl hd kk
theorem lX_17 (hk : GC κ l0 D0 zt cc nL own Ts (tyX d) rm) {i v : Int32} (hin : vp_in i 160) (hv : A 17 i.toNatClampNeg = v) (hd : decode cc pc = .ok (.iaload, 1)) (kk : GW κ nL n1 n2 (wX q d I A) (pc + 1) lv (.int v :: st)) : GW κ nL n1 n2 (wX q d I A) pc lv (.int i :: .ref (q 30) :: st) := g_iald hk 30 17 rfl rfl hin hv hd kk
theorem sX_17 (hk : GC κ l0 D0 zt cc nL own Ts (tyX d) rm) {i x : Int32} {j : Nat} (hin : vp_in i 160) (hj : i.toNatClampNeg = j) (hd : decode cc pc = .ok (.iastore, 1)) (kk : GW κ nL n1 n2 (wX q d I (up3 A 17 j x)) (pc + 1) lv st) : GW κ nL n1 n2 (wX q d I A) pc lv (.int x :: .int i :: .ref (q 30) :: st) := g_iast hk 30 17 rfl rfl hin hj rfl hd kk
theorem nX_17 (hk : GC κ l0 D0 zt cc nL own Ts (tyX d) rm) (hd : decode cc pc = .ok (.arraylength, 1)) (kk : GW κ nL n1 n2 (wX q d I A) (pc + 1) lv (.int 160 :: st)) : GW κ nL n1 n2 (wX q d I A) pc lv (.ref (q 30) :: st) := g_alen hk 30 17 rfl rfl rfl hd kk
theorem gX_r31_0 (hk : GC κ l0 D0 zt cc nL own Ts tys rm) {index : Nat} (hin : ∀ w ∈ u_ws RX7 TX7 1, w ∈ Ts) (hl : Cond.fieldLink own index "WarpDesk$Settings" "values" "[I" ∈ Ts) (hd : decode cc pc = .ok (.getfield index, 3)) (kk : GW κ nL n1 n2 (wX q d I A) (pc + 3) lv (.ref (q 32) :: st)) : GW κ nL n1 n2 (wX q d I A) pc lv (.ref (q 31) :: st) := g_get hk hin 31 rfl rfl 0 (by decide) hl rfl rfl hd kk
theorem lX_18 (hk : GC κ l0 D0 zt cc nL own Ts (tyX d) rm) {i v : Int32} (hin : vp_in i 4) (hv : A 18 i.toNatClampNeg = v) (hd : decode cc pc = .ok (.iaload, 1)) (kk : GW κ nL n1 n2 (wX q d I A) (pc + 1) lv (.int v :: st)) : GW κ nL n1 n2 (wX q d I A) pc lv (.int i :: .ref (q 32) :: st) := g_iald hk 32 18 rfl rfl hin hv hd kk
theorem sX_18 (hk : GC κ l0 D0 zt cc nL own Ts (tyX d) rm) {i x : Int32} {j : Nat} (hin : vp_in i 4) (hj : i.toNatClampNeg = j) (hd : decode cc pc = .ok (.iastore, 1)) (kk : GW κ nL n1 n2 (wX q d I (up3 A 18 j x)) (pc + 1) lv st) : GW κ nL n1 n2 (wX q d I A) pc lv (.int x :: .int i :: .ref (q 32) :: st) := g_iast hk 32 18 rfl rfl hin hj rfl hd kk
theorem nX_18 (hk : GC κ l0 D0 zt cc nL own Ts (tyX d) rm) (hd : decode cc pc = .ok (.arraylength, 1)) (kk : GW κ nL n1 n2 (wX q d I A) (pc + 1) lv (.int 4 :: st)) : GW κ nL n1 n2 (wX q d I A) pc lv (.ref (q 32) :: st) := g_alen hk 32 18 rfl rfl rfl hd kk
theorem gX_r33_0 (hk : GC κ l0 D0 zt cc nL own Ts tys rm) {index : Nat} (hin : ∀ w ∈ u_ws RX8 TX8 4, w ∈ Ts) (hl : Cond.fieldLink own index "WarpDesk$Stand" "places" "[I" ∈ Ts) (hd : decode cc pc = .ok (.getfield index, 3)) (kk : GW κ nL n1 n2 (wX q d I A) (pc + 3) lv (.ref (q 34) :: st)) : GW κ nL n1 n2 (wX q d I A) pc lv (.ref (q 33) :: st) := g_get hk hin 33 rfl rfl 0 (by decide) hl rfl rfl hd kk
theorem gX_i26 (hk : GC κ l0 D0 zt cc nL own Ts tys rm) {v : Int32} {index : Nat} (hin : ∀ w ∈ u_ws RX8 TX8 4, w ∈ Ts) (hl : Cond.fieldLink own index "WarpDesk$Stand" "size" "I" ∈ Ts) (hd : decode cc pc = .ok (.getfield index, 3)) (hv : I 26 = v) (kk : GW κ nL n1 n2 (wX q d I A) (pc + 3) lv (.int v :: st)) : GW κ nL n1 n2 (wX q d I A) pc lv (.ref (q 33) :: st) := by
  subst hv
  exact g_get hk hin 33 rfl rfl 1 (by decide) hl rfl rfl hd kk
theorem pX_i26 (hk : GC κ l0 D0 zt cc nL own Ts tys rm) {v : Int32} {index : Nat} (hin : ∀ w ∈ u_ws RX8 TX8 4, w ∈ Ts) (hl : Cond.fieldLink own index "WarpDesk$Stand" "size" "I" ∈ Ts) (hd : decode cc pc = .ok (.putfield index, 3)) (kk : GW κ nL n1 n2 (wX q d (upd I 26 v) A) (pc + 3) lv st) : GW κ nL n1 n2 (wX q d I A) pc lv (.int v :: .ref (q 33) :: st) := g_put (ws' := (wX q d (upd I 26 v) A)) (fs := [.ref (q 34), .int (I 26), .ref (q 35), .int (I 27)]) hk hin tyX8 tyX8_ok nmX8 33 rfl rfl 1 (by decide) hl rfl rfl rfl rfl (Nat.le_of_ble_eq_true rfl) rfl hd kk
theorem gX_r33_2 (hk : GC κ l0 D0 zt cc nL own Ts tys rm) {index : Nat} (hin : ∀ w ∈ u_ws RX8 TX8 4, w ∈ Ts) (hl : Cond.fieldLink own index "WarpDesk$Stand" "settings" "LWarpDesk$Settings;" ∈ Ts) (hd : decode cc pc = .ok (.getfield index, 3)) (kk : GW κ nL n1 n2 (wX q d I A) (pc + 3) lv (.ref (q 35) :: st)) : GW κ nL n1 n2 (wX q d I A) pc lv (.ref (q 33) :: st) := g_get hk hin 33 rfl rfl 2 (by decide) hl rfl rfl hd kk
theorem gX_i27 (hk : GC κ l0 D0 zt cc nL own Ts tys rm) {v : Int32} {index : Nat} (hin : ∀ w ∈ u_ws RX8 TX8 4, w ∈ Ts) (hl : Cond.fieldLink own index "WarpDesk$Stand" "held" "Z" ∈ Ts) (hd : decode cc pc = .ok (.getfield index, 3)) (hv : I 27 = v) (kk : GW κ nL n1 n2 (wX q d I A) (pc + 3) lv (.int v :: st)) : GW κ nL n1 n2 (wX q d I A) pc lv (.ref (q 33) :: st) := by
  subst hv
  exact g_get hk hin 33 rfl rfl 3 (by decide) hl rfl rfl hd kk
theorem pX_i27 (hk : GC κ l0 D0 zt cc nL own Ts tys rm) {v : Int32} {index : Nat} (hin : ∀ w ∈ u_ws RX8 TX8 4, w ∈ Ts) (hl : Cond.fieldLink own index "WarpDesk$Stand" "held" "Z" ∈ Ts) (hb : narrow .boolean (.int v) = .int v ∧ fits .boolean (.int v) = true) (hd : decode cc pc = .ok (.putfield index, 3)) (kk : GW κ nL n1 n2 (wX q d (upd I 27 v) A) (pc + 3) lv st) : GW κ nL n1 n2 (wX q d I A) pc lv (.int v :: .ref (q 33) :: st) := g_put (ws' := (wX q d (upd I 27 v) A)) (fs := [.ref (q 34), .int (I 26), .ref (q 35), .int (I 27)]) hk hin tyX8 tyX8_ok nmX8 33 rfl rfl 3 (by decide) hl rfl rfl hb.1 hb.2 (Nat.le_of_ble_eq_true rfl) rfl hd kk
theorem lX_19 (hk : GC κ l0 D0 zt cc nL own Ts (tyX d) rm) {i v : Int32} (hin : vp_in i 160) (hv : A 19 i.toNatClampNeg = v) (hd : decode cc pc = .ok (.iaload, 1)) (kk : GW κ nL n1 n2 (wX q d I A) (pc + 1) lv (.int v :: st)) : GW κ nL n1 n2 (wX q d I A) pc lv (.int i :: .ref (q 34) :: st) := g_iald hk 34 19 rfl rfl hin hv hd kk
theorem sX_19 (hk : GC κ l0 D0 zt cc nL own Ts (tyX d) rm) {i x : Int32} {j : Nat} (hin : vp_in i 160) (hj : i.toNatClampNeg = j) (hd : decode cc pc = .ok (.iastore, 1)) (kk : GW κ nL n1 n2 (wX q d I (up3 A 19 j x)) (pc + 1) lv st) : GW κ nL n1 n2 (wX q d I A) pc lv (.int x :: .int i :: .ref (q 34) :: st) := g_iast hk 34 19 rfl rfl hin hj rfl hd kk
theorem nX_19 (hk : GC κ l0 D0 zt cc nL own Ts (tyX d) rm) (hd : decode cc pc = .ok (.arraylength, 1)) (kk : GW κ nL n1 n2 (wX q d I A) (pc + 1) lv (.int 160 :: st)) : GW κ nL n1 n2 (wX q d I A) pc lv (.ref (q 34) :: st) := g_alen hk 34 19 rfl rfl rfl hd kk
theorem gX_r35_0 (hk : GC κ l0 D0 zt cc nL own Ts tys rm) {index : Nat} (hin : ∀ w ∈ u_ws RX7 TX7 1, w ∈ Ts) (hl : Cond.fieldLink own index "WarpDesk$Settings" "values" "[I" ∈ Ts) (hd : decode cc pc = .ok (.getfield index, 3)) (kk : GW κ nL n1 n2 (wX q d I A) (pc + 3) lv (.ref (q 36) :: st)) : GW κ nL n1 n2 (wX q d I A) pc lv (.ref (q 35) :: st) := g_get hk hin 35 rfl rfl 0 (by decide) hl rfl rfl hd kk
theorem lX_20 (hk : GC κ l0 D0 zt cc nL own Ts (tyX d) rm) {i v : Int32} (hin : vp_in i 4) (hv : A 20 i.toNatClampNeg = v) (hd : decode cc pc = .ok (.iaload, 1)) (kk : GW κ nL n1 n2 (wX q d I A) (pc + 1) lv (.int v :: st)) : GW κ nL n1 n2 (wX q d I A) pc lv (.int i :: .ref (q 36) :: st) := g_iald hk 36 20 rfl rfl hin hv hd kk
theorem sX_20 (hk : GC κ l0 D0 zt cc nL own Ts (tyX d) rm) {i x : Int32} {j : Nat} (hin : vp_in i 4) (hj : i.toNatClampNeg = j) (hd : decode cc pc = .ok (.iastore, 1)) (kk : GW κ nL n1 n2 (wX q d I (up3 A 20 j x)) (pc + 1) lv st) : GW κ nL n1 n2 (wX q d I A) pc lv (.int x :: .int i :: .ref (q 36) :: st) := g_iast hk 36 20 rfl rfl hin hj rfl hd kk
theorem nX_20 (hk : GC κ l0 D0 zt cc nL own Ts (tyX d) rm) (hd : decode cc pc = .ok (.arraylength, 1)) (kk : GW κ nL n1 n2 (wX q d I A) (pc + 1) lv (.int 4 :: st)) : GW κ nL n1 n2 (wX q d I A) pc lv (.ref (q 36) :: st) := g_alen hk 36 20 rfl rfl rfl hd kk
theorem gX_r37_0 (hk : GC κ l0 D0 zt cc nL own Ts tys rm) {index : Nat} (hin : ∀ w ∈ u_ws RX0 TX0 5, w ∈ Ts) (hl : Cond.fieldLink own index "WarpDesk$Bench" "series" "LWarpDesk$Series;" ∈ Ts) (hd : decode cc pc = .ok (.getfield index, 3)) (kk : GW κ nL n1 n2 (wX q d I A) (pc + 3) lv (.ref (q 13) :: st)) : GW κ nL n1 n2 (wX q d I A) pc lv (.ref (q 37) :: st) := g_get hk hin 37 rfl rfl 0 (by decide) hl rfl rfl hd kk
theorem gX_r37_1 (hk : GC κ l0 D0 zt cc nL own Ts tys rm) {index : Nat} (hin : ∀ w ∈ u_ws RX0 TX0 5, w ∈ Ts) (hl : Cond.fieldLink own index "WarpDesk$Bench" "queries" "LWarpDesk$Queries;" ∈ Ts) (hd : decode cc pc = .ok (.getfield index, 3)) (kk : GW κ nL n1 n2 (wX q d I A) (pc + 3) lv (.ref (q 15) :: st)) : GW κ nL n1 n2 (wX q d I A) pc lv (.ref (q 37) :: st) := g_get hk hin 37 rfl rfl 1 (by decide) hl rfl rfl hd kk
theorem gX_r37_2 (hk : GC κ l0 D0 zt cc nL own Ts tys rm) {index : Nat} (hin : ∀ w ∈ u_ws RX0 TX0 5, w ∈ Ts) (hl : Cond.fieldLink own index "WarpDesk$Bench" "settings" "LWarpDesk$Settings;" ∈ Ts) (hd : decode cc pc = .ok (.getfield index, 3)) (kk : GW κ nL n1 n2 (wX q d I A) (pc + 3) lv (.ref (q 18) :: st)) : GW κ nL n1 n2 (wX q d I A) pc lv (.ref (q 37) :: st) := g_get hk hin 37 rfl rfl 2 (by decide) hl rfl rfl hd kk
theorem gX_r37_3 (hk : GC κ l0 D0 zt cc nL own Ts tys rm) {index : Nat} (hin : ∀ w ∈ u_ws RX0 TX0 5, w ∈ Ts) (hl : Cond.fieldLink own index "WarpDesk$Bench" "fit" "LWarpDesk$Fit;" ∈ Ts) (hd : decode cc pc = .ok (.getfield index, 3)) (kk : GW κ nL n1 n2 (wX q d I A) (pc + 3) lv (.ref (q 38) :: st)) : GW κ nL n1 n2 (wX q d I A) pc lv (.ref (q 37) :: st) := g_get hk hin 37 rfl rfl 3 (by decide) hl rfl rfl hd kk
theorem gX_i28 (hk : GC κ l0 D0 zt cc nL own Ts tys rm) {v : Int32} {index : Nat} (hin : ∀ w ∈ u_ws RX0 TX0 5, w ∈ Ts) (hl : Cond.fieldLink own index "WarpDesk$Bench" "length" "I" ∈ Ts) (hd : decode cc pc = .ok (.getfield index, 3)) (hv : I 28 = v) (kk : GW κ nL n1 n2 (wX q d I A) (pc + 3) lv (.int v :: st)) : GW κ nL n1 n2 (wX q d I A) pc lv (.ref (q 37) :: st) := by
  subst hv
  exact g_get hk hin 37 rfl rfl 4 (by decide) hl rfl rfl hd kk
theorem pX_i28 (hk : GC κ l0 D0 zt cc nL own Ts tys rm) {v : Int32} {index : Nat} (hin : ∀ w ∈ u_ws RX0 TX0 5, w ∈ Ts) (hl : Cond.fieldLink own index "WarpDesk$Bench" "length" "I" ∈ Ts) (hd : decode cc pc = .ok (.putfield index, 3)) (kk : GW κ nL n1 n2 (wX q d (upd I 28 v) A) (pc + 3) lv st) : GW κ nL n1 n2 (wX q d I A) pc lv (.int v :: .ref (q 37) :: st) := g_put (ws' := (wX q d (upd I 28 v) A)) (fs := [.ref (q 13), .ref (q 15), .ref (q 18), .ref (q 38), .int (I 28)]) hk hin tyX0 tyX0_ok nmX0 37 rfl rfl 4 (by decide) hl rfl rfl rfl rfl (Nat.le_of_ble_eq_true rfl) rfl hd kk
theorem gX_r38_0 (hk : GC κ l0 D0 zt cc nL own Ts tys rm) {index : Nat} (hin : ∀ w ∈ u_ws RX2 TX2 10, w ∈ Ts) (hl : Cond.fieldLink own index "WarpDesk$Fit" "left" "[I" ∈ Ts) (hd : decode cc pc = .ok (.getfield index, 3)) (kk : GW κ nL n1 n2 (wX q d I A) (pc + 3) lv (.ref (q 39) :: st)) : GW κ nL n1 n2 (wX q d I A) pc lv (.ref (q 38) :: st) := g_get hk hin 38 rfl rfl 0 (by decide) hl rfl rfl hd kk
theorem gX_r38_1 (hk : GC κ l0 D0 zt cc nL own Ts tys rm) {index : Nat} (hin : ∀ w ∈ u_ws RX2 TX2 10, w ∈ Ts) (hl : Cond.fieldLink own index "WarpDesk$Fit" "right" "[I" ∈ Ts) (hd : decode cc pc = .ok (.getfield index, 3)) (kk : GW κ nL n1 n2 (wX q d I A) (pc + 3) lv (.ref (q 40) :: st)) : GW κ nL n1 n2 (wX q d I A) pc lv (.ref (q 38) :: st) := g_get hk hin 38 rfl rfl 1 (by decide) hl rfl rfl hd kk
theorem gX_r38_2 (hk : GC κ l0 D0 zt cc nL own Ts tys rm) {index : Nat} (hin : ∀ w ∈ u_ws RX2 TX2 10, w ∈ Ts) (hl : Cond.fieldLink own index "WarpDesk$Fit" "table" "[I" ∈ Ts) (hd : decode cc pc = .ok (.getfield index, 3)) (kk : GW κ nL n1 n2 (wX q d I A) (pc + 3) lv (.ref (q 41) :: st)) : GW κ nL n1 n2 (wX q d I A) pc lv (.ref (q 38) :: st) := g_get hk hin 38 rfl rfl 2 (by decide) hl rfl rfl hd kk
theorem gX_r38_3 (hk : GC κ l0 D0 zt cc nL own Ts tys rm) {index : Nat} (hin : ∀ w ∈ u_ws RX2 TX2 10, w ∈ Ts) (hl : Cond.fieldLink own index "WarpDesk$Fit" "steps" "[I" ∈ Ts) (hd : decode cc pc = .ok (.getfield index, 3)) (kk : GW κ nL n1 n2 (wX q d I A) (pc + 3) lv (.ref (q 42) :: st)) : GW κ nL n1 n2 (wX q d I A) pc lv (.ref (q 38) :: st) := g_get hk hin 38 rfl rfl 3 (by decide) hl rfl rfl hd kk
theorem gX_i29 (hk : GC κ l0 D0 zt cc nL own Ts tys rm) {v : Int32} {index : Nat} (hin : ∀ w ∈ u_ws RX2 TX2 10, w ∈ Ts) (hl : Cond.fieldLink own index "WarpDesk$Fit" "wayLength" "I" ∈ Ts) (hd : decode cc pc = .ok (.getfield index, 3)) (hv : I 29 = v) (kk : GW κ nL n1 n2 (wX q d I A) (pc + 3) lv (.int v :: st)) : GW κ nL n1 n2 (wX q d I A) pc lv (.ref (q 38) :: st) := by
  subst hv
  exact g_get hk hin 38 rfl rfl 4 (by decide) hl rfl rfl hd kk
theorem pX_i29 (hk : GC κ l0 D0 zt cc nL own Ts tys rm) {v : Int32} {index : Nat} (hin : ∀ w ∈ u_ws RX2 TX2 10, w ∈ Ts) (hl : Cond.fieldLink own index "WarpDesk$Fit" "wayLength" "I" ∈ Ts) (hd : decode cc pc = .ok (.putfield index, 3)) (kk : GW κ nL n1 n2 (wX q d (upd I 29 v) A) (pc + 3) lv st) : GW κ nL n1 n2 (wX q d I A) pc lv (.int v :: .ref (q 38) :: st) := g_put (ws' := (wX q d (upd I 29 v) A)) (fs := [.ref (q 39), .ref (q 40), .ref (q 41), .ref (q 42), .int (I 29), .int (I 30), .int (I 31), .int (I 32), .int (I 33), .int (I 34)]) hk hin tyX2 tyX2_ok nmX2 38 rfl rfl 4 (by decide) hl rfl rfl rfl rfl (Nat.le_of_ble_eq_true rfl) rfl hd kk
theorem gX_i30 (hk : GC κ l0 D0 zt cc nL own Ts tys rm) {v : Int32} {index : Nat} (hin : ∀ w ∈ u_ws RX2 TX2 10, w ∈ Ts) (hl : Cond.fieldLink own index "WarpDesk$Fit" "length" "I" ∈ Ts) (hd : decode cc pc = .ok (.getfield index, 3)) (hv : I 30 = v) (kk : GW κ nL n1 n2 (wX q d I A) (pc + 3) lv (.int v :: st)) : GW κ nL n1 n2 (wX q d I A) pc lv (.ref (q 38) :: st) := by
  subst hv
  exact g_get hk hin 38 rfl rfl 5 (by decide) hl rfl rfl hd kk
theorem pX_i30 (hk : GC κ l0 D0 zt cc nL own Ts tys rm) {v : Int32} {index : Nat} (hin : ∀ w ∈ u_ws RX2 TX2 10, w ∈ Ts) (hl : Cond.fieldLink own index "WarpDesk$Fit" "length" "I" ∈ Ts) (hd : decode cc pc = .ok (.putfield index, 3)) (kk : GW κ nL n1 n2 (wX q d (upd I 30 v) A) (pc + 3) lv st) : GW κ nL n1 n2 (wX q d I A) pc lv (.int v :: .ref (q 38) :: st) := g_put (ws' := (wX q d (upd I 30 v) A)) (fs := [.ref (q 39), .ref (q 40), .ref (q 41), .ref (q 42), .int (I 29), .int (I 30), .int (I 31), .int (I 32), .int (I 33), .int (I 34)]) hk hin tyX2 tyX2_ok nmX2 38 rfl rfl 5 (by decide) hl rfl rfl rfl rfl (Nat.le_of_ble_eq_true rfl) rfl hd kk
theorem gX_i31 (hk : GC κ l0 D0 zt cc nL own Ts tys rm) {v : Int32} {index : Nat} (hin : ∀ w ∈ u_ws RX2 TX2 10, w ∈ Ts) (hl : Cond.fieldLink own index "WarpDesk$Fit" "band" "I" ∈ Ts) (hd : decode cc pc = .ok (.getfield index, 3)) (hv : I 31 = v) (kk : GW κ nL n1 n2 (wX q d I A) (pc + 3) lv (.int v :: st)) : GW κ nL n1 n2 (wX q d I A) pc lv (.ref (q 38) :: st) := by
  subst hv
  exact g_get hk hin 38 rfl rfl 6 (by decide) hl rfl rfl hd kk
theorem pX_i31 (hk : GC κ l0 D0 zt cc nL own Ts tys rm) {v : Int32} {index : Nat} (hin : ∀ w ∈ u_ws RX2 TX2 10, w ∈ Ts) (hl : Cond.fieldLink own index "WarpDesk$Fit" "band" "I" ∈ Ts) (hd : decode cc pc = .ok (.putfield index, 3)) (kk : GW κ nL n1 n2 (wX q d (upd I 31 v) A) (pc + 3) lv st) : GW κ nL n1 n2 (wX q d I A) pc lv (.int v :: .ref (q 38) :: st) := g_put (ws' := (wX q d (upd I 31 v) A)) (fs := [.ref (q 39), .ref (q 40), .ref (q 41), .ref (q 42), .int (I 29), .int (I 30), .int (I 31), .int (I 32), .int (I 33), .int (I 34)]) hk hin tyX2 tyX2_ok nmX2 38 rfl rfl 6 (by decide) hl rfl rfl rfl rfl (Nat.le_of_ble_eq_true rfl) rfl hd kk
theorem gX_i32 (hk : GC κ l0 D0 zt cc nL own Ts tys rm) {v : Int32} {index : Nat} (hin : ∀ w ∈ u_ws RX2 TX2 10, w ∈ Ts) (hl : Cond.fieldLink own index "WarpDesk$Fit" "isSquare" "Z" ∈ Ts) (hd : decode cc pc = .ok (.getfield index, 3)) (hv : I 32 = v) (kk : GW κ nL n1 n2 (wX q d I A) (pc + 3) lv (.int v :: st)) : GW κ nL n1 n2 (wX q d I A) pc lv (.ref (q 38) :: st) := by
  subst hv
  exact g_get hk hin 38 rfl rfl 7 (by decide) hl rfl rfl hd kk
theorem pX_i32 (hk : GC κ l0 D0 zt cc nL own Ts tys rm) {v : Int32} {index : Nat} (hin : ∀ w ∈ u_ws RX2 TX2 10, w ∈ Ts) (hl : Cond.fieldLink own index "WarpDesk$Fit" "isSquare" "Z" ∈ Ts) (hb : narrow .boolean (.int v) = .int v ∧ fits .boolean (.int v) = true) (hd : decode cc pc = .ok (.putfield index, 3)) (kk : GW κ nL n1 n2 (wX q d (upd I 32 v) A) (pc + 3) lv st) : GW κ nL n1 n2 (wX q d I A) pc lv (.int v :: .ref (q 38) :: st) := g_put (ws' := (wX q d (upd I 32 v) A)) (fs := [.ref (q 39), .ref (q 40), .ref (q 41), .ref (q 42), .int (I 29), .int (I 30), .int (I 31), .int (I 32), .int (I 33), .int (I 34)]) hk hin tyX2 tyX2_ok nmX2 38 rfl rfl 7 (by decide) hl rfl rfl hb.1 hb.2 (Nat.le_of_ble_eq_true rfl) rfl hd kk
theorem gX_i33 (hk : GC κ l0 D0 zt cc nL own Ts tys rm) {v : Int32} {index : Nat} (hin : ∀ w ∈ u_ws RX2 TX2 10, w ∈ Ts) (hl : Cond.fieldLink own index "WarpDesk$Fit" "cells" "I" ∈ Ts) (hd : decode cc pc = .ok (.getfield index, 3)) (hv : I 33 = v) (kk : GW κ nL n1 n2 (wX q d I A) (pc + 3) lv (.int v :: st)) : GW κ nL n1 n2 (wX q d I A) pc lv (.ref (q 38) :: st) := by
  subst hv
  exact g_get hk hin 38 rfl rfl 8 (by decide) hl rfl rfl hd kk
theorem pX_i33 (hk : GC κ l0 D0 zt cc nL own Ts tys rm) {v : Int32} {index : Nat} (hin : ∀ w ∈ u_ws RX2 TX2 10, w ∈ Ts) (hl : Cond.fieldLink own index "WarpDesk$Fit" "cells" "I" ∈ Ts) (hd : decode cc pc = .ok (.putfield index, 3)) (kk : GW κ nL n1 n2 (wX q d (upd I 33 v) A) (pc + 3) lv st) : GW κ nL n1 n2 (wX q d I A) pc lv (.int v :: .ref (q 38) :: st) := g_put (ws' := (wX q d (upd I 33 v) A)) (fs := [.ref (q 39), .ref (q 40), .ref (q 41), .ref (q 42), .int (I 29), .int (I 30), .int (I 31), .int (I 32), .int (I 33), .int (I 34)]) hk hin tyX2 tyX2_ok nmX2 38 rfl rfl 8 (by decide) hl rfl rfl rfl rfl (Nat.le_of_ble_eq_true rfl) rfl hd kk
theorem gX_i34 (hk : GC κ l0 D0 zt cc nL own Ts tys rm) {v : Int32} {index : Nat} (hin : ∀ w ∈ u_ws RX2 TX2 10, w ∈ Ts) (hl : Cond.fieldLink own index "WarpDesk$Fit" "brokenRow" "I" ∈ Ts) (hd : decode cc pc = .ok (.getfield index, 3)) (hv : I 34 = v) (kk : GW κ nL n1 n2 (wX q d I A) (pc + 3) lv (.int v :: st)) : GW κ nL n1 n2 (wX q d I A) pc lv (.ref (q 38) :: st) := by
  subst hv
  exact g_get hk hin 38 rfl rfl 9 (by decide) hl rfl rfl hd kk
theorem pX_i34 (hk : GC κ l0 D0 zt cc nL own Ts tys rm) {v : Int32} {index : Nat} (hin : ∀ w ∈ u_ws RX2 TX2 10, w ∈ Ts) (hl : Cond.fieldLink own index "WarpDesk$Fit" "brokenRow" "I" ∈ Ts) (hd : decode cc pc = .ok (.putfield index, 3)) (kk : GW κ nL n1 n2 (wX q d (upd I 34 v) A) (pc + 3) lv st) : GW κ nL n1 n2 (wX q d I A) pc lv (.int v :: .ref (q 38) :: st) := g_put (ws' := (wX q d (upd I 34 v) A)) (fs := [.ref (q 39), .ref (q 40), .ref (q 41), .ref (q 42), .int (I 29), .int (I 30), .int (I 31), .int (I 32), .int (I 33), .int (I 34)]) hk hin tyX2 tyX2_ok nmX2 38 rfl rfl 9 (by decide) hl rfl rfl rfl rfl (Nat.le_of_ble_eq_true rfl) rfl hd kk
theorem lX_21 (hk : GC κ l0 D0 zt cc nL own Ts (tyX d) rm) {i v : Int32} (hin : vp_in i 16) (hv : A 21 i.toNatClampNeg = v) (hd : decode cc pc = .ok (.iaload, 1)) (kk : GW κ nL n1 n2 (wX q d I A) (pc + 1) lv (.int v :: st)) : GW κ nL n1 n2 (wX q d I A) pc lv (.int i :: .ref (q 39) :: st) := g_iald hk 39 21 rfl rfl hin hv hd kk
theorem sX_21 (hk : GC κ l0 D0 zt cc nL own Ts (tyX d) rm) {i x : Int32} {j : Nat} (hin : vp_in i 16) (hj : i.toNatClampNeg = j) (hd : decode cc pc = .ok (.iastore, 1)) (kk : GW κ nL n1 n2 (wX q d I (up3 A 21 j x)) (pc + 1) lv st) : GW κ nL n1 n2 (wX q d I A) pc lv (.int x :: .int i :: .ref (q 39) :: st) := g_iast hk 39 21 rfl rfl hin hj rfl hd kk
theorem nX_21 (hk : GC κ l0 D0 zt cc nL own Ts (tyX d) rm) (hd : decode cc pc = .ok (.arraylength, 1)) (kk : GW κ nL n1 n2 (wX q d I A) (pc + 1) lv (.int 16 :: st)) : GW κ nL n1 n2 (wX q d I A) pc lv (.ref (q 39) :: st) := g_alen hk 39 21 rfl rfl rfl hd kk
theorem lX_22 (hk : GC κ l0 D0 zt cc nL own Ts (tyX d) rm) {i v : Int32} (hin : vp_in i 16) (hv : A 22 i.toNatClampNeg = v) (hd : decode cc pc = .ok (.iaload, 1)) (kk : GW κ nL n1 n2 (wX q d I A) (pc + 1) lv (.int v :: st)) : GW κ nL n1 n2 (wX q d I A) pc lv (.int i :: .ref (q 40) :: st) := g_iald hk 40 22 rfl rfl hin hv hd kk
theorem sX_22 (hk : GC κ l0 D0 zt cc nL own Ts (tyX d) rm) {i x : Int32} {j : Nat} (hin : vp_in i 16) (hj : i.toNatClampNeg = j) (hd : decode cc pc = .ok (.iastore, 1)) (kk : GW κ nL n1 n2 (wX q d I (up3 A 22 j x)) (pc + 1) lv st) : GW κ nL n1 n2 (wX q d I A) pc lv (.int x :: .int i :: .ref (q 40) :: st) := g_iast hk 40 22 rfl rfl hin hj rfl hd kk
theorem nX_22 (hk : GC κ l0 D0 zt cc nL own Ts (tyX d) rm) (hd : decode cc pc = .ok (.arraylength, 1)) (kk : GW κ nL n1 n2 (wX q d I A) (pc + 1) lv (.int 16 :: st)) : GW κ nL n1 n2 (wX q d I A) pc lv (.ref (q 40) :: st) := g_alen hk 40 22 rfl rfl rfl hd kk
theorem lX_23 (hk : GC κ l0 D0 zt cc nL own Ts (tyX d) rm) {i v : Int32} (hin : vp_in i 256) (hv : A 23 i.toNatClampNeg = v) (hd : decode cc pc = .ok (.iaload, 1)) (kk : GW κ nL n1 n2 (wX q d I A) (pc + 1) lv (.int v :: st)) : GW κ nL n1 n2 (wX q d I A) pc lv (.int i :: .ref (q 41) :: st) := g_iald hk 41 23 rfl rfl hin hv hd kk
theorem sX_23 (hk : GC κ l0 D0 zt cc nL own Ts (tyX d) rm) {i x : Int32} {j : Nat} (hin : vp_in i 256) (hj : i.toNatClampNeg = j) (hd : decode cc pc = .ok (.iastore, 1)) (kk : GW κ nL n1 n2 (wX q d I (up3 A 23 j x)) (pc + 1) lv st) : GW κ nL n1 n2 (wX q d I A) pc lv (.int x :: .int i :: .ref (q 41) :: st) := g_iast hk 41 23 rfl rfl hin hj rfl hd kk
theorem nX_23 (hk : GC κ l0 D0 zt cc nL own Ts (tyX d) rm) (hd : decode cc pc = .ok (.arraylength, 1)) (kk : GW κ nL n1 n2 (wX q d I A) (pc + 1) lv (.int 256 :: st)) : GW κ nL n1 n2 (wX q d I A) pc lv (.ref (q 41) :: st) := g_alen hk 41 23 rfl rfl rfl hd kk
theorem lX_24 (hk : GC κ l0 D0 zt cc nL own Ts (tyX d) rm) {i v : Int32} (hin : vp_in i 32) (hv : A 24 i.toNatClampNeg = v) (hd : decode cc pc = .ok (.iaload, 1)) (kk : GW κ nL n1 n2 (wX q d I A) (pc + 1) lv (.int v :: st)) : GW κ nL n1 n2 (wX q d I A) pc lv (.int i :: .ref (q 42) :: st) := g_iald hk 42 24 rfl rfl hin hv hd kk
theorem sX_24 (hk : GC κ l0 D0 zt cc nL own Ts (tyX d) rm) {i x : Int32} {j : Nat} (hin : vp_in i 32) (hj : i.toNatClampNeg = j) (hd : decode cc pc = .ok (.iastore, 1)) (kk : GW κ nL n1 n2 (wX q d I (up3 A 24 j x)) (pc + 1) lv st) : GW κ nL n1 n2 (wX q d I A) pc lv (.int x :: .int i :: .ref (q 42) :: st) := g_iast hk 42 24 rfl rfl hin hj rfl hd kk
theorem nX_24 (hk : GC κ l0 D0 zt cc nL own Ts (tyX d) rm) (hd : decode cc pc = .ok (.arraylength, 1)) (kk : GW κ nL n1 n2 (wX q d I A) (pc + 1) lv (.int 32 :: st)) : GW κ nL n1 n2 (wX q d I A) pc lv (.ref (q 42) :: st) := g_alen hk 42 24 rfl rfl rfl hd kk
theorem gX_r43_0 (hk : GC κ l0 D0 zt cc nL own Ts tys rm) {index : Nat} (hin : ∀ w ∈ u_ws RX1 TX1 11, w ∈ Ts) (hl : Cond.fieldLink own index "WarpDesk$Finder" "bench" "LWarpDesk$Bench;" ∈ Ts) (hd : decode cc pc = .ok (.getfield index, 3)) (kk : GW κ nL n1 n2 (wX q d I A) (pc + 3) lv (.ref (q 37) :: st)) : GW κ nL n1 n2 (wX q d I A) pc lv (.ref (q 43) :: st) := g_get hk hin 43 rfl rfl 0 (by decide) hl rfl rfl hd kk
theorem gX_r43_1 (hk : GC κ l0 D0 zt cc nL own Ts tys rm) {index : Nat} (hin : ∀ w ∈ u_ws RX1 TX1 11, w ∈ Ts) (hl : Cond.fieldLink own index "WarpDesk$Finder" "series" "LWarpDesk$Series;" ∈ Ts) (hd : decode cc pc = .ok (.getfield index, 3)) (kk : GW κ nL n1 n2 (wX q d I A) (pc + 3) lv (.ref (q 13) :: st)) : GW κ nL n1 n2 (wX q d I A) pc lv (.ref (q 43) :: st) := g_get hk hin 43 rfl rfl 1 (by decide) hl rfl rfl hd kk
theorem gX_r43_2 (hk : GC κ l0 D0 zt cc nL own Ts tys rm) {index : Nat} (hin : ∀ w ∈ u_ws RX1 TX1 11, w ∈ Ts) (hl : Cond.fieldLink own index "WarpDesk$Finder" "queries" "LWarpDesk$Queries;" ∈ Ts) (hd : decode cc pc = .ok (.getfield index, 3)) (kk : GW κ nL n1 n2 (wX q d I A) (pc + 3) lv (.ref (q 15) :: st)) : GW κ nL n1 n2 (wX q d I A) pc lv (.ref (q 43) :: st) := g_get hk hin 43 rfl rfl 2 (by decide) hl rfl rfl hd kk
theorem gX_r43_3 (hk : GC κ l0 D0 zt cc nL own Ts tys rm) {index : Nat} (hin : ∀ w ∈ u_ws RX1 TX1 11, w ∈ Ts) (hl : Cond.fieldLink own index "WarpDesk$Finder" "tally" "[I" ∈ Ts) (hd : decode cc pc = .ok (.getfield index, 3)) (kk : GW κ nL n1 n2 (wX q d I A) (pc + 3) lv (.ref (q 44) :: st)) : GW κ nL n1 n2 (wX q d I A) pc lv (.ref (q 43) :: st) := g_get hk hin 43 rfl rfl 3 (by decide) hl rfl rfl hd kk
theorem gX_i35 (hk : GC κ l0 D0 zt cc nL own Ts tys rm) {v : Int32} {index : Nat} (hin : ∀ w ∈ u_ws RX1 TX1 11, w ∈ Ts) (hl : Cond.fieldLink own index "WarpDesk$Finder" "bestWindow" "I" ∈ Ts) (hd : decode cc pc = .ok (.getfield index, 3)) (hv : I 35 = v) (kk : GW κ nL n1 n2 (wX q d I A) (pc + 3) lv (.int v :: st)) : GW κ nL n1 n2 (wX q d I A) pc lv (.ref (q 43) :: st) := by
  subst hv
  exact g_get hk hin 43 rfl rfl 4 (by decide) hl rfl rfl hd kk
theorem pX_i35 (hk : GC κ l0 D0 zt cc nL own Ts tys rm) {v : Int32} {index : Nat} (hin : ∀ w ∈ u_ws RX1 TX1 11, w ∈ Ts) (hl : Cond.fieldLink own index "WarpDesk$Finder" "bestWindow" "I" ∈ Ts) (hd : decode cc pc = .ok (.putfield index, 3)) (kk : GW κ nL n1 n2 (wX q d (upd I 35 v) A) (pc + 3) lv st) : GW κ nL n1 n2 (wX q d I A) pc lv (.int v :: .ref (q 43) :: st) := g_put (ws' := (wX q d (upd I 35 v) A)) (fs := [.ref (q 37), .ref (q 13), .ref (q 15), .ref (q 44), .int (I 35), .int (I 36), .ref (q 45), .ref (q 46), .ref (q 47), .int (I 37), .ref (q 48)]) hk hin tyX1 tyX1_ok nmX1 43 rfl rfl 4 (by decide) hl rfl rfl rfl rfl (Nat.le_of_ble_eq_true rfl) rfl hd kk
theorem gX_i36 (hk : GC κ l0 D0 zt cc nL own Ts tys rm) {v : Int32} {index : Nat} (hin : ∀ w ∈ u_ws RX1 TX1 11, w ∈ Ts) (hl : Cond.fieldLink own index "WarpDesk$Finder" "bestDistance" "I" ∈ Ts) (hd : decode cc pc = .ok (.getfield index, 3)) (hv : I 36 = v) (kk : GW κ nL n1 n2 (wX q d I A) (pc + 3) lv (.int v :: st)) : GW κ nL n1 n2 (wX q d I A) pc lv (.ref (q 43) :: st) := by
  subst hv
  exact g_get hk hin 43 rfl rfl 5 (by decide) hl rfl rfl hd kk
theorem pX_i36 (hk : GC κ l0 D0 zt cc nL own Ts tys rm) {v : Int32} {index : Nat} (hin : ∀ w ∈ u_ws RX1 TX1 11, w ∈ Ts) (hl : Cond.fieldLink own index "WarpDesk$Finder" "bestDistance" "I" ∈ Ts) (hd : decode cc pc = .ok (.putfield index, 3)) (kk : GW κ nL n1 n2 (wX q d (upd I 36 v) A) (pc + 3) lv st) : GW κ nL n1 n2 (wX q d I A) pc lv (.int v :: .ref (q 43) :: st) := g_put (ws' := (wX q d (upd I 36 v) A)) (fs := [.ref (q 37), .ref (q 13), .ref (q 15), .ref (q 44), .int (I 35), .int (I 36), .ref (q 45), .ref (q 46), .ref (q 47), .int (I 37), .ref (q 48)]) hk hin tyX1 tyX1_ok nmX1 43 rfl rfl 5 (by decide) hl rfl rfl rfl rfl (Nat.le_of_ble_eq_true rfl) rfl hd kk
theorem gX_r43_6 (hk : GC κ l0 D0 zt cc nL own Ts tys rm) {index : Nat} (hin : ∀ w ∈ u_ws RX1 TX1 11, w ∈ Ts) (hl : Cond.fieldLink own index "WarpDesk$Finder" "distances" "[I" ∈ Ts) (hd : decode cc pc = .ok (.getfield index, 3)) (kk : GW κ nL n1 n2 (wX q d I A) (pc + 3) lv (.ref (q 45) :: st)) : GW κ nL n1 n2 (wX q d I A) pc lv (.ref (q 43) :: st) := g_get hk hin 43 rfl rfl 6 (by decide) hl rfl rfl hd kk
theorem gX_r43_7 (hk : GC κ l0 D0 zt cc nL own Ts tys rm) {index : Nat} (hin : ∀ w ∈ u_ws RX1 TX1 11, w ∈ Ts) (hl : Cond.fieldLink own index "WarpDesk$Finder" "matchWindows" "[I" ∈ Ts) (hd : decode cc pc = .ok (.getfield index, 3)) (kk : GW κ nL n1 n2 (wX q d I A) (pc + 3) lv (.ref (q 46) :: st)) : GW κ nL n1 n2 (wX q d I A) pc lv (.ref (q 43) :: st) := g_get hk hin 43 rfl rfl 7 (by decide) hl rfl rfl hd kk
theorem gX_r43_8 (hk : GC κ l0 D0 zt cc nL own Ts tys rm) {index : Nat} (hin : ∀ w ∈ u_ws RX1 TX1 11, w ∈ Ts) (hl : Cond.fieldLink own index "WarpDesk$Finder" "matchDistances" "[I" ∈ Ts) (hd : decode cc pc = .ok (.getfield index, 3)) (kk : GW κ nL n1 n2 (wX q d I A) (pc + 3) lv (.ref (q 47) :: st)) : GW κ nL n1 n2 (wX q d I A) pc lv (.ref (q 43) :: st) := g_get hk hin 43 rfl rfl 8 (by decide) hl rfl rfl hd kk
theorem gX_i37 (hk : GC κ l0 D0 zt cc nL own Ts tys rm) {v : Int32} {index : Nat} (hin : ∀ w ∈ u_ws RX1 TX1 11, w ∈ Ts) (hl : Cond.fieldLink own index "WarpDesk$Finder" "matches" "I" ∈ Ts) (hd : decode cc pc = .ok (.getfield index, 3)) (hv : I 37 = v) (kk : GW κ nL n1 n2 (wX q d I A) (pc + 3) lv (.int v :: st)) : GW κ nL n1 n2 (wX q d I A) pc lv (.ref (q 43) :: st) := by
  subst hv
  exact g_get hk hin 43 rfl rfl 9 (by decide) hl rfl rfl hd kk
theorem pX_i37 (hk : GC κ l0 D0 zt cc nL own Ts tys rm) {v : Int32} {index : Nat} (hin : ∀ w ∈ u_ws RX1 TX1 11, w ∈ Ts) (hl : Cond.fieldLink own index "WarpDesk$Finder" "matches" "I" ∈ Ts) (hd : decode cc pc = .ok (.putfield index, 3)) (kk : GW κ nL n1 n2 (wX q d (upd I 37 v) A) (pc + 3) lv st) : GW κ nL n1 n2 (wX q d I A) pc lv (.int v :: .ref (q 43) :: st) := g_put (ws' := (wX q d (upd I 37 v) A)) (fs := [.ref (q 37), .ref (q 13), .ref (q 15), .ref (q 44), .int (I 35), .int (I 36), .ref (q 45), .ref (q 46), .ref (q 47), .int (I 37), .ref (q 48)]) hk hin tyX1 tyX1_ok nmX1 43 rfl rfl 9 (by decide) hl rfl rfl rfl rfl (Nat.le_of_ble_eq_true rfl) rfl hd kk
theorem gX_r43_10 (hk : GC κ l0 D0 zt cc nL own Ts tys rm) {index : Nat} (hin : ∀ w ∈ u_ws RX1 TX1 11, w ∈ Ts) (hl : Cond.fieldLink own index "WarpDesk$Finder" "covered" "[Z" ∈ Ts) (hd : decode cc pc = .ok (.getfield index, 3)) (kk : GW κ nL n1 n2 (wX q d I A) (pc + 3) lv (.ref (q 48) :: st)) : GW κ nL n1 n2 (wX q d I A) pc lv (.ref (q 43) :: st) := g_get hk hin 43 rfl rfl 10 (by decide) hl rfl rfl hd kk
theorem lX_25 (hk : GC κ l0 D0 zt cc nL own Ts (tyX d) rm) {i v : Int32} (hin : vp_in i 9) (hv : A 25 i.toNatClampNeg = v) (hd : decode cc pc = .ok (.iaload, 1)) (kk : GW κ nL n1 n2 (wX q d I A) (pc + 1) lv (.int v :: st)) : GW κ nL n1 n2 (wX q d I A) pc lv (.int i :: .ref (q 44) :: st) := g_iald hk 44 25 rfl rfl hin hv hd kk
theorem sX_25 (hk : GC κ l0 D0 zt cc nL own Ts (tyX d) rm) {i x : Int32} {j : Nat} (hin : vp_in i 9) (hj : i.toNatClampNeg = j) (hd : decode cc pc = .ok (.iastore, 1)) (kk : GW κ nL n1 n2 (wX q d I (up3 A 25 j x)) (pc + 1) lv st) : GW κ nL n1 n2 (wX q d I A) pc lv (.int x :: .int i :: .ref (q 44) :: st) := g_iast hk 44 25 rfl rfl hin hj rfl hd kk
theorem nX_25 (hk : GC κ l0 D0 zt cc nL own Ts (tyX d) rm) (hd : decode cc pc = .ok (.arraylength, 1)) (kk : GW κ nL n1 n2 (wX q d I A) (pc + 1) lv (.int 9 :: st)) : GW κ nL n1 n2 (wX q d I A) pc lv (.ref (q 44) :: st) := g_alen hk 44 25 rfl rfl rfl hd kk
theorem lX_26 (hk : GC κ l0 D0 zt cc nL own Ts (tyX d) rm) {i v : Int32} (hin : vp_in i 160) (hv : A 26 i.toNatClampNeg = v) (hd : decode cc pc = .ok (.iaload, 1)) (kk : GW κ nL n1 n2 (wX q d I A) (pc + 1) lv (.int v :: st)) : GW κ nL n1 n2 (wX q d I A) pc lv (.int i :: .ref (q 45) :: st) := g_iald hk 45 26 rfl rfl hin hv hd kk
theorem sX_26 (hk : GC κ l0 D0 zt cc nL own Ts (tyX d) rm) {i x : Int32} {j : Nat} (hin : vp_in i 160) (hj : i.toNatClampNeg = j) (hd : decode cc pc = .ok (.iastore, 1)) (kk : GW κ nL n1 n2 (wX q d I (up3 A 26 j x)) (pc + 1) lv st) : GW κ nL n1 n2 (wX q d I A) pc lv (.int x :: .int i :: .ref (q 45) :: st) := g_iast hk 45 26 rfl rfl hin hj rfl hd kk
theorem nX_26 (hk : GC κ l0 D0 zt cc nL own Ts (tyX d) rm) (hd : decode cc pc = .ok (.arraylength, 1)) (kk : GW κ nL n1 n2 (wX q d I A) (pc + 1) lv (.int 160 :: st)) : GW κ nL n1 n2 (wX q d I A) pc lv (.ref (q 45) :: st) := g_alen hk 45 26 rfl rfl rfl hd kk
theorem lX_27 (hk : GC κ l0 D0 zt cc nL own Ts (tyX d) rm) {i v : Int32} (hin : vp_in i 160) (hv : A 27 i.toNatClampNeg = v) (hd : decode cc pc = .ok (.iaload, 1)) (kk : GW κ nL n1 n2 (wX q d I A) (pc + 1) lv (.int v :: st)) : GW κ nL n1 n2 (wX q d I A) pc lv (.int i :: .ref (q 46) :: st) := g_iald hk 46 27 rfl rfl hin hv hd kk
theorem sX_27 (hk : GC κ l0 D0 zt cc nL own Ts (tyX d) rm) {i x : Int32} {j : Nat} (hin : vp_in i 160) (hj : i.toNatClampNeg = j) (hd : decode cc pc = .ok (.iastore, 1)) (kk : GW κ nL n1 n2 (wX q d I (up3 A 27 j x)) (pc + 1) lv st) : GW κ nL n1 n2 (wX q d I A) pc lv (.int x :: .int i :: .ref (q 46) :: st) := g_iast hk 46 27 rfl rfl hin hj rfl hd kk
theorem nX_27 (hk : GC κ l0 D0 zt cc nL own Ts (tyX d) rm) (hd : decode cc pc = .ok (.arraylength, 1)) (kk : GW κ nL n1 n2 (wX q d I A) (pc + 1) lv (.int 160 :: st)) : GW κ nL n1 n2 (wX q d I A) pc lv (.ref (q 46) :: st) := g_alen hk 46 27 rfl rfl rfl hd kk
theorem lX_28 (hk : GC κ l0 D0 zt cc nL own Ts (tyX d) rm) {i v : Int32} (hin : vp_in i 160) (hv : A 28 i.toNatClampNeg = v) (hd : decode cc pc = .ok (.iaload, 1)) (kk : GW κ nL n1 n2 (wX q d I A) (pc + 1) lv (.int v :: st)) : GW κ nL n1 n2 (wX q d I A) pc lv (.int i :: .ref (q 47) :: st) := g_iald hk 47 28 rfl rfl hin hv hd kk
theorem sX_28 (hk : GC κ l0 D0 zt cc nL own Ts (tyX d) rm) {i x : Int32} {j : Nat} (hin : vp_in i 160) (hj : i.toNatClampNeg = j) (hd : decode cc pc = .ok (.iastore, 1)) (kk : GW κ nL n1 n2 (wX q d I (up3 A 28 j x)) (pc + 1) lv st) : GW κ nL n1 n2 (wX q d I A) pc lv (.int x :: .int i :: .ref (q 47) :: st) := g_iast hk 47 28 rfl rfl hin hj rfl hd kk
theorem nX_28 (hk : GC κ l0 D0 zt cc nL own Ts (tyX d) rm) (hd : decode cc pc = .ok (.arraylength, 1)) (kk : GW κ nL n1 n2 (wX q d I A) (pc + 1) lv (.int 160 :: st)) : GW κ nL n1 n2 (wX q d I A) pc lv (.ref (q 47) :: st) := g_alen hk 47 28 rfl rfl rfl hd kk
theorem lX_29 (hk : GC κ l0 D0 zt cc nL own Ts (tyX d) rm) {i v : Int32} (hin : vp_in i 160) (hv : A 29 i.toNatClampNeg = v) (hd : decode cc pc = .ok (.baload, 1)) (kk : GW κ nL n1 n2 (wX q d I A) (pc + 1) lv (.int v :: st)) : GW κ nL n1 n2 (wX q d I A) pc lv (.int i :: .ref (q 48) :: st) := g_zald hk 48 29 rfl rfl hin hv hd kk
theorem sX_29 (hk : GC κ l0 D0 zt cc nL own Ts (tyX d) rm) {i x y : Int32} {j : Nat} (hin : vp_in i 160) (hj : i.toNatClampNeg = j) (hx : vp_nar .boolean x = y) (hd : decode cc pc = .ok (.bastore, 1)) (kk : GW κ nL n1 n2 (wX q d I (up3 A 29 j y)) (pc + 1) lv st) : GW κ nL n1 n2 (wX q d I A) pc lv (.int x :: .int i :: .ref (q 48) :: st) := g_zast hk 48 29 rfl rfl hin hj hx rfl hd kk
theorem nX_29 (hk : GC κ l0 D0 zt cc nL own Ts (tyX d) rm) (hd : decode cc pc = .ok (.arraylength, 1)) (kk : GW κ nL n1 n2 (wX q d I A) (pc + 1) lv (.int 160 :: st)) : GW κ nL n1 n2 (wX q d I A) pc lv (.ref (q 48) :: st) := g_alen hk 48 29 rfl rfl rfl hd kk
theorem gX_r49_0 (hk : GC κ l0 D0 zt cc nL own Ts tys rm) {index : Nat} (hin : ∀ w ∈ u_ws RX9 TX9 11, w ∈ Ts) (hl : Cond.fieldLink own index "WarpDesk$Stretches" "bench" "LWarpDesk$Bench;" ∈ Ts) (hd : decode cc pc = .ok (.getfield index, 3)) (kk : GW κ nL n1 n2 (wX q d I A) (pc + 3) lv (.ref (q 37) :: st)) : GW κ nL n1 n2 (wX q d I A) pc lv (.ref (q 49) :: st) := g_get hk hin 49 rfl rfl 0 (by decide) hl rfl rfl hd kk
theorem gX_r49_1 (hk : GC κ l0 D0 zt cc nL own Ts tys rm) {index : Nat} (hin : ∀ w ∈ u_ws RX9 TX9 11, w ∈ Ts) (hl : Cond.fieldLink own index "WarpDesk$Stretches" "fit" "LWarpDesk$Fit;" ∈ Ts) (hd : decode cc pc = .ok (.getfield index, 3)) (kk : GW κ nL n1 n2 (wX q d I A) (pc + 3) lv (.ref (q 38) :: st)) : GW κ nL n1 n2 (wX q d I A) pc lv (.ref (q 49) :: st) := g_get hk hin 49 rfl rfl 1 (by decide) hl rfl rfl hd kk
theorem gX_r49_2 (hk : GC κ l0 D0 zt cc nL own Ts tys rm) {index : Nat} (hin : ∀ w ∈ u_ws RX9 TX9 11, w ∈ Ts) (hl : Cond.fieldLink own index "WarpDesk$Stretches" "rows" "[I" ∈ Ts) (hd : decode cc pc = .ok (.getfield index, 3)) (kk : GW κ nL n1 n2 (wX q d I A) (pc + 3) lv (.ref (q 50) :: st)) : GW κ nL n1 n2 (wX q d I A) pc lv (.ref (q 49) :: st) := g_get hk hin 49 rfl rfl 2 (by decide) hl rfl rfl hd kk
theorem gX_r49_3 (hk : GC κ l0 D0 zt cc nL own Ts tys rm) {index : Nat} (hin : ∀ w ∈ u_ws RX9 TX9 11, w ∈ Ts) (hl : Cond.fieldLink own index "WarpDesk$Stretches" "isThere" "[Z" ∈ Ts) (hd : decode cc pc = .ok (.getfield index, 3)) (kk : GW κ nL n1 n2 (wX q d I A) (pc + 3) lv (.ref (q 51) :: st)) : GW κ nL n1 n2 (wX q d I A) pc lv (.ref (q 49) :: st) := g_get hk hin 49 rfl rfl 3 (by decide) hl rfl rfl hd kk
theorem gX_i38 (hk : GC κ l0 D0 zt cc nL own Ts tys rm) {v : Int32} {index : Nat} (hin : ∀ w ∈ u_ws RX9 TX9 11, w ∈ Ts) (hl : Cond.fieldLink own index "WarpDesk$Stretches" "nearest" "I" ∈ Ts) (hd : decode cc pc = .ok (.getfield index, 3)) (hv : I 38 = v) (kk : GW κ nL n1 n2 (wX q d I A) (pc + 3) lv (.int v :: st)) : GW κ nL n1 n2 (wX q d I A) pc lv (.ref (q 49) :: st) := by
  subst hv
  exact g_get hk hin 49 rfl rfl 4 (by decide) hl rfl rfl hd kk
theorem pX_i38 (hk : GC κ l0 D0 zt cc nL own Ts tys rm) {v : Int32} {index : Nat} (hin : ∀ w ∈ u_ws RX9 TX9 11, w ∈ Ts) (hl : Cond.fieldLink own index "WarpDesk$Stretches" "nearest" "I" ∈ Ts) (hd : decode cc pc = .ok (.putfield index, 3)) (kk : GW κ nL n1 n2 (wX q d (upd I 38 v) A) (pc + 3) lv st) : GW κ nL n1 n2 (wX q d I A) pc lv (.int v :: .ref (q 49) :: st) := g_put (ws' := (wX q d (upd I 38 v) A)) (fs := [.ref (q 37), .ref (q 38), .ref (q 50), .ref (q 51), .int (I 38), .int (I 39), .int (I 40), .int (I 41), .int (I 42), .int (I 43), .int (I 44)]) hk hin tyX9 tyX9_ok nmX9 49 rfl rfl 4 (by decide) hl rfl rfl rfl rfl (Nat.le_of_ble_eq_true rfl) rfl hd kk
theorem gX_i39 (hk : GC κ l0 D0 zt cc nL own Ts tys rm) {v : Int32} {index : Nat} (hin : ∀ w ∈ u_ws RX9 TX9 11, w ∈ Ts) (hl : Cond.fieldLink own index "WarpDesk$Stretches" "nearestDistance" "I" ∈ Ts) (hd : decode cc pc = .ok (.getfield index, 3)) (hv : I 39 = v) (kk : GW κ nL n1 n2 (wX q d I A) (pc + 3) lv (.int v :: st)) : GW κ nL n1 n2 (wX q d I A) pc lv (.ref (q 49) :: st) := by
  subst hv
  exact g_get hk hin 49 rfl rfl 5 (by decide) hl rfl rfl hd kk
theorem pX_i39 (hk : GC κ l0 D0 zt cc nL own Ts tys rm) {v : Int32} {index : Nat} (hin : ∀ w ∈ u_ws RX9 TX9 11, w ∈ Ts) (hl : Cond.fieldLink own index "WarpDesk$Stretches" "nearestDistance" "I" ∈ Ts) (hd : decode cc pc = .ok (.putfield index, 3)) (kk : GW κ nL n1 n2 (wX q d (upd I 39 v) A) (pc + 3) lv st) : GW κ nL n1 n2 (wX q d I A) pc lv (.int v :: .ref (q 49) :: st) := g_put (ws' := (wX q d (upd I 39 v) A)) (fs := [.ref (q 37), .ref (q 38), .ref (q 50), .ref (q 51), .int (I 38), .int (I 39), .int (I 40), .int (I 41), .int (I 42), .int (I 43), .int (I 44)]) hk hin tyX9 tyX9_ok nmX9 49 rfl rfl 5 (by decide) hl rfl rfl rfl rfl (Nat.le_of_ble_eq_true rfl) rfl hd kk
theorem gX_i40 (hk : GC κ l0 D0 zt cc nL own Ts tys rm) {v : Int32} {index : Nat} (hin : ∀ w ∈ u_ws RX9 TX9 11, w ∈ Ts) (hl : Cond.fieldLink own index "WarpDesk$Stretches" "pairLesser" "I" ∈ Ts) (hd : decode cc pc = .ok (.getfield index, 3)) (hv : I 40 = v) (kk : GW κ nL n1 n2 (wX q d I A) (pc + 3) lv (.int v :: st)) : GW κ nL n1 n2 (wX q d I A) pc lv (.ref (q 49) :: st) := by
  subst hv
  exact g_get hk hin 49 rfl rfl 6 (by decide) hl rfl rfl hd kk
theorem pX_i40 (hk : GC κ l0 D0 zt cc nL own Ts tys rm) {v : Int32} {index : Nat} (hin : ∀ w ∈ u_ws RX9 TX9 11, w ∈ Ts) (hl : Cond.fieldLink own index "WarpDesk$Stretches" "pairLesser" "I" ∈ Ts) (hd : decode cc pc = .ok (.putfield index, 3)) (kk : GW κ nL n1 n2 (wX q d (upd I 40 v) A) (pc + 3) lv st) : GW κ nL n1 n2 (wX q d I A) pc lv (.int v :: .ref (q 49) :: st) := g_put (ws' := (wX q d (upd I 40 v) A)) (fs := [.ref (q 37), .ref (q 38), .ref (q 50), .ref (q 51), .int (I 38), .int (I 39), .int (I 40), .int (I 41), .int (I 42), .int (I 43), .int (I 44)]) hk hin tyX9 tyX9_ok nmX9 49 rfl rfl 6 (by decide) hl rfl rfl rfl rfl (Nat.le_of_ble_eq_true rfl) rfl hd kk
theorem gX_i41 (hk : GC κ l0 D0 zt cc nL own Ts tys rm) {v : Int32} {index : Nat} (hin : ∀ w ∈ u_ws RX9 TX9 11, w ∈ Ts) (hl : Cond.fieldLink own index "WarpDesk$Stretches" "pairGreater" "I" ∈ Ts) (hd : decode cc pc = .ok (.getfield index, 3)) (hv : I 41 = v) (kk : GW κ nL n1 n2 (wX q d I A) (pc + 3) lv (.int v :: st)) : GW κ nL n1 n2 (wX q d I A) pc lv (.ref (q 49) :: st) := by
  subst hv
  exact g_get hk hin 49 rfl rfl 7 (by decide) hl rfl rfl hd kk
theorem pX_i41 (hk : GC κ l0 D0 zt cc nL own Ts tys rm) {v : Int32} {index : Nat} (hin : ∀ w ∈ u_ws RX9 TX9 11, w ∈ Ts) (hl : Cond.fieldLink own index "WarpDesk$Stretches" "pairGreater" "I" ∈ Ts) (hd : decode cc pc = .ok (.putfield index, 3)) (kk : GW κ nL n1 n2 (wX q d (upd I 41 v) A) (pc + 3) lv st) : GW κ nL n1 n2 (wX q d I A) pc lv (.int v :: .ref (q 49) :: st) := g_put (ws' := (wX q d (upd I 41 v) A)) (fs := [.ref (q 37), .ref (q 38), .ref (q 50), .ref (q 51), .int (I 38), .int (I 39), .int (I 40), .int (I 41), .int (I 42), .int (I 43), .int (I 44)]) hk hin tyX9 tyX9_ok nmX9 49 rfl rfl 7 (by decide) hl rfl rfl rfl rfl (Nat.le_of_ble_eq_true rfl) rfl hd kk
theorem gX_i42 (hk : GC κ l0 D0 zt cc nL own Ts tys rm) {v : Int32} {index : Nat} (hin : ∀ w ∈ u_ws RX9 TX9 11, w ∈ Ts) (hl : Cond.fieldLink own index "WarpDesk$Stretches" "pairDistance" "I" ∈ Ts) (hd : decode cc pc = .ok (.getfield index, 3)) (hv : I 42 = v) (kk : GW κ nL n1 n2 (wX q d I A) (pc + 3) lv (.int v :: st)) : GW κ nL n1 n2 (wX q d I A) pc lv (.ref (q 49) :: st) := by
  subst hv
  exact g_get hk hin 49 rfl rfl 8 (by decide) hl rfl rfl hd kk
theorem pX_i42 (hk : GC κ l0 D0 zt cc nL own Ts tys rm) {v : Int32} {index : Nat} (hin : ∀ w ∈ u_ws RX9 TX9 11, w ∈ Ts) (hl : Cond.fieldLink own index "WarpDesk$Stretches" "pairDistance" "I" ∈ Ts) (hd : decode cc pc = .ok (.putfield index, 3)) (kk : GW κ nL n1 n2 (wX q d (upd I 42 v) A) (pc + 3) lv st) : GW κ nL n1 n2 (wX q d I A) pc lv (.int v :: .ref (q 49) :: st) := g_put (ws' := (wX q d (upd I 42 v) A)) (fs := [.ref (q 37), .ref (q 38), .ref (q 50), .ref (q 51), .int (I 38), .int (I 39), .int (I 40), .int (I 41), .int (I 42), .int (I 43), .int (I 44)]) hk hin tyX9 tyX9_ok nmX9 49 rfl rfl 8 (by decide) hl rfl rfl rfl rfl (Nat.le_of_ble_eq_true rfl) rfl hd kk
theorem gX_i43 (hk : GC κ l0 D0 zt cc nL own Ts tys rm) {v : Int32} {index : Nat} (hin : ∀ w ∈ u_ws RX9 TX9 11, w ∈ Ts) (hl : Cond.fieldLink own index "WarpDesk$Stretches" "oddWindow" "I" ∈ Ts) (hd : decode cc pc = .ok (.getfield index, 3)) (hv : I 43 = v) (kk : GW κ nL n1 n2 (wX q d I A) (pc + 3) lv (.int v :: st)) : GW κ nL n1 n2 (wX q d I A) pc lv (.ref (q 49) :: st) := by
  subst hv
  exact g_get hk hin 49 rfl rfl 9 (by decide) hl rfl rfl hd kk
theorem pX_i43 (hk : GC κ l0 D0 zt cc nL own Ts tys rm) {v : Int32} {index : Nat} (hin : ∀ w ∈ u_ws RX9 TX9 11, w ∈ Ts) (hl : Cond.fieldLink own index "WarpDesk$Stretches" "oddWindow" "I" ∈ Ts) (hd : decode cc pc = .ok (.putfield index, 3)) (kk : GW κ nL n1 n2 (wX q d (upd I 43 v) A) (pc + 3) lv st) : GW κ nL n1 n2 (wX q d I A) pc lv (.int v :: .ref (q 49) :: st) := g_put (ws' := (wX q d (upd I 43 v) A)) (fs := [.ref (q 37), .ref (q 38), .ref (q 50), .ref (q 51), .int (I 38), .int (I 39), .int (I 40), .int (I 41), .int (I 42), .int (I 43), .int (I 44)]) hk hin tyX9 tyX9_ok nmX9 49 rfl rfl 9 (by decide) hl rfl rfl rfl rfl (Nat.le_of_ble_eq_true rfl) rfl hd kk
theorem gX_i44 (hk : GC κ l0 D0 zt cc nL own Ts tys rm) {v : Int32} {index : Nat} (hin : ∀ w ∈ u_ws RX9 TX9 11, w ∈ Ts) (hl : Cond.fieldLink own index "WarpDesk$Stretches" "oddDistance" "I" ∈ Ts) (hd : decode cc pc = .ok (.getfield index, 3)) (hv : I 44 = v) (kk : GW κ nL n1 n2 (wX q d I A) (pc + 3) lv (.int v :: st)) : GW κ nL n1 n2 (wX q d I A) pc lv (.ref (q 49) :: st) := by
  subst hv
  exact g_get hk hin 49 rfl rfl 10 (by decide) hl rfl rfl hd kk
theorem pX_i44 (hk : GC κ l0 D0 zt cc nL own Ts tys rm) {v : Int32} {index : Nat} (hin : ∀ w ∈ u_ws RX9 TX9 11, w ∈ Ts) (hl : Cond.fieldLink own index "WarpDesk$Stretches" "oddDistance" "I" ∈ Ts) (hd : decode cc pc = .ok (.putfield index, 3)) (kk : GW κ nL n1 n2 (wX q d (upd I 44 v) A) (pc + 3) lv st) : GW κ nL n1 n2 (wX q d I A) pc lv (.int v :: .ref (q 49) :: st) := g_put (ws' := (wX q d (upd I 44 v) A)) (fs := [.ref (q 37), .ref (q 38), .ref (q 50), .ref (q 51), .int (I 38), .int (I 39), .int (I 40), .int (I 41), .int (I 42), .int (I 43), .int (I 44)]) hk hin tyX9 tyX9_ok nmX9 49 rfl rfl 10 (by decide) hl rfl rfl rfl rfl (Nat.le_of_ble_eq_true rfl) rfl hd kk
theorem lX_30 (hk : GC κ l0 D0 zt cc nL own Ts (tyX d) rm) {i v : Int32} (hin : vp_in i 2560) (hv : A 30 i.toNatClampNeg = v) (hd : decode cc pc = .ok (.iaload, 1)) (kk : GW κ nL n1 n2 (wX q d I A) (pc + 1) lv (.int v :: st)) : GW κ nL n1 n2 (wX q d I A) pc lv (.int i :: .ref (q 50) :: st) := g_iald hk 50 30 rfl rfl hin hv hd kk
theorem sX_30 (hk : GC κ l0 D0 zt cc nL own Ts (tyX d) rm) {i x : Int32} {j : Nat} (hin : vp_in i 2560) (hj : i.toNatClampNeg = j) (hd : decode cc pc = .ok (.iastore, 1)) (kk : GW κ nL n1 n2 (wX q d I (up3 A 30 j x)) (pc + 1) lv st) : GW κ nL n1 n2 (wX q d I A) pc lv (.int x :: .int i :: .ref (q 50) :: st) := g_iast hk 50 30 rfl rfl hin hj rfl hd kk
theorem nX_30 (hk : GC κ l0 D0 zt cc nL own Ts (tyX d) rm) (hd : decode cc pc = .ok (.arraylength, 1)) (kk : GW κ nL n1 n2 (wX q d I A) (pc + 1) lv (.int 2560 :: st)) : GW κ nL n1 n2 (wX q d I A) pc lv (.ref (q 50) :: st) := g_alen hk 50 30 rfl rfl rfl hd kk
theorem lX_31 (hk : GC κ l0 D0 zt cc nL own Ts (tyX d) rm) {i v : Int32} (hin : vp_in i 160) (hv : A 31 i.toNatClampNeg = v) (hd : decode cc pc = .ok (.baload, 1)) (kk : GW κ nL n1 n2 (wX q d I A) (pc + 1) lv (.int v :: st)) : GW κ nL n1 n2 (wX q d I A) pc lv (.int i :: .ref (q 51) :: st) := g_zald hk 51 31 rfl rfl hin hv hd kk
theorem sX_31 (hk : GC κ l0 D0 zt cc nL own Ts (tyX d) rm) {i x y : Int32} {j : Nat} (hin : vp_in i 160) (hj : i.toNatClampNeg = j) (hx : vp_nar .boolean x = y) (hd : decode cc pc = .ok (.bastore, 1)) (kk : GW κ nL n1 n2 (wX q d I (up3 A 31 j y)) (pc + 1) lv st) : GW κ nL n1 n2 (wX q d I A) pc lv (.int x :: .int i :: .ref (q 51) :: st) := g_zast hk 51 31 rfl rfl hin hj hx rfl hd kk
theorem nX_31 (hk : GC κ l0 D0 zt cc nL own Ts (tyX d) rm) (hd : decode cc pc = .ok (.arraylength, 1)) (kk : GW κ nL n1 n2 (wX q d I A) (pc + 1) lv (.int 160 :: st)) : GW κ nL n1 n2 (wX q d I A) pc lv (.ref (q 51) :: st) := g_alen hk 51 31 rfl rfl rfl hd kk
theorem gX_same {a j : Nat} {x : Int32} (h : A a j = x) (k : GW κ nL n1 n2 (wX q d I A) pc lv st) : GW κ nL n1 n2 (wX q d I (up3 A a j x)) pc lv st := by
  rw [up3_same h]
  exact k
theorem gX_sameI {a : Nat} {x : Int32} (h : I a = x) (k : GW κ nL n1 n2 (wX q d I A) pc lv st) : GW κ nL n1 n2 (wX q d (upd I a x) A) pc lv st := by
  rw [upd_same h]
  exact k
end GX
section GM
variable {κ : Cx} {l0 : Launch} {D0 : va_G} {zt : Nat × Nat × Nat} {cc : ByteArray} {nL : Nat} {own : String} {Ts : List Cond} {tys : Tys} {rm : Room} {n1 n2 : Nat} {pc : Nat} {lv : List (Nat × Value)} {st : List Value} {r : Nat → Nat} {g : Nat → ClassId} {I : Nat → Int32} {A : Nat → Nat → Int32} {L : Nat → Nat → Int64}
theorem gM_i0 (hk : GC κ l0 D0 zt cc nL own Ts tys rm) {v : Int32} {index : Nat} (hin : ∀ w ∈ u_ws RX12 TX12 55, w ∈ Ts) (hl : Cond.fieldLink own index "WarpDeskModel" "thrown" "I" ∈ Ts) (hd : decode cc pc = .ok (.getfield index, 3)) (hv : I 0 = v) (kk : GW κ nL n1 n2 (wM r g I A L) (pc + 3) lv (.int v :: st)) : GW κ nL n1 n2 (wM r g I A L) pc lv (.ref (r 0) :: st) := by
  subst hv
  exact g_get hk hin 0 rfl rfl 0 (by decide) hl rfl rfl hd kk
theorem pM_i0 (hk : GC κ l0 D0 zt cc nL own Ts tys rm) {v : Int32} {index : Nat} (hin : ∀ w ∈ u_ws RX12 TX12 55, w ∈ Ts) (hl : Cond.fieldLink own index "WarpDeskModel" "thrown" "I" ∈ Ts) (hd : decode cc pc = .ok (.putfield index, 3)) (kk : GW κ nL n1 n2 (wM r g (upd I 0 v) A L) (pc + 3) lv st) : GW κ nL n1 n2 (wM r g I A L) pc lv (.int v :: .ref (r 0) :: st) := g_put (ws' := (wM r g (upd I 0 v) A L)) (fs := [.int (I 0), .ref (r 1), .int (I 1), .ref (r 2), .int (I 2), .ref (r 3), .ref (r 4), .ref (r 5), .ref (r 6), .ref (r 7), .int (I 3), .int (I 4), .int (I 5), .int (I 6), .int (I 7), .int (I 8), .int (I 9), .int (I 10), .int (I 11), .int (I 12), .int (I 13), .int (I 14), .int (I 15), .int (I 16), .int (I 17), .ref (r 8), .ref (r 9), .ref (r 10), .ref (r 11), .ref (r 12), .ref (r 13), .ref (r 14), .ref (r 15), .ref (r 16), .ref (r 17), .ref (r 18), .ref (r 19), .int (I 18), .ref (r 20), .ref (r 21), .ref (r 22), .int (I 19), .int (I 20), .int (I 21), .int (I 22), .ref (r 23), .ref (r 24), .int (I 23), .ref (r 25), .ref (r 26), .int (I 24), .ref (r 27), .int (I 25), .ref (r 28), .ref (r 29)]) hk hin tyX12 tyX12_ok nmX12 0 rfl rfl 0 (by decide) hl rfl rfl rfl rfl (Nat.le_of_ble_eq_true rfl) rfl hd kk
theorem gM_r0_1 (hk : GC κ l0 D0 zt cc nL own Ts tys rm) {index : Nat} (hin : ∀ w ∈ u_ws RX12 TX12 55, w ∈ Ts) (hl : Cond.fieldLink own index "WarpDeskModel" "tape" "[B" ∈ Ts) (hd : decode cc pc = .ok (.getfield index, 3)) (kk : GW κ nL n1 n2 (wM r g I A L) (pc + 3) lv (.ref (r 1) :: st)) : GW κ nL n1 n2 (wM r g I A L) pc lv (.ref (r 0) :: st) := g_get hk hin 0 rfl rfl 1 (by decide) hl rfl rfl hd kk
theorem gM_i1 (hk : GC κ l0 D0 zt cc nL own Ts tys rm) {v : Int32} {index : Nat} (hin : ∀ w ∈ u_ws RX12 TX12 55, w ∈ Ts) (hl : Cond.fieldLink own index "WarpDeskModel" "taped" "I" ∈ Ts) (hd : decode cc pc = .ok (.getfield index, 3)) (hv : I 1 = v) (kk : GW κ nL n1 n2 (wM r g I A L) (pc + 3) lv (.int v :: st)) : GW κ nL n1 n2 (wM r g I A L) pc lv (.ref (r 0) :: st) := by
  subst hv
  exact g_get hk hin 0 rfl rfl 2 (by decide) hl rfl rfl hd kk
theorem pM_i1 (hk : GC κ l0 D0 zt cc nL own Ts tys rm) {v : Int32} {index : Nat} (hin : ∀ w ∈ u_ws RX12 TX12 55, w ∈ Ts) (hl : Cond.fieldLink own index "WarpDeskModel" "taped" "I" ∈ Ts) (hd : decode cc pc = .ok (.putfield index, 3)) (kk : GW κ nL n1 n2 (wM r g (upd I 1 v) A L) (pc + 3) lv st) : GW κ nL n1 n2 (wM r g I A L) pc lv (.int v :: .ref (r 0) :: st) := g_put (ws' := (wM r g (upd I 1 v) A L)) (fs := [.int (I 0), .ref (r 1), .int (I 1), .ref (r 2), .int (I 2), .ref (r 3), .ref (r 4), .ref (r 5), .ref (r 6), .ref (r 7), .int (I 3), .int (I 4), .int (I 5), .int (I 6), .int (I 7), .int (I 8), .int (I 9), .int (I 10), .int (I 11), .int (I 12), .int (I 13), .int (I 14), .int (I 15), .int (I 16), .int (I 17), .ref (r 8), .ref (r 9), .ref (r 10), .ref (r 11), .ref (r 12), .ref (r 13), .ref (r 14), .ref (r 15), .ref (r 16), .ref (r 17), .ref (r 18), .ref (r 19), .int (I 18), .ref (r 20), .ref (r 21), .ref (r 22), .int (I 19), .int (I 20), .int (I 21), .int (I 22), .ref (r 23), .ref (r 24), .int (I 23), .ref (r 25), .ref (r 26), .int (I 24), .ref (r 27), .int (I 25), .ref (r 28), .ref (r 29)]) hk hin tyX12 tyX12_ok nmX12 0 rfl rfl 2 (by decide) hl rfl rfl rfl rfl (Nat.le_of_ble_eq_true rfl) rfl hd kk
theorem gM_r0_3 (hk : GC κ l0 D0 zt cc nL own Ts tys rm) {index : Nat} (hin : ∀ w ∈ u_ws RX12 TX12 55, w ∈ Ts) (hl : Cond.fieldLink own index "WarpDeskModel" "text" "[B" ∈ Ts) (hd : decode cc pc = .ok (.getfield index, 3)) (kk : GW κ nL n1 n2 (wM r g I A L) (pc + 3) lv (.ref (r 2) :: st)) : GW κ nL n1 n2 (wM r g I A L) pc lv (.ref (r 0) :: st) := g_get hk hin 0 rfl rfl 3 (by decide) hl rfl rfl hd kk
theorem gM_i2 (hk : GC κ l0 D0 zt cc nL own Ts tys rm) {v : Int32} {index : Nat} (hin : ∀ w ∈ u_ws RX12 TX12 55, w ∈ Ts) (hl : Cond.fieldLink own index "WarpDeskModel" "size" "I" ∈ Ts) (hd : decode cc pc = .ok (.getfield index, 3)) (hv : I 2 = v) (kk : GW κ nL n1 n2 (wM r g I A L) (pc + 3) lv (.int v :: st)) : GW κ nL n1 n2 (wM r g I A L) pc lv (.ref (r 0) :: st) := by
  subst hv
  exact g_get hk hin 0 rfl rfl 4 (by decide) hl rfl rfl hd kk
theorem pM_i2 (hk : GC κ l0 D0 zt cc nL own Ts tys rm) {v : Int32} {index : Nat} (hin : ∀ w ∈ u_ws RX12 TX12 55, w ∈ Ts) (hl : Cond.fieldLink own index "WarpDeskModel" "size" "I" ∈ Ts) (hd : decode cc pc = .ok (.putfield index, 3)) (kk : GW κ nL n1 n2 (wM r g (upd I 2 v) A L) (pc + 3) lv st) : GW κ nL n1 n2 (wM r g I A L) pc lv (.int v :: .ref (r 0) :: st) := g_put (ws' := (wM r g (upd I 2 v) A L)) (fs := [.int (I 0), .ref (r 1), .int (I 1), .ref (r 2), .int (I 2), .ref (r 3), .ref (r 4), .ref (r 5), .ref (r 6), .ref (r 7), .int (I 3), .int (I 4), .int (I 5), .int (I 6), .int (I 7), .int (I 8), .int (I 9), .int (I 10), .int (I 11), .int (I 12), .int (I 13), .int (I 14), .int (I 15), .int (I 16), .int (I 17), .ref (r 8), .ref (r 9), .ref (r 10), .ref (r 11), .ref (r 12), .ref (r 13), .ref (r 14), .ref (r 15), .ref (r 16), .ref (r 17), .ref (r 18), .ref (r 19), .int (I 18), .ref (r 20), .ref (r 21), .ref (r 22), .int (I 19), .int (I 20), .int (I 21), .int (I 22), .ref (r 23), .ref (r 24), .int (I 23), .ref (r 25), .ref (r 26), .int (I 24), .ref (r 27), .int (I 25), .ref (r 28), .ref (r 29)]) hk hin tyX12 tyX12_ok nmX12 0 rfl rfl 4 (by decide) hl rfl rfl rfl rfl (Nat.le_of_ble_eq_true rfl) rfl hd kk
theorem gM_r0_5 (hk : GC κ l0 D0 zt cc nL own Ts tys rm) {index : Nat} (hin : ∀ w ∈ u_ws RX12 TX12 55, w ∈ Ts) (hl : Cond.fieldLink own index "WarpDeskModel" "tKind" "[I" ∈ Ts) (hd : decode cc pc = .ok (.getfield index, 3)) (kk : GW κ nL n1 n2 (wM r g I A L) (pc + 3) lv (.ref (r 3) :: st)) : GW κ nL n1 n2 (wM r g I A L) pc lv (.ref (r 0) :: st) := g_get hk hin 0 rfl rfl 5 (by decide) hl rfl rfl hd kk
theorem gM_r0_6 (hk : GC κ l0 D0 zt cc nL own Ts tys rm) {index : Nat} (hin : ∀ w ∈ u_ws RX12 TX12 55, w ∈ Ts) (hl : Cond.fieldLink own index "WarpDeskModel" "tPlace" "[I" ∈ Ts) (hd : decode cc pc = .ok (.getfield index, 3)) (kk : GW κ nL n1 n2 (wM r g I A L) (pc + 3) lv (.ref (r 4) :: st)) : GW κ nL n1 n2 (wM r g I A L) pc lv (.ref (r 0) :: st) := g_get hk hin 0 rfl rfl 6 (by decide) hl rfl rfl hd kk
theorem gM_r0_7 (hk : GC κ l0 D0 zt cc nL own Ts tys rm) {index : Nat} (hin : ∀ w ∈ u_ws RX12 TX12 55, w ∈ Ts) (hl : Cond.fieldLink own index "WarpDeskModel" "tValue" "[I" ∈ Ts) (hd : decode cc pc = .ok (.getfield index, 3)) (kk : GW κ nL n1 n2 (wM r g I A L) (pc + 3) lv (.ref (r 5) :: st)) : GW κ nL n1 n2 (wM r g I A L) pc lv (.ref (r 0) :: st) := g_get hk hin 0 rfl rfl 7 (by decide) hl rfl rfl hd kk
theorem gM_r0_8 (hk : GC κ l0 D0 zt cc nL own Ts tys rm) {index : Nat} (hin : ∀ w ∈ u_ws RX12 TX12 55, w ∈ Ts) (hl : Cond.fieldLink own index "WarpDeskModel" "tName" "[J" ∈ Ts) (hd : decode cc pc = .ok (.getfield index, 3)) (kk : GW κ nL n1 n2 (wM r g I A L) (pc + 3) lv (.ref (r 6) :: st)) : GW κ nL n1 n2 (wM r g I A L) pc lv (.ref (r 0) :: st) := g_get hk hin 0 rfl rfl 8 (by decide) hl rfl rfl hd kk
theorem gM_r0_9 (hk : GC κ l0 D0 zt cc nL own Ts tys rm) {index : Nat} (hin : ∀ w ∈ u_ws RX12 TX12 55, w ∈ Ts) (hl : Cond.fieldLink own index "WarpDeskModel" "keys" "[J" ∈ Ts) (hd : decode cc pc = .ok (.getfield index, 3)) (kk : GW κ nL n1 n2 (wM r g I A L) (pc + 3) lv (.ref (r 7) :: st)) : GW κ nL n1 n2 (wM r g I A L) pc lv (.ref (r 0) :: st) := g_get hk hin 0 rfl rfl 9 (by decide) hl rfl rfl hd kk
theorem gM_i3 (hk : GC κ l0 D0 zt cc nL own Ts tys rm) {v : Int32} {index : Nat} (hin : ∀ w ∈ u_ws RX12 TX12 55, w ∈ Ts) (hl : Cond.fieldLink own index "WarpDeskModel" "tokens" "I" ∈ Ts) (hd : decode cc pc = .ok (.getfield index, 3)) (hv : I 3 = v) (kk : GW κ nL n1 n2 (wM r g I A L) (pc + 3) lv (.int v :: st)) : GW κ nL n1 n2 (wM r g I A L) pc lv (.ref (r 0) :: st) := by
  subst hv
  exact g_get hk hin 0 rfl rfl 10 (by decide) hl rfl rfl hd kk
theorem pM_i3 (hk : GC κ l0 D0 zt cc nL own Ts tys rm) {v : Int32} {index : Nat} (hin : ∀ w ∈ u_ws RX12 TX12 55, w ∈ Ts) (hl : Cond.fieldLink own index "WarpDeskModel" "tokens" "I" ∈ Ts) (hd : decode cc pc = .ok (.putfield index, 3)) (kk : GW κ nL n1 n2 (wM r g (upd I 3 v) A L) (pc + 3) lv st) : GW κ nL n1 n2 (wM r g I A L) pc lv (.int v :: .ref (r 0) :: st) := g_put (ws' := (wM r g (upd I 3 v) A L)) (fs := [.int (I 0), .ref (r 1), .int (I 1), .ref (r 2), .int (I 2), .ref (r 3), .ref (r 4), .ref (r 5), .ref (r 6), .ref (r 7), .int (I 3), .int (I 4), .int (I 5), .int (I 6), .int (I 7), .int (I 8), .int (I 9), .int (I 10), .int (I 11), .int (I 12), .int (I 13), .int (I 14), .int (I 15), .int (I 16), .int (I 17), .ref (r 8), .ref (r 9), .ref (r 10), .ref (r 11), .ref (r 12), .ref (r 13), .ref (r 14), .ref (r 15), .ref (r 16), .ref (r 17), .ref (r 18), .ref (r 19), .int (I 18), .ref (r 20), .ref (r 21), .ref (r 22), .int (I 19), .int (I 20), .int (I 21), .int (I 22), .ref (r 23), .ref (r 24), .int (I 23), .ref (r 25), .ref (r 26), .int (I 24), .ref (r 27), .int (I 25), .ref (r 28), .ref (r 29)]) hk hin tyX12 tyX12_ok nmX12 0 rfl rfl 10 (by decide) hl rfl rfl rfl rfl (Nat.le_of_ble_eq_true rfl) rfl hd kk
theorem gM_i4 (hk : GC κ l0 D0 zt cc nL own Ts tys rm) {v : Int32} {index : Nat} (hin : ∀ w ∈ u_ws RX12 TX12 55, w ∈ Ts) (hl : Cond.fieldLink own index "WarpDeskModel" "t" "I" ∈ Ts) (hd : decode cc pc = .ok (.getfield index, 3)) (hv : I 4 = v) (kk : GW κ nL n1 n2 (wM r g I A L) (pc + 3) lv (.int v :: st)) : GW κ nL n1 n2 (wM r g I A L) pc lv (.ref (r 0) :: st) := by
  subst hv
  exact g_get hk hin 0 rfl rfl 11 (by decide) hl rfl rfl hd kk
theorem pM_i4 (hk : GC κ l0 D0 zt cc nL own Ts tys rm) {v : Int32} {index : Nat} (hin : ∀ w ∈ u_ws RX12 TX12 55, w ∈ Ts) (hl : Cond.fieldLink own index "WarpDeskModel" "t" "I" ∈ Ts) (hd : decode cc pc = .ok (.putfield index, 3)) (kk : GW κ nL n1 n2 (wM r g (upd I 4 v) A L) (pc + 3) lv st) : GW κ nL n1 n2 (wM r g I A L) pc lv (.int v :: .ref (r 0) :: st) := g_put (ws' := (wM r g (upd I 4 v) A L)) (fs := [.int (I 0), .ref (r 1), .int (I 1), .ref (r 2), .int (I 2), .ref (r 3), .ref (r 4), .ref (r 5), .ref (r 6), .ref (r 7), .int (I 3), .int (I 4), .int (I 5), .int (I 6), .int (I 7), .int (I 8), .int (I 9), .int (I 10), .int (I 11), .int (I 12), .int (I 13), .int (I 14), .int (I 15), .int (I 16), .int (I 17), .ref (r 8), .ref (r 9), .ref (r 10), .ref (r 11), .ref (r 12), .ref (r 13), .ref (r 14), .ref (r 15), .ref (r 16), .ref (r 17), .ref (r 18), .ref (r 19), .int (I 18), .ref (r 20), .ref (r 21), .ref (r 22), .int (I 19), .int (I 20), .int (I 21), .int (I 22), .ref (r 23), .ref (r 24), .int (I 23), .ref (r 25), .ref (r 26), .int (I 24), .ref (r 27), .int (I 25), .ref (r 28), .ref (r 29)]) hk hin tyX12 tyX12_ok nmX12 0 rfl rfl 11 (by decide) hl rfl rfl rfl rfl (Nat.le_of_ble_eq_true rfl) rfl hd kk
theorem gM_i5 (hk : GC κ l0 D0 zt cc nL own Ts tys rm) {v : Int32} {index : Nat} (hin : ∀ w ∈ u_ws RX12 TX12 55, w ∈ Ts) (hl : Cond.fieldLink own index "WarpDeskModel" "open" "I" ∈ Ts) (hd : decode cc pc = .ok (.getfield index, 3)) (hv : I 5 = v) (kk : GW κ nL n1 n2 (wM r g I A L) (pc + 3) lv (.int v :: st)) : GW κ nL n1 n2 (wM r g I A L) pc lv (.ref (r 0) :: st) := by
  subst hv
  exact g_get hk hin 0 rfl rfl 12 (by decide) hl rfl rfl hd kk
theorem pM_i5 (hk : GC κ l0 D0 zt cc nL own Ts tys rm) {v : Int32} {index : Nat} (hin : ∀ w ∈ u_ws RX12 TX12 55, w ∈ Ts) (hl : Cond.fieldLink own index "WarpDeskModel" "open" "I" ∈ Ts) (hd : decode cc pc = .ok (.putfield index, 3)) (kk : GW κ nL n1 n2 (wM r g (upd I 5 v) A L) (pc + 3) lv st) : GW κ nL n1 n2 (wM r g I A L) pc lv (.int v :: .ref (r 0) :: st) := g_put (ws' := (wM r g (upd I 5 v) A L)) (fs := [.int (I 0), .ref (r 1), .int (I 1), .ref (r 2), .int (I 2), .ref (r 3), .ref (r 4), .ref (r 5), .ref (r 6), .ref (r 7), .int (I 3), .int (I 4), .int (I 5), .int (I 6), .int (I 7), .int (I 8), .int (I 9), .int (I 10), .int (I 11), .int (I 12), .int (I 13), .int (I 14), .int (I 15), .int (I 16), .int (I 17), .ref (r 8), .ref (r 9), .ref (r 10), .ref (r 11), .ref (r 12), .ref (r 13), .ref (r 14), .ref (r 15), .ref (r 16), .ref (r 17), .ref (r 18), .ref (r 19), .int (I 18), .ref (r 20), .ref (r 21), .ref (r 22), .int (I 19), .int (I 20), .int (I 21), .int (I 22), .ref (r 23), .ref (r 24), .int (I 23), .ref (r 25), .ref (r 26), .int (I 24), .ref (r 27), .int (I 25), .ref (r 28), .ref (r 29)]) hk hin tyX12 tyX12_ok nmX12 0 rfl rfl 12 (by decide) hl rfl rfl rfl rfl (Nat.le_of_ble_eq_true rfl) rfl hd kk
theorem gM_i6 (hk : GC κ l0 D0 zt cc nL own Ts tys rm) {v : Int32} {index : Nat} (hin : ∀ w ∈ u_ws RX12 TX12 55, w ∈ Ts) (hl : Cond.fieldLink own index "WarpDeskModel" "fault" "I" ∈ Ts) (hd : decode cc pc = .ok (.getfield index, 3)) (hv : I 6 = v) (kk : GW κ nL n1 n2 (wM r g I A L) (pc + 3) lv (.int v :: st)) : GW κ nL n1 n2 (wM r g I A L) pc lv (.ref (r 0) :: st) := by
  subst hv
  exact g_get hk hin 0 rfl rfl 13 (by decide) hl rfl rfl hd kk
theorem pM_i6 (hk : GC κ l0 D0 zt cc nL own Ts tys rm) {v : Int32} {index : Nat} (hin : ∀ w ∈ u_ws RX12 TX12 55, w ∈ Ts) (hl : Cond.fieldLink own index "WarpDeskModel" "fault" "I" ∈ Ts) (hd : decode cc pc = .ok (.putfield index, 3)) (kk : GW κ nL n1 n2 (wM r g (upd I 6 v) A L) (pc + 3) lv st) : GW κ nL n1 n2 (wM r g I A L) pc lv (.int v :: .ref (r 0) :: st) := g_put (ws' := (wM r g (upd I 6 v) A L)) (fs := [.int (I 0), .ref (r 1), .int (I 1), .ref (r 2), .int (I 2), .ref (r 3), .ref (r 4), .ref (r 5), .ref (r 6), .ref (r 7), .int (I 3), .int (I 4), .int (I 5), .int (I 6), .int (I 7), .int (I 8), .int (I 9), .int (I 10), .int (I 11), .int (I 12), .int (I 13), .int (I 14), .int (I 15), .int (I 16), .int (I 17), .ref (r 8), .ref (r 9), .ref (r 10), .ref (r 11), .ref (r 12), .ref (r 13), .ref (r 14), .ref (r 15), .ref (r 16), .ref (r 17), .ref (r 18), .ref (r 19), .int (I 18), .ref (r 20), .ref (r 21), .ref (r 22), .int (I 19), .int (I 20), .int (I 21), .int (I 22), .ref (r 23), .ref (r 24), .int (I 23), .ref (r 25), .ref (r 26), .int (I 24), .ref (r 27), .int (I 25), .ref (r 28), .ref (r 29)]) hk hin tyX12 tyX12_ok nmX12 0 rfl rfl 13 (by decide) hl rfl rfl rfl rfl (Nat.le_of_ble_eq_true rfl) rfl hd kk
theorem gM_i7 (hk : GC κ l0 D0 zt cc nL own Ts tys rm) {v : Int32} {index : Nat} (hin : ∀ w ∈ u_ws RX12 TX12 55, w ∈ Ts) (hl : Cond.fieldLink own index "WarpDeskModel" "faultPlace" "I" ∈ Ts) (hd : decode cc pc = .ok (.getfield index, 3)) (hv : I 7 = v) (kk : GW κ nL n1 n2 (wM r g I A L) (pc + 3) lv (.int v :: st)) : GW κ nL n1 n2 (wM r g I A L) pc lv (.ref (r 0) :: st) := by
  subst hv
  exact g_get hk hin 0 rfl rfl 14 (by decide) hl rfl rfl hd kk
theorem pM_i7 (hk : GC κ l0 D0 zt cc nL own Ts tys rm) {v : Int32} {index : Nat} (hin : ∀ w ∈ u_ws RX12 TX12 55, w ∈ Ts) (hl : Cond.fieldLink own index "WarpDeskModel" "faultPlace" "I" ∈ Ts) (hd : decode cc pc = .ok (.putfield index, 3)) (kk : GW κ nL n1 n2 (wM r g (upd I 7 v) A L) (pc + 3) lv st) : GW κ nL n1 n2 (wM r g I A L) pc lv (.int v :: .ref (r 0) :: st) := g_put (ws' := (wM r g (upd I 7 v) A L)) (fs := [.int (I 0), .ref (r 1), .int (I 1), .ref (r 2), .int (I 2), .ref (r 3), .ref (r 4), .ref (r 5), .ref (r 6), .ref (r 7), .int (I 3), .int (I 4), .int (I 5), .int (I 6), .int (I 7), .int (I 8), .int (I 9), .int (I 10), .int (I 11), .int (I 12), .int (I 13), .int (I 14), .int (I 15), .int (I 16), .int (I 17), .ref (r 8), .ref (r 9), .ref (r 10), .ref (r 11), .ref (r 12), .ref (r 13), .ref (r 14), .ref (r 15), .ref (r 16), .ref (r 17), .ref (r 18), .ref (r 19), .int (I 18), .ref (r 20), .ref (r 21), .ref (r 22), .int (I 19), .int (I 20), .int (I 21), .int (I 22), .ref (r 23), .ref (r 24), .int (I 23), .ref (r 25), .ref (r 26), .int (I 24), .ref (r 27), .int (I 25), .ref (r 28), .ref (r 29)]) hk hin tyX12 tyX12_ok nmX12 0 rfl rfl 14 (by decide) hl rfl rfl rfl rfl (Nat.le_of_ble_eq_true rfl) rfl hd kk
theorem gM_i8 (hk : GC κ l0 D0 zt cc nL own Ts tys rm) {v : Int32} {index : Nat} (hin : ∀ w ∈ u_ws RX12 TX12 55, w ∈ Ts) (hl : Cond.fieldLink own index "WarpDeskModel" "worst" "I" ∈ Ts) (hd : decode cc pc = .ok (.getfield index, 3)) (hv : I 8 = v) (kk : GW κ nL n1 n2 (wM r g I A L) (pc + 3) lv (.int v :: st)) : GW κ nL n1 n2 (wM r g I A L) pc lv (.ref (r 0) :: st) := by
  subst hv
  exact g_get hk hin 0 rfl rfl 15 (by decide) hl rfl rfl hd kk
theorem pM_i8 (hk : GC κ l0 D0 zt cc nL own Ts tys rm) {v : Int32} {index : Nat} (hin : ∀ w ∈ u_ws RX12 TX12 55, w ∈ Ts) (hl : Cond.fieldLink own index "WarpDeskModel" "worst" "I" ∈ Ts) (hd : decode cc pc = .ok (.putfield index, 3)) (kk : GW κ nL n1 n2 (wM r g (upd I 8 v) A L) (pc + 3) lv st) : GW κ nL n1 n2 (wM r g I A L) pc lv (.int v :: .ref (r 0) :: st) := g_put (ws' := (wM r g (upd I 8 v) A L)) (fs := [.int (I 0), .ref (r 1), .int (I 1), .ref (r 2), .int (I 2), .ref (r 3), .ref (r 4), .ref (r 5), .ref (r 6), .ref (r 7), .int (I 3), .int (I 4), .int (I 5), .int (I 6), .int (I 7), .int (I 8), .int (I 9), .int (I 10), .int (I 11), .int (I 12), .int (I 13), .int (I 14), .int (I 15), .int (I 16), .int (I 17), .ref (r 8), .ref (r 9), .ref (r 10), .ref (r 11), .ref (r 12), .ref (r 13), .ref (r 14), .ref (r 15), .ref (r 16), .ref (r 17), .ref (r 18), .ref (r 19), .int (I 18), .ref (r 20), .ref (r 21), .ref (r 22), .int (I 19), .int (I 20), .int (I 21), .int (I 22), .ref (r 23), .ref (r 24), .int (I 23), .ref (r 25), .ref (r 26), .int (I 24), .ref (r 27), .int (I 25), .ref (r 28), .ref (r 29)]) hk hin tyX12 tyX12_ok nmX12 0 rfl rfl 15 (by decide) hl rfl rfl rfl rfl (Nat.le_of_ble_eq_true rfl) rfl hd kk
theorem gM_i9 (hk : GC κ l0 D0 zt cc nL own Ts tys rm) {v : Int32} {index : Nat} (hin : ∀ w ∈ u_ws RX12 TX12 55, w ∈ Ts) (hl : Cond.fieldLink own index "WarpDeskModel" "worstPlace" "I" ∈ Ts) (hd : decode cc pc = .ok (.getfield index, 3)) (hv : I 9 = v) (kk : GW κ nL n1 n2 (wM r g I A L) (pc + 3) lv (.int v :: st)) : GW κ nL n1 n2 (wM r g I A L) pc lv (.ref (r 0) :: st) := by
  subst hv
  exact g_get hk hin 0 rfl rfl 16 (by decide) hl rfl rfl hd kk
theorem pM_i9 (hk : GC κ l0 D0 zt cc nL own Ts tys rm) {v : Int32} {index : Nat} (hin : ∀ w ∈ u_ws RX12 TX12 55, w ∈ Ts) (hl : Cond.fieldLink own index "WarpDeskModel" "worstPlace" "I" ∈ Ts) (hd : decode cc pc = .ok (.putfield index, 3)) (kk : GW κ nL n1 n2 (wM r g (upd I 9 v) A L) (pc + 3) lv st) : GW κ nL n1 n2 (wM r g I A L) pc lv (.int v :: .ref (r 0) :: st) := g_put (ws' := (wM r g (upd I 9 v) A L)) (fs := [.int (I 0), .ref (r 1), .int (I 1), .ref (r 2), .int (I 2), .ref (r 3), .ref (r 4), .ref (r 5), .ref (r 6), .ref (r 7), .int (I 3), .int (I 4), .int (I 5), .int (I 6), .int (I 7), .int (I 8), .int (I 9), .int (I 10), .int (I 11), .int (I 12), .int (I 13), .int (I 14), .int (I 15), .int (I 16), .int (I 17), .ref (r 8), .ref (r 9), .ref (r 10), .ref (r 11), .ref (r 12), .ref (r 13), .ref (r 14), .ref (r 15), .ref (r 16), .ref (r 17), .ref (r 18), .ref (r 19), .int (I 18), .ref (r 20), .ref (r 21), .ref (r 22), .int (I 19), .int (I 20), .int (I 21), .int (I 22), .ref (r 23), .ref (r 24), .int (I 23), .ref (r 25), .ref (r 26), .int (I 24), .ref (r 27), .int (I 25), .ref (r 28), .ref (r 29)]) hk hin tyX12 tyX12_ok nmX12 0 rfl rfl 16 (by decide) hl rfl rfl rfl rfl (Nat.le_of_ble_eq_true rfl) rfl hd kk
theorem gM_i10 (hk : GC κ l0 D0 zt cc nL own Ts tys rm) {v : Int32} {index : Nat} (hin : ∀ w ∈ u_ws RX12 TX12 55, w ∈ Ts) (hl : Cond.fieldLink own index "WarpDeskModel" "place" "I" ∈ Ts) (hd : decode cc pc = .ok (.getfield index, 3)) (hv : I 10 = v) (kk : GW κ nL n1 n2 (wM r g I A L) (pc + 3) lv (.int v :: st)) : GW κ nL n1 n2 (wM r g I A L) pc lv (.ref (r 0) :: st) := by
  subst hv
  exact g_get hk hin 0 rfl rfl 17 (by decide) hl rfl rfl hd kk
theorem pM_i10 (hk : GC κ l0 D0 zt cc nL own Ts tys rm) {v : Int32} {index : Nat} (hin : ∀ w ∈ u_ws RX12 TX12 55, w ∈ Ts) (hl : Cond.fieldLink own index "WarpDeskModel" "place" "I" ∈ Ts) (hd : decode cc pc = .ok (.putfield index, 3)) (kk : GW κ nL n1 n2 (wM r g (upd I 10 v) A L) (pc + 3) lv st) : GW κ nL n1 n2 (wM r g I A L) pc lv (.int v :: .ref (r 0) :: st) := g_put (ws' := (wM r g (upd I 10 v) A L)) (fs := [.int (I 0), .ref (r 1), .int (I 1), .ref (r 2), .int (I 2), .ref (r 3), .ref (r 4), .ref (r 5), .ref (r 6), .ref (r 7), .int (I 3), .int (I 4), .int (I 5), .int (I 6), .int (I 7), .int (I 8), .int (I 9), .int (I 10), .int (I 11), .int (I 12), .int (I 13), .int (I 14), .int (I 15), .int (I 16), .int (I 17), .ref (r 8), .ref (r 9), .ref (r 10), .ref (r 11), .ref (r 12), .ref (r 13), .ref (r 14), .ref (r 15), .ref (r 16), .ref (r 17), .ref (r 18), .ref (r 19), .int (I 18), .ref (r 20), .ref (r 21), .ref (r 22), .int (I 19), .int (I 20), .int (I 21), .int (I 22), .ref (r 23), .ref (r 24), .int (I 23), .ref (r 25), .ref (r 26), .int (I 24), .ref (r 27), .int (I 25), .ref (r 28), .ref (r 29)]) hk hin tyX12 tyX12_ok nmX12 0 rfl rfl 17 (by decide) hl rfl rfl rfl rfl (Nat.le_of_ble_eq_true rfl) rfl hd kk
theorem gM_i11 (hk : GC κ l0 D0 zt cc nL own Ts tys rm) {v : Int32} {index : Nat} (hin : ∀ w ∈ u_ws RX12 TX12 55, w ∈ Ts) (hl : Cond.fieldLink own index "WarpDeskModel" "here" "I" ∈ Ts) (hd : decode cc pc = .ok (.getfield index, 3)) (hv : I 11 = v) (kk : GW κ nL n1 n2 (wM r g I A L) (pc + 3) lv (.int v :: st)) : GW κ nL n1 n2 (wM r g I A L) pc lv (.ref (r 0) :: st) := by
  subst hv
  exact g_get hk hin 0 rfl rfl 18 (by decide) hl rfl rfl hd kk
theorem pM_i11 (hk : GC κ l0 D0 zt cc nL own Ts tys rm) {v : Int32} {index : Nat} (hin : ∀ w ∈ u_ws RX12 TX12 55, w ∈ Ts) (hl : Cond.fieldLink own index "WarpDeskModel" "here" "I" ∈ Ts) (hd : decode cc pc = .ok (.putfield index, 3)) (kk : GW κ nL n1 n2 (wM r g (upd I 11 v) A L) (pc + 3) lv st) : GW κ nL n1 n2 (wM r g I A L) pc lv (.int v :: .ref (r 0) :: st) := g_put (ws' := (wM r g (upd I 11 v) A L)) (fs := [.int (I 0), .ref (r 1), .int (I 1), .ref (r 2), .int (I 2), .ref (r 3), .ref (r 4), .ref (r 5), .ref (r 6), .ref (r 7), .int (I 3), .int (I 4), .int (I 5), .int (I 6), .int (I 7), .int (I 8), .int (I 9), .int (I 10), .int (I 11), .int (I 12), .int (I 13), .int (I 14), .int (I 15), .int (I 16), .int (I 17), .ref (r 8), .ref (r 9), .ref (r 10), .ref (r 11), .ref (r 12), .ref (r 13), .ref (r 14), .ref (r 15), .ref (r 16), .ref (r 17), .ref (r 18), .ref (r 19), .int (I 18), .ref (r 20), .ref (r 21), .ref (r 22), .int (I 19), .int (I 20), .int (I 21), .int (I 22), .ref (r 23), .ref (r 24), .int (I 23), .ref (r 25), .ref (r 26), .int (I 24), .ref (r 27), .int (I 25), .ref (r 28), .ref (r 29)]) hk hin tyX12 tyX12_ok nmX12 0 rfl rfl 18 (by decide) hl rfl rfl rfl rfl (Nat.le_of_ble_eq_true rfl) rfl hd kk
theorem gM_i12 (hk : GC κ l0 D0 zt cc nL own Ts tys rm) {v : Int32} {index : Nat} (hin : ∀ w ∈ u_ws RX12 TX12 55, w ∈ Ts) (hl : Cond.fieldLink own index "WarpDeskModel" "faultCause" "I" ∈ Ts) (hd : decode cc pc = .ok (.getfield index, 3)) (hv : I 12 = v) (kk : GW κ nL n1 n2 (wM r g I A L) (pc + 3) lv (.int v :: st)) : GW κ nL n1 n2 (wM r g I A L) pc lv (.ref (r 0) :: st) := by
  subst hv
  exact g_get hk hin 0 rfl rfl 19 (by decide) hl rfl rfl hd kk
theorem pM_i12 (hk : GC κ l0 D0 zt cc nL own Ts tys rm) {v : Int32} {index : Nat} (hin : ∀ w ∈ u_ws RX12 TX12 55, w ∈ Ts) (hl : Cond.fieldLink own index "WarpDeskModel" "faultCause" "I" ∈ Ts) (hd : decode cc pc = .ok (.putfield index, 3)) (kk : GW κ nL n1 n2 (wM r g (upd I 12 v) A L) (pc + 3) lv st) : GW κ nL n1 n2 (wM r g I A L) pc lv (.int v :: .ref (r 0) :: st) := g_put (ws' := (wM r g (upd I 12 v) A L)) (fs := [.int (I 0), .ref (r 1), .int (I 1), .ref (r 2), .int (I 2), .ref (r 3), .ref (r 4), .ref (r 5), .ref (r 6), .ref (r 7), .int (I 3), .int (I 4), .int (I 5), .int (I 6), .int (I 7), .int (I 8), .int (I 9), .int (I 10), .int (I 11), .int (I 12), .int (I 13), .int (I 14), .int (I 15), .int (I 16), .int (I 17), .ref (r 8), .ref (r 9), .ref (r 10), .ref (r 11), .ref (r 12), .ref (r 13), .ref (r 14), .ref (r 15), .ref (r 16), .ref (r 17), .ref (r 18), .ref (r 19), .int (I 18), .ref (r 20), .ref (r 21), .ref (r 22), .int (I 19), .int (I 20), .int (I 21), .int (I 22), .ref (r 23), .ref (r 24), .int (I 23), .ref (r 25), .ref (r 26), .int (I 24), .ref (r 27), .int (I 25), .ref (r 28), .ref (r 29)]) hk hin tyX12 tyX12_ok nmX12 0 rfl rfl 19 (by decide) hl rfl rfl rfl rfl (Nat.le_of_ble_eq_true rfl) rfl hd kk
theorem gM_i13 (hk : GC κ l0 D0 zt cc nL own Ts tys rm) {v : Int32} {index : Nat} (hin : ∀ w ∈ u_ws RX12 TX12 55, w ∈ Ts) (hl : Cond.fieldLink own index "WarpDeskModel" "worstCause" "I" ∈ Ts) (hd : decode cc pc = .ok (.getfield index, 3)) (hv : I 13 = v) (kk : GW κ nL n1 n2 (wM r g I A L) (pc + 3) lv (.int v :: st)) : GW κ nL n1 n2 (wM r g I A L) pc lv (.ref (r 0) :: st) := by
  subst hv
  exact g_get hk hin 0 rfl rfl 20 (by decide) hl rfl rfl hd kk
theorem pM_i13 (hk : GC κ l0 D0 zt cc nL own Ts tys rm) {v : Int32} {index : Nat} (hin : ∀ w ∈ u_ws RX12 TX12 55, w ∈ Ts) (hl : Cond.fieldLink own index "WarpDeskModel" "worstCause" "I" ∈ Ts) (hd : decode cc pc = .ok (.putfield index, 3)) (kk : GW κ nL n1 n2 (wM r g (upd I 13 v) A L) (pc + 3) lv st) : GW κ nL n1 n2 (wM r g I A L) pc lv (.int v :: .ref (r 0) :: st) := g_put (ws' := (wM r g (upd I 13 v) A L)) (fs := [.int (I 0), .ref (r 1), .int (I 1), .ref (r 2), .int (I 2), .ref (r 3), .ref (r 4), .ref (r 5), .ref (r 6), .ref (r 7), .int (I 3), .int (I 4), .int (I 5), .int (I 6), .int (I 7), .int (I 8), .int (I 9), .int (I 10), .int (I 11), .int (I 12), .int (I 13), .int (I 14), .int (I 15), .int (I 16), .int (I 17), .ref (r 8), .ref (r 9), .ref (r 10), .ref (r 11), .ref (r 12), .ref (r 13), .ref (r 14), .ref (r 15), .ref (r 16), .ref (r 17), .ref (r 18), .ref (r 19), .int (I 18), .ref (r 20), .ref (r 21), .ref (r 22), .int (I 19), .int (I 20), .int (I 21), .int (I 22), .ref (r 23), .ref (r 24), .int (I 23), .ref (r 25), .ref (r 26), .int (I 24), .ref (r 27), .int (I 25), .ref (r 28), .ref (r 29)]) hk hin tyX12 tyX12_ok nmX12 0 rfl rfl 20 (by decide) hl rfl rfl rfl rfl (Nat.le_of_ble_eq_true rfl) rfl hd kk
theorem gM_i14 (hk : GC κ l0 D0 zt cc nL own Ts tys rm) {v : Int32} {index : Nat} (hin : ∀ w ∈ u_ws RX12 TX12 55, w ∈ Ts) (hl : Cond.fieldLink own index "WarpDeskModel" "cause" "I" ∈ Ts) (hd : decode cc pc = .ok (.getfield index, 3)) (hv : I 14 = v) (kk : GW κ nL n1 n2 (wM r g I A L) (pc + 3) lv (.int v :: st)) : GW κ nL n1 n2 (wM r g I A L) pc lv (.ref (r 0) :: st) := by
  subst hv
  exact g_get hk hin 0 rfl rfl 21 (by decide) hl rfl rfl hd kk
theorem pM_i14 (hk : GC κ l0 D0 zt cc nL own Ts tys rm) {v : Int32} {index : Nat} (hin : ∀ w ∈ u_ws RX12 TX12 55, w ∈ Ts) (hl : Cond.fieldLink own index "WarpDeskModel" "cause" "I" ∈ Ts) (hd : decode cc pc = .ok (.putfield index, 3)) (kk : GW κ nL n1 n2 (wM r g (upd I 14 v) A L) (pc + 3) lv st) : GW κ nL n1 n2 (wM r g I A L) pc lv (.int v :: .ref (r 0) :: st) := g_put (ws' := (wM r g (upd I 14 v) A L)) (fs := [.int (I 0), .ref (r 1), .int (I 1), .ref (r 2), .int (I 2), .ref (r 3), .ref (r 4), .ref (r 5), .ref (r 6), .ref (r 7), .int (I 3), .int (I 4), .int (I 5), .int (I 6), .int (I 7), .int (I 8), .int (I 9), .int (I 10), .int (I 11), .int (I 12), .int (I 13), .int (I 14), .int (I 15), .int (I 16), .int (I 17), .ref (r 8), .ref (r 9), .ref (r 10), .ref (r 11), .ref (r 12), .ref (r 13), .ref (r 14), .ref (r 15), .ref (r 16), .ref (r 17), .ref (r 18), .ref (r 19), .int (I 18), .ref (r 20), .ref (r 21), .ref (r 22), .int (I 19), .int (I 20), .int (I 21), .int (I 22), .ref (r 23), .ref (r 24), .int (I 23), .ref (r 25), .ref (r 26), .int (I 24), .ref (r 27), .int (I 25), .ref (r 28), .ref (r 29)]) hk hin tyX12 tyX12_ok nmX12 0 rfl rfl 21 (by decide) hl rfl rfl rfl rfl (Nat.le_of_ble_eq_true rfl) rfl hd kk
theorem gM_i15 (hk : GC κ l0 D0 zt cc nL own Ts tys rm) {v : Int32} {index : Nat} (hin : ∀ w ∈ u_ws RX12 TX12 55, w ∈ Ts) (hl : Cond.fieldLink own index "WarpDeskModel" "live" "I" ∈ Ts) (hd : decode cc pc = .ok (.getfield index, 3)) (hv : I 15 = v) (kk : GW κ nL n1 n2 (wM r g I A L) (pc + 3) lv (.int v :: st)) : GW κ nL n1 n2 (wM r g I A L) pc lv (.ref (r 0) :: st) := by
  subst hv
  exact g_get hk hin 0 rfl rfl 22 (by decide) hl rfl rfl hd kk
theorem pM_i15 (hk : GC κ l0 D0 zt cc nL own Ts tys rm) {v : Int32} {index : Nat} (hin : ∀ w ∈ u_ws RX12 TX12 55, w ∈ Ts) (hl : Cond.fieldLink own index "WarpDeskModel" "live" "I" ∈ Ts) (hd : decode cc pc = .ok (.putfield index, 3)) (kk : GW κ nL n1 n2 (wM r g (upd I 15 v) A L) (pc + 3) lv st) : GW κ nL n1 n2 (wM r g I A L) pc lv (.int v :: .ref (r 0) :: st) := g_put (ws' := (wM r g (upd I 15 v) A L)) (fs := [.int (I 0), .ref (r 1), .int (I 1), .ref (r 2), .int (I 2), .ref (r 3), .ref (r 4), .ref (r 5), .ref (r 6), .ref (r 7), .int (I 3), .int (I 4), .int (I 5), .int (I 6), .int (I 7), .int (I 8), .int (I 9), .int (I 10), .int (I 11), .int (I 12), .int (I 13), .int (I 14), .int (I 15), .int (I 16), .int (I 17), .ref (r 8), .ref (r 9), .ref (r 10), .ref (r 11), .ref (r 12), .ref (r 13), .ref (r 14), .ref (r 15), .ref (r 16), .ref (r 17), .ref (r 18), .ref (r 19), .int (I 18), .ref (r 20), .ref (r 21), .ref (r 22), .int (I 19), .int (I 20), .int (I 21), .int (I 22), .ref (r 23), .ref (r 24), .int (I 23), .ref (r 25), .ref (r 26), .int (I 24), .ref (r 27), .int (I 25), .ref (r 28), .ref (r 29)]) hk hin tyX12 tyX12_ok nmX12 0 rfl rfl 22 (by decide) hl rfl rfl rfl rfl (Nat.le_of_ble_eq_true rfl) rfl hd kk
theorem gM_i16 (hk : GC κ l0 D0 zt cc nL own Ts tys rm) {v : Int32} {index : Nat} (hin : ∀ w ∈ u_ws RX12 TX12 55, w ∈ Ts) (hl : Cond.fieldLink own index "WarpDeskModel" "side" "I" ∈ Ts) (hd : decode cc pc = .ok (.getfield index, 3)) (hv : I 16 = v) (kk : GW κ nL n1 n2 (wM r g I A L) (pc + 3) lv (.int v :: st)) : GW κ nL n1 n2 (wM r g I A L) pc lv (.ref (r 0) :: st) := by
  subst hv
  exact g_get hk hin 0 rfl rfl 23 (by decide) hl rfl rfl hd kk
theorem pM_i16 (hk : GC κ l0 D0 zt cc nL own Ts tys rm) {v : Int32} {index : Nat} (hin : ∀ w ∈ u_ws RX12 TX12 55, w ∈ Ts) (hl : Cond.fieldLink own index "WarpDeskModel" "side" "I" ∈ Ts) (hd : decode cc pc = .ok (.putfield index, 3)) (kk : GW κ nL n1 n2 (wM r g (upd I 16 v) A L) (pc + 3) lv st) : GW κ nL n1 n2 (wM r g I A L) pc lv (.int v :: .ref (r 0) :: st) := g_put (ws' := (wM r g (upd I 16 v) A L)) (fs := [.int (I 0), .ref (r 1), .int (I 1), .ref (r 2), .int (I 2), .ref (r 3), .ref (r 4), .ref (r 5), .ref (r 6), .ref (r 7), .int (I 3), .int (I 4), .int (I 5), .int (I 6), .int (I 7), .int (I 8), .int (I 9), .int (I 10), .int (I 11), .int (I 12), .int (I 13), .int (I 14), .int (I 15), .int (I 16), .int (I 17), .ref (r 8), .ref (r 9), .ref (r 10), .ref (r 11), .ref (r 12), .ref (r 13), .ref (r 14), .ref (r 15), .ref (r 16), .ref (r 17), .ref (r 18), .ref (r 19), .int (I 18), .ref (r 20), .ref (r 21), .ref (r 22), .int (I 19), .int (I 20), .int (I 21), .int (I 22), .ref (r 23), .ref (r 24), .int (I 23), .ref (r 25), .ref (r 26), .int (I 24), .ref (r 27), .int (I 25), .ref (r 28), .ref (r 29)]) hk hin tyX12 tyX12_ok nmX12 0 rfl rfl 23 (by decide) hl rfl rfl rfl rfl (Nat.le_of_ble_eq_true rfl) rfl hd kk
theorem gM_i17 (hk : GC κ l0 D0 zt cc nL own Ts tys rm) {v : Int32} {index : Nat} (hin : ∀ w ∈ u_ws RX12 TX12 55, w ∈ Ts) (hl : Cond.fieldLink own index "WarpDeskModel" "names" "I" ∈ Ts) (hd : decode cc pc = .ok (.getfield index, 3)) (hv : I 17 = v) (kk : GW κ nL n1 n2 (wM r g I A L) (pc + 3) lv (.int v :: st)) : GW κ nL n1 n2 (wM r g I A L) pc lv (.ref (r 0) :: st) := by
  subst hv
  exact g_get hk hin 0 rfl rfl 24 (by decide) hl rfl rfl hd kk
theorem pM_i17 (hk : GC κ l0 D0 zt cc nL own Ts tys rm) {v : Int32} {index : Nat} (hin : ∀ w ∈ u_ws RX12 TX12 55, w ∈ Ts) (hl : Cond.fieldLink own index "WarpDeskModel" "names" "I" ∈ Ts) (hd : decode cc pc = .ok (.putfield index, 3)) (kk : GW κ nL n1 n2 (wM r g (upd I 17 v) A L) (pc + 3) lv st) : GW κ nL n1 n2 (wM r g I A L) pc lv (.int v :: .ref (r 0) :: st) := g_put (ws' := (wM r g (upd I 17 v) A L)) (fs := [.int (I 0), .ref (r 1), .int (I 1), .ref (r 2), .int (I 2), .ref (r 3), .ref (r 4), .ref (r 5), .ref (r 6), .ref (r 7), .int (I 3), .int (I 4), .int (I 5), .int (I 6), .int (I 7), .int (I 8), .int (I 9), .int (I 10), .int (I 11), .int (I 12), .int (I 13), .int (I 14), .int (I 15), .int (I 16), .int (I 17), .ref (r 8), .ref (r 9), .ref (r 10), .ref (r 11), .ref (r 12), .ref (r 13), .ref (r 14), .ref (r 15), .ref (r 16), .ref (r 17), .ref (r 18), .ref (r 19), .int (I 18), .ref (r 20), .ref (r 21), .ref (r 22), .int (I 19), .int (I 20), .int (I 21), .int (I 22), .ref (r 23), .ref (r 24), .int (I 23), .ref (r 25), .ref (r 26), .int (I 24), .ref (r 27), .int (I 25), .ref (r 28), .ref (r 29)]) hk hin tyX12 tyX12_ok nmX12 0 rfl rfl 24 (by decide) hl rfl rfl rfl rfl (Nat.le_of_ble_eq_true rfl) rfl hd kk
theorem gM_r0_25 (hk : GC κ l0 D0 zt cc nL own Ts tys rm) {index : Nat} (hin : ∀ w ∈ u_ws RX12 TX12 55, w ∈ Ts) (hl : Cond.fieldLink own index "WarpDeskModel" "nameOf" "[J" ∈ Ts) (hd : decode cc pc = .ok (.getfield index, 3)) (kk : GW κ nL n1 n2 (wM r g I A L) (pc + 3) lv (.ref (r 8) :: st)) : GW κ nL n1 n2 (wM r g I A L) pc lv (.ref (r 0) :: st) := g_get hk hin 0 rfl rfl 25 (by decide) hl rfl rfl hd kk
theorem gM_r0_26 (hk : GC κ l0 D0 zt cc nL own Ts tys rm) {index : Nat} (hin : ∀ w ∈ u_ws RX12 TX12 55, w ∈ Ts) (hl : Cond.fieldLink own index "WarpDeskModel" "placesTold" "[I" ∈ Ts) (hd : decode cc pc = .ok (.getfield index, 3)) (kk : GW κ nL n1 n2 (wM r g I A L) (pc + 3) lv (.ref (r 9) :: st)) : GW κ nL n1 n2 (wM r g I A L) pc lv (.ref (r 0) :: st) := g_get hk hin 0 rfl rfl 26 (by decide) hl rfl rfl hd kk
theorem gM_r0_27 (hk : GC κ l0 D0 zt cc nL own Ts tys rm) {index : Nat} (hin : ∀ w ∈ u_ws RX12 TX12 55, w ∈ Ts) (hl : Cond.fieldLink own index "WarpDeskModel" "seriesTold" "[I" ∈ Ts) (hd : decode cc pc = .ok (.getfield index, 3)) (kk : GW κ nL n1 n2 (wM r g I A L) (pc + 3) lv (.ref (r 10) :: st)) : GW κ nL n1 n2 (wM r g I A L) pc lv (.ref (r 0) :: st) := g_get hk hin 0 rfl rfl 27 (by decide) hl rfl rfl hd kk
theorem gM_r0_28 (hk : GC κ l0 D0 zt cc nL own Ts tys rm) {index : Nat} (hin : ∀ w ∈ u_ws RX12 TX12 55, w ∈ Ts) (hl : Cond.fieldLink own index "WarpDeskModel" "queries" "[I" ∈ Ts) (hd : decode cc pc = .ok (.getfield index, 3)) (kk : GW κ nL n1 n2 (wM r g I A L) (pc + 3) lv (.ref (r 11) :: st)) : GW κ nL n1 n2 (wM r g I A L) pc lv (.ref (r 0) :: st) := g_get hk hin 0 rfl rfl 28 (by decide) hl rfl rfl hd kk
theorem gM_r0_29 (hk : GC κ l0 D0 zt cc nL own Ts tys rm) {index : Nat} (hin : ∀ w ∈ u_ws RX12 TX12 55, w ∈ Ts) (hl : Cond.fieldLink own index "WarpDeskModel" "queryMany" "[I" ∈ Ts) (hd : decode cc pc = .ok (.getfield index, 3)) (kk : GW κ nL n1 n2 (wM r g I A L) (pc + 3) lv (.ref (r 12) :: st)) : GW κ nL n1 n2 (wM r g I A L) pc lv (.ref (r 0) :: st) := g_get hk hin 0 rfl rfl 29 (by decide) hl rfl rfl hd kk
theorem gM_r0_30 (hk : GC κ l0 D0 zt cc nL own Ts tys rm) {index : Nat} (hin : ∀ w ∈ u_ws RX12 TX12 55, w ∈ Ts) (hl : Cond.fieldLink own index "WarpDeskModel" "queryAt" "[I" ∈ Ts) (hd : decode cc pc = .ok (.getfield index, 3)) (kk : GW κ nL n1 n2 (wM r g I A L) (pc + 3) lv (.ref (r 13) :: st)) : GW κ nL n1 n2 (wM r g I A L) pc lv (.ref (r 0) :: st) := g_get hk hin 0 rfl rfl 30 (by decide) hl rfl rfl hd kk
theorem gM_r0_31 (hk : GC κ l0 D0 zt cc nL own Ts tys rm) {index : Nat} (hin : ∀ w ∈ u_ws RX12 TX12 55, w ∈ Ts) (hl : Cond.fieldLink own index "WarpDeskModel" "bandTold" "[I" ∈ Ts) (hd : decode cc pc = .ok (.getfield index, 3)) (kk : GW κ nL n1 n2 (wM r g I A L) (pc + 3) lv (.ref (r 14) :: st)) : GW κ nL n1 n2 (wM r g I A L) pc lv (.ref (r 0) :: st) := g_get hk hin 0 rfl rfl 31 (by decide) hl rfl rfl hd kk
theorem gM_r0_32 (hk : GC κ l0 D0 zt cc nL own Ts tys rm) {index : Nat} (hin : ∀ w ∈ u_ws RX12 TX12 55, w ∈ Ts) (hl : Cond.fieldLink own index "WarpDeskModel" "levelTold" "[I" ∈ Ts) (hd : decode cc pc = .ok (.getfield index, 3)) (kk : GW κ nL n1 n2 (wM r g I A L) (pc + 3) lv (.ref (r 15) :: st)) : GW κ nL n1 n2 (wM r g I A L) pc lv (.ref (r 0) :: st) := g_get hk hin 0 rfl rfl 32 (by decide) hl rfl rfl hd kk
theorem gM_r0_33 (hk : GC κ l0 D0 zt cc nL own Ts tys rm) {index : Nat} (hin : ∀ w ∈ u_ws RX12 TX12 55, w ∈ Ts) (hl : Cond.fieldLink own index "WarpDeskModel" "costTold" "[I" ∈ Ts) (hd : decode cc pc = .ok (.getfield index, 3)) (kk : GW κ nL n1 n2 (wM r g I A L) (pc + 3) lv (.ref (r 16) :: st)) : GW κ nL n1 n2 (wM r g I A L) pc lv (.ref (r 0) :: st) := g_get hk hin 0 rfl rfl 33 (by decide) hl rfl rfl hd kk
theorem gM_r0_34 (hk : GC κ l0 D0 zt cc nL own Ts tys rm) {index : Nat} (hin : ∀ w ∈ u_ws RX12 TX12 55, w ∈ Ts) (hl : Cond.fieldLink own index "WarpDeskModel" "apartTold" "[I" ∈ Ts) (hd : decode cc pc = .ok (.getfield index, 3)) (kk : GW κ nL n1 n2 (wM r g I A L) (pc + 3) lv (.ref (r 17) :: st)) : GW κ nL n1 n2 (wM r g I A L) pc lv (.ref (r 0) :: st) := g_get hk hin 0 rfl rfl 34 (by decide) hl rfl rfl hd kk
theorem gM_r0_35 (hk : GC κ l0 D0 zt cc nL own Ts tys rm) {index : Nat} (hin : ∀ w ∈ u_ws RX12 TX12 55, w ∈ Ts) (hl : Cond.fieldLink own index "WarpDeskModel" "now" "[I" ∈ Ts) (hd : decode cc pc = .ok (.getfield index, 3)) (kk : GW κ nL n1 n2 (wM r g I A L) (pc + 3) lv (.ref (r 18) :: st)) : GW κ nL n1 n2 (wM r g I A L) pc lv (.ref (r 0) :: st) := g_get hk hin 0 rfl rfl 35 (by decide) hl rfl rfl hd kk
theorem gM_r0_36 (hk : GC κ l0 D0 zt cc nL own Ts tys rm) {index : Nat} (hin : ∀ w ∈ u_ws RX12 TX12 55, w ∈ Ts) (hl : Cond.fieldLink own index "WarpDeskModel" "row" "[I" ∈ Ts) (hd : decode cc pc = .ok (.getfield index, 3)) (kk : GW κ nL n1 n2 (wM r g I A L) (pc + 3) lv (.ref (r 19) :: st)) : GW κ nL n1 n2 (wM r g I A L) pc lv (.ref (r 0) :: st) := g_get hk hin 0 rfl rfl 36 (by decide) hl rfl rfl hd kk
theorem gM_i18 (hk : GC κ l0 D0 zt cc nL own Ts tys rm) {v : Int32} {index : Nat} (hin : ∀ w ∈ u_ws RX12 TX12 55, w ∈ Ts) (hl : Cond.fieldLink own index "WarpDeskModel" "wide" "I" ∈ Ts) (hd : decode cc pc = .ok (.getfield index, 3)) (hv : I 18 = v) (kk : GW κ nL n1 n2 (wM r g I A L) (pc + 3) lv (.int v :: st)) : GW κ nL n1 n2 (wM r g I A L) pc lv (.ref (r 0) :: st) := by
  subst hv
  exact g_get hk hin 0 rfl rfl 37 (by decide) hl rfl rfl hd kk
theorem pM_i18 (hk : GC κ l0 D0 zt cc nL own Ts tys rm) {v : Int32} {index : Nat} (hin : ∀ w ∈ u_ws RX12 TX12 55, w ∈ Ts) (hl : Cond.fieldLink own index "WarpDeskModel" "wide" "I" ∈ Ts) (hd : decode cc pc = .ok (.putfield index, 3)) (kk : GW κ nL n1 n2 (wM r g (upd I 18 v) A L) (pc + 3) lv st) : GW κ nL n1 n2 (wM r g I A L) pc lv (.int v :: .ref (r 0) :: st) := g_put (ws' := (wM r g (upd I 18 v) A L)) (fs := [.int (I 0), .ref (r 1), .int (I 1), .ref (r 2), .int (I 2), .ref (r 3), .ref (r 4), .ref (r 5), .ref (r 6), .ref (r 7), .int (I 3), .int (I 4), .int (I 5), .int (I 6), .int (I 7), .int (I 8), .int (I 9), .int (I 10), .int (I 11), .int (I 12), .int (I 13), .int (I 14), .int (I 15), .int (I 16), .int (I 17), .ref (r 8), .ref (r 9), .ref (r 10), .ref (r 11), .ref (r 12), .ref (r 13), .ref (r 14), .ref (r 15), .ref (r 16), .ref (r 17), .ref (r 18), .ref (r 19), .int (I 18), .ref (r 20), .ref (r 21), .ref (r 22), .int (I 19), .int (I 20), .int (I 21), .int (I 22), .ref (r 23), .ref (r 24), .int (I 23), .ref (r 25), .ref (r 26), .int (I 24), .ref (r 27), .int (I 25), .ref (r 28), .ref (r 29)]) hk hin tyX12 tyX12_ok nmX12 0 rfl rfl 37 (by decide) hl rfl rfl rfl rfl (Nat.le_of_ble_eq_true rfl) rfl hd kk
theorem gM_r0_38 (hk : GC κ l0 D0 zt cc nL own Ts tys rm) {index : Nat} (hin : ∀ w ∈ u_ws RX12 TX12 55, w ∈ Ts) (hl : Cond.fieldLink own index "WarpDeskModel" "firstAt" "[I" ∈ Ts) (hd : decode cc pc = .ok (.getfield index, 3)) (kk : GW κ nL n1 n2 (wM r g I A L) (pc + 3) lv (.ref (r 20) :: st)) : GW κ nL n1 n2 (wM r g I A L) pc lv (.ref (r 0) :: st) := g_get hk hin 0 rfl rfl 38 (by decide) hl rfl rfl hd kk
theorem gM_r0_39 (hk : GC κ l0 D0 zt cc nL own Ts tys rm) {index : Nat} (hin : ∀ w ∈ u_ws RX12 TX12 55, w ∈ Ts) (hl : Cond.fieldLink own index "WarpDeskModel" "otherAt" "[I" ∈ Ts) (hd : decode cc pc = .ok (.getfield index, 3)) (kk : GW κ nL n1 n2 (wM r g I A L) (pc + 3) lv (.ref (r 21) :: st)) : GW κ nL n1 n2 (wM r g I A L) pc lv (.ref (r 0) :: st) := g_get hk hin 0 rfl rfl 39 (by decide) hl rfl rfl hd kk
theorem gM_r0_40 (hk : GC κ l0 D0 zt cc nL own Ts tys rm) {index : Nat} (hin : ∀ w ∈ u_ws RX12 TX12 55, w ∈ Ts) (hl : Cond.fieldLink own index "WarpDeskModel" "tableAt" "[I" ∈ Ts) (hd : decode cc pc = .ok (.getfield index, 3)) (kk : GW κ nL n1 n2 (wM r g I A L) (pc + 3) lv (.ref (r 22) :: st)) : GW κ nL n1 n2 (wM r g I A L) pc lv (.ref (r 0) :: st) := g_get hk hin 0 rfl rfl 40 (by decide) hl rfl rfl hd kk
theorem gM_i19 (hk : GC κ l0 D0 zt cc nL own Ts tys rm) {v : Int32} {index : Nat} (hin : ∀ w ∈ u_ws RX12 TX12 55, w ∈ Ts) (hl : Cond.fieldLink own index "WarpDeskModel" "laid" "I" ∈ Ts) (hd : decode cc pc = .ok (.getfield index, 3)) (hv : I 19 = v) (kk : GW κ nL n1 n2 (wM r g I A L) (pc + 3) lv (.int v :: st)) : GW κ nL n1 n2 (wM r g I A L) pc lv (.ref (r 0) :: st) := by
  subst hv
  exact g_get hk hin 0 rfl rfl 41 (by decide) hl rfl rfl hd kk
theorem pM_i19 (hk : GC κ l0 D0 zt cc nL own Ts tys rm) {v : Int32} {index : Nat} (hin : ∀ w ∈ u_ws RX12 TX12 55, w ∈ Ts) (hl : Cond.fieldLink own index "WarpDeskModel" "laid" "I" ∈ Ts) (hd : decode cc pc = .ok (.putfield index, 3)) (kk : GW κ nL n1 n2 (wM r g (upd I 19 v) A L) (pc + 3) lv st) : GW κ nL n1 n2 (wM r g I A L) pc lv (.int v :: .ref (r 0) :: st) := g_put (ws' := (wM r g (upd I 19 v) A L)) (fs := [.int (I 0), .ref (r 1), .int (I 1), .ref (r 2), .int (I 2), .ref (r 3), .ref (r 4), .ref (r 5), .ref (r 6), .ref (r 7), .int (I 3), .int (I 4), .int (I 5), .int (I 6), .int (I 7), .int (I 8), .int (I 9), .int (I 10), .int (I 11), .int (I 12), .int (I 13), .int (I 14), .int (I 15), .int (I 16), .int (I 17), .ref (r 8), .ref (r 9), .ref (r 10), .ref (r 11), .ref (r 12), .ref (r 13), .ref (r 14), .ref (r 15), .ref (r 16), .ref (r 17), .ref (r 18), .ref (r 19), .int (I 18), .ref (r 20), .ref (r 21), .ref (r 22), .int (I 19), .int (I 20), .int (I 21), .int (I 22), .ref (r 23), .ref (r 24), .int (I 23), .ref (r 25), .ref (r 26), .int (I 24), .ref (r 27), .int (I 25), .ref (r 28), .ref (r 29)]) hk hin tyX12 tyX12_ok nmX12 0 rfl rfl 41 (by decide) hl rfl rfl rfl rfl (Nat.le_of_ble_eq_true rfl) rfl hd kk
theorem gM_i20 (hk : GC κ l0 D0 zt cc nL own Ts tys rm) {v : Int32} {index : Nat} (hin : ∀ w ∈ u_ws RX12 TX12 55, w ∈ Ts) (hl : Cond.fieldLink own index "WarpDeskModel" "brokeAt" "I" ∈ Ts) (hd : decode cc pc = .ok (.getfield index, 3)) (hv : I 20 = v) (kk : GW κ nL n1 n2 (wM r g I A L) (pc + 3) lv (.int v :: st)) : GW κ nL n1 n2 (wM r g I A L) pc lv (.ref (r 0) :: st) := by
  subst hv
  exact g_get hk hin 0 rfl rfl 42 (by decide) hl rfl rfl hd kk
theorem pM_i20 (hk : GC κ l0 D0 zt cc nL own Ts tys rm) {v : Int32} {index : Nat} (hin : ∀ w ∈ u_ws RX12 TX12 55, w ∈ Ts) (hl : Cond.fieldLink own index "WarpDeskModel" "brokeAt" "I" ∈ Ts) (hd : decode cc pc = .ok (.putfield index, 3)) (kk : GW κ nL n1 n2 (wM r g (upd I 20 v) A L) (pc + 3) lv st) : GW κ nL n1 n2 (wM r g I A L) pc lv (.int v :: .ref (r 0) :: st) := g_put (ws' := (wM r g (upd I 20 v) A L)) (fs := [.int (I 0), .ref (r 1), .int (I 1), .ref (r 2), .int (I 2), .ref (r 3), .ref (r 4), .ref (r 5), .ref (r 6), .ref (r 7), .int (I 3), .int (I 4), .int (I 5), .int (I 6), .int (I 7), .int (I 8), .int (I 9), .int (I 10), .int (I 11), .int (I 12), .int (I 13), .int (I 14), .int (I 15), .int (I 16), .int (I 17), .ref (r 8), .ref (r 9), .ref (r 10), .ref (r 11), .ref (r 12), .ref (r 13), .ref (r 14), .ref (r 15), .ref (r 16), .ref (r 17), .ref (r 18), .ref (r 19), .int (I 18), .ref (r 20), .ref (r 21), .ref (r 22), .int (I 19), .int (I 20), .int (I 21), .int (I 22), .ref (r 23), .ref (r 24), .int (I 23), .ref (r 25), .ref (r 26), .int (I 24), .ref (r 27), .int (I 25), .ref (r 28), .ref (r 29)]) hk hin tyX12 tyX12_ok nmX12 0 rfl rfl 42 (by decide) hl rfl rfl rfl rfl (Nat.le_of_ble_eq_true rfl) rfl hd kk
theorem gM_i21 (hk : GC κ l0 D0 zt cc nL own Ts tys rm) {v : Int32} {index : Nat} (hin : ∀ w ∈ u_ws RX12 TX12 55, w ∈ Ts) (hl : Cond.fieldLink own index "WarpDeskModel" "looksAt" "I" ∈ Ts) (hd : decode cc pc = .ok (.getfield index, 3)) (hv : I 21 = v) (kk : GW κ nL n1 n2 (wM r g I A L) (pc + 3) lv (.int v :: st)) : GW κ nL n1 n2 (wM r g I A L) pc lv (.ref (r 0) :: st) := by
  subst hv
  exact g_get hk hin 0 rfl rfl 43 (by decide) hl rfl rfl hd kk
theorem pM_i21 (hk : GC κ l0 D0 zt cc nL own Ts tys rm) {v : Int32} {index : Nat} (hin : ∀ w ∈ u_ws RX12 TX12 55, w ∈ Ts) (hl : Cond.fieldLink own index "WarpDeskModel" "looksAt" "I" ∈ Ts) (hd : decode cc pc = .ok (.putfield index, 3)) (kk : GW κ nL n1 n2 (wM r g (upd I 21 v) A L) (pc + 3) lv st) : GW κ nL n1 n2 (wM r g I A L) pc lv (.int v :: .ref (r 0) :: st) := g_put (ws' := (wM r g (upd I 21 v) A L)) (fs := [.int (I 0), .ref (r 1), .int (I 1), .ref (r 2), .int (I 2), .ref (r 3), .ref (r 4), .ref (r 5), .ref (r 6), .ref (r 7), .int (I 3), .int (I 4), .int (I 5), .int (I 6), .int (I 7), .int (I 8), .int (I 9), .int (I 10), .int (I 11), .int (I 12), .int (I 13), .int (I 14), .int (I 15), .int (I 16), .int (I 17), .ref (r 8), .ref (r 9), .ref (r 10), .ref (r 11), .ref (r 12), .ref (r 13), .ref (r 14), .ref (r 15), .ref (r 16), .ref (r 17), .ref (r 18), .ref (r 19), .int (I 18), .ref (r 20), .ref (r 21), .ref (r 22), .int (I 19), .int (I 20), .int (I 21), .int (I 22), .ref (r 23), .ref (r 24), .int (I 23), .ref (r 25), .ref (r 26), .int (I 24), .ref (r 27), .int (I 25), .ref (r 28), .ref (r 29)]) hk hin tyX12 tyX12_ok nmX12 0 rfl rfl 43 (by decide) hl rfl rfl rfl rfl (Nat.le_of_ble_eq_true rfl) rfl hd kk
theorem gM_i22 (hk : GC κ l0 D0 zt cc nL own Ts tys rm) {v : Int32} {index : Nat} (hin : ∀ w ∈ u_ws RX12 TX12 55, w ∈ Ts) (hl : Cond.fieldLink own index "WarpDeskModel" "undos" "I" ∈ Ts) (hd : decode cc pc = .ok (.getfield index, 3)) (hv : I 22 = v) (kk : GW κ nL n1 n2 (wM r g I A L) (pc + 3) lv (.int v :: st)) : GW κ nL n1 n2 (wM r g I A L) pc lv (.ref (r 0) :: st) := by
  subst hv
  exact g_get hk hin 0 rfl rfl 44 (by decide) hl rfl rfl hd kk
theorem pM_i22 (hk : GC κ l0 D0 zt cc nL own Ts tys rm) {v : Int32} {index : Nat} (hin : ∀ w ∈ u_ws RX12 TX12 55, w ∈ Ts) (hl : Cond.fieldLink own index "WarpDeskModel" "undos" "I" ∈ Ts) (hd : decode cc pc = .ok (.putfield index, 3)) (kk : GW κ nL n1 n2 (wM r g (upd I 22 v) A L) (pc + 3) lv st) : GW κ nL n1 n2 (wM r g I A L) pc lv (.int v :: .ref (r 0) :: st) := g_put (ws' := (wM r g (upd I 22 v) A L)) (fs := [.int (I 0), .ref (r 1), .int (I 1), .ref (r 2), .int (I 2), .ref (r 3), .ref (r 4), .ref (r 5), .ref (r 6), .ref (r 7), .int (I 3), .int (I 4), .int (I 5), .int (I 6), .int (I 7), .int (I 8), .int (I 9), .int (I 10), .int (I 11), .int (I 12), .int (I 13), .int (I 14), .int (I 15), .int (I 16), .int (I 17), .ref (r 8), .ref (r 9), .ref (r 10), .ref (r 11), .ref (r 12), .ref (r 13), .ref (r 14), .ref (r 15), .ref (r 16), .ref (r 17), .ref (r 18), .ref (r 19), .int (I 18), .ref (r 20), .ref (r 21), .ref (r 22), .int (I 19), .int (I 20), .int (I 21), .int (I 22), .ref (r 23), .ref (r 24), .int (I 23), .ref (r 25), .ref (r 26), .int (I 24), .ref (r 27), .int (I 25), .ref (r 28), .ref (r 29)]) hk hin tyX12 tyX12_ok nmX12 0 rfl rfl 44 (by decide) hl rfl rfl rfl rfl (Nat.le_of_ble_eq_true rfl) rfl hd kk
theorem gM_r0_45 (hk : GC κ l0 D0 zt cc nL own Ts tys rm) {index : Nat} (hin : ∀ w ∈ u_ws RX12 TX12 55, w ∈ Ts) (hl : Cond.fieldLink own index "WarpDeskModel" "history" "[I" ∈ Ts) (hd : decode cc pc = .ok (.getfield index, 3)) (kk : GW κ nL n1 n2 (wM r g I A L) (pc + 3) lv (.ref (r 23) :: st)) : GW κ nL n1 n2 (wM r g I A L) pc lv (.ref (r 0) :: st) := g_get hk hin 0 rfl rfl 45 (by decide) hl rfl rfl hd kk
theorem gM_r0_46 (hk : GC κ l0 D0 zt cc nL own Ts tys rm) {index : Nat} (hin : ∀ w ∈ u_ws RX12 TX12 55, w ∈ Ts) (hl : Cond.fieldLink own index "WarpDeskModel" "wayAt" "[I" ∈ Ts) (hd : decode cc pc = .ok (.getfield index, 3)) (kk : GW κ nL n1 n2 (wM r g I A L) (pc + 3) lv (.ref (r 24) :: st)) : GW κ nL n1 n2 (wM r g I A L) pc lv (.ref (r 0) :: st) := g_get hk hin 0 rfl rfl 46 (by decide) hl rfl rfl hd kk
theorem gM_i23 (hk : GC κ l0 D0 zt cc nL own Ts tys rm) {v : Int32} {index : Nat} (hin : ∀ w ∈ u_ws RX12 TX12 55, w ∈ Ts) (hl : Cond.fieldLink own index "WarpDeskModel" "wayMany" "I" ∈ Ts) (hd : decode cc pc = .ok (.getfield index, 3)) (hv : I 23 = v) (kk : GW κ nL n1 n2 (wM r g I A L) (pc + 3) lv (.int v :: st)) : GW κ nL n1 n2 (wM r g I A L) pc lv (.ref (r 0) :: st) := by
  subst hv
  exact g_get hk hin 0 rfl rfl 47 (by decide) hl rfl rfl hd kk
theorem pM_i23 (hk : GC κ l0 D0 zt cc nL own Ts tys rm) {v : Int32} {index : Nat} (hin : ∀ w ∈ u_ws RX12 TX12 55, w ∈ Ts) (hl : Cond.fieldLink own index "WarpDeskModel" "wayMany" "I" ∈ Ts) (hd : decode cc pc = .ok (.putfield index, 3)) (kk : GW κ nL n1 n2 (wM r g (upd I 23 v) A L) (pc + 3) lv st) : GW κ nL n1 n2 (wM r g I A L) pc lv (.int v :: .ref (r 0) :: st) := g_put (ws' := (wM r g (upd I 23 v) A L)) (fs := [.int (I 0), .ref (r 1), .int (I 1), .ref (r 2), .int (I 2), .ref (r 3), .ref (r 4), .ref (r 5), .ref (r 6), .ref (r 7), .int (I 3), .int (I 4), .int (I 5), .int (I 6), .int (I 7), .int (I 8), .int (I 9), .int (I 10), .int (I 11), .int (I 12), .int (I 13), .int (I 14), .int (I 15), .int (I 16), .int (I 17), .ref (r 8), .ref (r 9), .ref (r 10), .ref (r 11), .ref (r 12), .ref (r 13), .ref (r 14), .ref (r 15), .ref (r 16), .ref (r 17), .ref (r 18), .ref (r 19), .int (I 18), .ref (r 20), .ref (r 21), .ref (r 22), .int (I 19), .int (I 20), .int (I 21), .int (I 22), .ref (r 23), .ref (r 24), .int (I 23), .ref (r 25), .ref (r 26), .int (I 24), .ref (r 27), .int (I 25), .ref (r 28), .ref (r 29)]) hk hin tyX12 tyX12_ok nmX12 0 rfl rfl 47 (by decide) hl rfl rfl rfl rfl (Nat.le_of_ble_eq_true rfl) rfl hd kk
theorem gM_r0_48 (hk : GC κ l0 D0 zt cc nL own Ts tys rm) {index : Nat} (hin : ∀ w ∈ u_ws RX12 TX12 55, w ∈ Ts) (hl : Cond.fieldLink own index "WarpDeskModel" "farBy" "[I" ∈ Ts) (hd : decode cc pc = .ok (.getfield index, 3)) (kk : GW κ nL n1 n2 (wM r g I A L) (pc + 3) lv (.ref (r 25) :: st)) : GW κ nL n1 n2 (wM r g I A L) pc lv (.ref (r 0) :: st) := g_get hk hin 0 rfl rfl 48 (by decide) hl rfl rfl hd kk
theorem gM_r0_49 (hk : GC κ l0 D0 zt cc nL own Ts tys rm) {index : Nat} (hin : ∀ w ∈ u_ws RX12 TX12 55, w ∈ Ts) (hl : Cond.fieldLink own index "WarpDeskModel" "searchBy" "[I" ∈ Ts) (hd : decode cc pc = .ok (.getfield index, 3)) (kk : GW κ nL n1 n2 (wM r g I A L) (pc + 3) lv (.ref (r 26) :: st)) : GW κ nL n1 n2 (wM r g I A L) pc lv (.ref (r 0) :: st) := g_get hk hin 0 rfl rfl 49 (by decide) hl rfl rfl hd kk
theorem gM_i24 (hk : GC κ l0 D0 zt cc nL own Ts tys rm) {v : Int32} {index : Nat} (hin : ∀ w ∈ u_ws RX12 TX12 55, w ∈ Ts) (hl : Cond.fieldLink own index "WarpDeskModel" "matchMany" "I" ∈ Ts) (hd : decode cc pc = .ok (.getfield index, 3)) (hv : I 24 = v) (kk : GW κ nL n1 n2 (wM r g I A L) (pc + 3) lv (.int v :: st)) : GW κ nL n1 n2 (wM r g I A L) pc lv (.ref (r 0) :: st) := by
  subst hv
  exact g_get hk hin 0 rfl rfl 50 (by decide) hl rfl rfl hd kk
theorem pM_i24 (hk : GC κ l0 D0 zt cc nL own Ts tys rm) {v : Int32} {index : Nat} (hin : ∀ w ∈ u_ws RX12 TX12 55, w ∈ Ts) (hl : Cond.fieldLink own index "WarpDeskModel" "matchMany" "I" ∈ Ts) (hd : decode cc pc = .ok (.putfield index, 3)) (kk : GW κ nL n1 n2 (wM r g (upd I 24 v) A L) (pc + 3) lv st) : GW κ nL n1 n2 (wM r g I A L) pc lv (.int v :: .ref (r 0) :: st) := g_put (ws' := (wM r g (upd I 24 v) A L)) (fs := [.int (I 0), .ref (r 1), .int (I 1), .ref (r 2), .int (I 2), .ref (r 3), .ref (r 4), .ref (r 5), .ref (r 6), .ref (r 7), .int (I 3), .int (I 4), .int (I 5), .int (I 6), .int (I 7), .int (I 8), .int (I 9), .int (I 10), .int (I 11), .int (I 12), .int (I 13), .int (I 14), .int (I 15), .int (I 16), .int (I 17), .ref (r 8), .ref (r 9), .ref (r 10), .ref (r 11), .ref (r 12), .ref (r 13), .ref (r 14), .ref (r 15), .ref (r 16), .ref (r 17), .ref (r 18), .ref (r 19), .int (I 18), .ref (r 20), .ref (r 21), .ref (r 22), .int (I 19), .int (I 20), .int (I 21), .int (I 22), .ref (r 23), .ref (r 24), .int (I 23), .ref (r 25), .ref (r 26), .int (I 24), .ref (r 27), .int (I 25), .ref (r 28), .ref (r 29)]) hk hin tyX12 tyX12_ok nmX12 0 rfl rfl 50 (by decide) hl rfl rfl rfl rfl (Nat.le_of_ble_eq_true rfl) rfl hd kk
theorem gM_r0_51 (hk : GC κ l0 D0 zt cc nL own Ts tys rm) {index : Nat} (hin : ∀ w ∈ u_ws RX12 TX12 55, w ∈ Ts) (hl : Cond.fieldLink own index "WarpDeskModel" "matchAt" "[I" ∈ Ts) (hd : decode cc pc = .ok (.getfield index, 3)) (kk : GW κ nL n1 n2 (wM r g I A L) (pc + 3) lv (.ref (r 27) :: st)) : GW κ nL n1 n2 (wM r g I A L) pc lv (.ref (r 0) :: st) := g_get hk hin 0 rfl rfl 51 (by decide) hl rfl rfl hd kk
theorem gM_i25 (hk : GC κ l0 D0 zt cc nL own Ts tys rm) {v : Int32} {index : Nat} (hin : ∀ w ∈ u_ws RX12 TX12 55, w ∈ Ts) (hl : Cond.fieldLink own index "WarpDeskModel" "nearFar" "I" ∈ Ts) (hd : decode cc pc = .ok (.getfield index, 3)) (hv : I 25 = v) (kk : GW κ nL n1 n2 (wM r g I A L) (pc + 3) lv (.int v :: st)) : GW κ nL n1 n2 (wM r g I A L) pc lv (.ref (r 0) :: st) := by
  subst hv
  exact g_get hk hin 0 rfl rfl 52 (by decide) hl rfl rfl hd kk
theorem pM_i25 (hk : GC κ l0 D0 zt cc nL own Ts tys rm) {v : Int32} {index : Nat} (hin : ∀ w ∈ u_ws RX12 TX12 55, w ∈ Ts) (hl : Cond.fieldLink own index "WarpDeskModel" "nearFar" "I" ∈ Ts) (hd : decode cc pc = .ok (.putfield index, 3)) (kk : GW κ nL n1 n2 (wM r g (upd I 25 v) A L) (pc + 3) lv st) : GW κ nL n1 n2 (wM r g I A L) pc lv (.int v :: .ref (r 0) :: st) := g_put (ws' := (wM r g (upd I 25 v) A L)) (fs := [.int (I 0), .ref (r 1), .int (I 1), .ref (r 2), .int (I 2), .ref (r 3), .ref (r 4), .ref (r 5), .ref (r 6), .ref (r 7), .int (I 3), .int (I 4), .int (I 5), .int (I 6), .int (I 7), .int (I 8), .int (I 9), .int (I 10), .int (I 11), .int (I 12), .int (I 13), .int (I 14), .int (I 15), .int (I 16), .int (I 17), .ref (r 8), .ref (r 9), .ref (r 10), .ref (r 11), .ref (r 12), .ref (r 13), .ref (r 14), .ref (r 15), .ref (r 16), .ref (r 17), .ref (r 18), .ref (r 19), .int (I 18), .ref (r 20), .ref (r 21), .ref (r 22), .int (I 19), .int (I 20), .int (I 21), .int (I 22), .ref (r 23), .ref (r 24), .int (I 23), .ref (r 25), .ref (r 26), .int (I 24), .ref (r 27), .int (I 25), .ref (r 28), .ref (r 29)]) hk hin tyX12 tyX12_ok nmX12 0 rfl rfl 52 (by decide) hl rfl rfl rfl rfl (Nat.le_of_ble_eq_true rfl) rfl hd kk
theorem gM_r0_53 (hk : GC κ l0 D0 zt cc nL own Ts tys rm) {index : Nat} (hin : ∀ w ∈ u_ws RX12 TX12 55, w ∈ Ts) (hl : Cond.fieldLink own index "WarpDeskModel" "isHeld" "[Z" ∈ Ts) (hd : decode cc pc = .ok (.getfield index, 3)) (kk : GW κ nL n1 n2 (wM r g I A L) (pc + 3) lv (.ref (r 28) :: st)) : GW κ nL n1 n2 (wM r g I A L) pc lv (.ref (r 0) :: st) := g_get hk hin 0 rfl rfl 53 (by decide) hl rfl rfl hd kk
theorem gM_r0_54 (hk : GC κ l0 D0 zt cc nL own Ts tys rm) {index : Nat} (hin : ∀ w ∈ u_ws RX12 TX12 55, w ∈ Ts) (hl : Cond.fieldLink own index "WarpDeskModel" "heldRows" "[I" ∈ Ts) (hd : decode cc pc = .ok (.getfield index, 3)) (kk : GW κ nL n1 n2 (wM r g I A L) (pc + 3) lv (.ref (r 29) :: st)) : GW κ nL n1 n2 (wM r g I A L) pc lv (.ref (r 0) :: st) := g_get hk hin 0 rfl rfl 54 (by decide) hl rfl rfl hd kk
theorem lM_0 (hk : GC κ l0 D0 zt cc nL own Ts (tyM g) rm) {i v : Int32} (hin : vp_in i 2000) (hv : A 0 i.toNatClampNeg = v) (hd : decode cc pc = .ok (.baload, 1)) (kk : GW κ nL n1 n2 (wM r g I A L) (pc + 1) lv (.int v :: st)) : GW κ nL n1 n2 (wM r g I A L) pc lv (.int i :: .ref (r 1) :: st) := g_bald hk 1 0 rfl rfl hin hv hd kk
theorem sM_0 (hk : GC κ l0 D0 zt cc nL own Ts (tyM g) rm) {i x y : Int32} {j : Nat} (hin : vp_in i 2000) (hj : i.toNatClampNeg = j) (hx : vp_nar .byte x = y) (hd : decode cc pc = .ok (.bastore, 1)) (kk : GW κ nL n1 n2 (wM r g I (up3 A 0 j y) L) (pc + 1) lv st) : GW κ nL n1 n2 (wM r g I A L) pc lv (.int x :: .int i :: .ref (r 1) :: st) := g_bast hk 1 0 rfl rfl hin hj hx rfl hd kk
theorem nM_0 (hk : GC κ l0 D0 zt cc nL own Ts (tyM g) rm) (hd : decode cc pc = .ok (.arraylength, 1)) (kk : GW κ nL n1 n2 (wM r g I A L) (pc + 1) lv (.int 2000 :: st)) : GW κ nL n1 n2 (wM r g I A L) pc lv (.ref (r 1) :: st) := g_alen hk 1 0 rfl rfl rfl hd kk
theorem lM_1 (hk : GC κ l0 D0 zt cc nL own Ts (tyM g) rm) {i v : Int32} (hin : vp_in i 2000) (hv : A 1 i.toNatClampNeg = v) (hd : decode cc pc = .ok (.baload, 1)) (kk : GW κ nL n1 n2 (wM r g I A L) (pc + 1) lv (.int v :: st)) : GW κ nL n1 n2 (wM r g I A L) pc lv (.int i :: .ref (r 2) :: st) := g_bald hk 2 1 rfl rfl hin hv hd kk
theorem sM_1 (hk : GC κ l0 D0 zt cc nL own Ts (tyM g) rm) {i x y : Int32} {j : Nat} (hin : vp_in i 2000) (hj : i.toNatClampNeg = j) (hx : vp_nar .byte x = y) (hd : decode cc pc = .ok (.bastore, 1)) (kk : GW κ nL n1 n2 (wM r g I (up3 A 1 j y) L) (pc + 1) lv st) : GW κ nL n1 n2 (wM r g I A L) pc lv (.int x :: .int i :: .ref (r 2) :: st) := g_bast hk 2 1 rfl rfl hin hj hx rfl hd kk
theorem nM_1 (hk : GC κ l0 D0 zt cc nL own Ts (tyM g) rm) (hd : decode cc pc = .ok (.arraylength, 1)) (kk : GW κ nL n1 n2 (wM r g I A L) (pc + 1) lv (.int 2000 :: st)) : GW κ nL n1 n2 (wM r g I A L) pc lv (.ref (r 2) :: st) := g_alen hk 2 1 rfl rfl rfl hd kk
theorem lM_2 (hk : GC κ l0 D0 zt cc nL own Ts (tyM g) rm) {i v : Int32} (hin : vp_in i 403) (hv : A 2 i.toNatClampNeg = v) (hd : decode cc pc = .ok (.iaload, 1)) (kk : GW κ nL n1 n2 (wM r g I A L) (pc + 1) lv (.int v :: st)) : GW κ nL n1 n2 (wM r g I A L) pc lv (.int i :: .ref (r 3) :: st) := g_iald hk 3 2 rfl rfl hin hv hd kk
theorem sM_2 (hk : GC κ l0 D0 zt cc nL own Ts (tyM g) rm) {i x : Int32} {j : Nat} (hin : vp_in i 403) (hj : i.toNatClampNeg = j) (hd : decode cc pc = .ok (.iastore, 1)) (kk : GW κ nL n1 n2 (wM r g I (up3 A 2 j x) L) (pc + 1) lv st) : GW κ nL n1 n2 (wM r g I A L) pc lv (.int x :: .int i :: .ref (r 3) :: st) := g_iast hk 3 2 rfl rfl hin hj rfl hd kk
theorem nM_2 (hk : GC κ l0 D0 zt cc nL own Ts (tyM g) rm) (hd : decode cc pc = .ok (.arraylength, 1)) (kk : GW κ nL n1 n2 (wM r g I A L) (pc + 1) lv (.int 403 :: st)) : GW κ nL n1 n2 (wM r g I A L) pc lv (.ref (r 3) :: st) := g_alen hk 3 2 rfl rfl rfl hd kk
theorem lM_3 (hk : GC κ l0 D0 zt cc nL own Ts (tyM g) rm) {i v : Int32} (hin : vp_in i 403) (hv : A 3 i.toNatClampNeg = v) (hd : decode cc pc = .ok (.iaload, 1)) (kk : GW κ nL n1 n2 (wM r g I A L) (pc + 1) lv (.int v :: st)) : GW κ nL n1 n2 (wM r g I A L) pc lv (.int i :: .ref (r 4) :: st) := g_iald hk 4 3 rfl rfl hin hv hd kk
theorem sM_3 (hk : GC κ l0 D0 zt cc nL own Ts (tyM g) rm) {i x : Int32} {j : Nat} (hin : vp_in i 403) (hj : i.toNatClampNeg = j) (hd : decode cc pc = .ok (.iastore, 1)) (kk : GW κ nL n1 n2 (wM r g I (up3 A 3 j x) L) (pc + 1) lv st) : GW κ nL n1 n2 (wM r g I A L) pc lv (.int x :: .int i :: .ref (r 4) :: st) := g_iast hk 4 3 rfl rfl hin hj rfl hd kk
theorem nM_3 (hk : GC κ l0 D0 zt cc nL own Ts (tyM g) rm) (hd : decode cc pc = .ok (.arraylength, 1)) (kk : GW κ nL n1 n2 (wM r g I A L) (pc + 1) lv (.int 403 :: st)) : GW κ nL n1 n2 (wM r g I A L) pc lv (.ref (r 4) :: st) := g_alen hk 4 3 rfl rfl rfl hd kk
theorem lM_4 (hk : GC κ l0 D0 zt cc nL own Ts (tyM g) rm) {i v : Int32} (hin : vp_in i 403) (hv : A 4 i.toNatClampNeg = v) (hd : decode cc pc = .ok (.iaload, 1)) (kk : GW κ nL n1 n2 (wM r g I A L) (pc + 1) lv (.int v :: st)) : GW κ nL n1 n2 (wM r g I A L) pc lv (.int i :: .ref (r 5) :: st) := g_iald hk 5 4 rfl rfl hin hv hd kk
theorem sM_4 (hk : GC κ l0 D0 zt cc nL own Ts (tyM g) rm) {i x : Int32} {j : Nat} (hin : vp_in i 403) (hj : i.toNatClampNeg = j) (hd : decode cc pc = .ok (.iastore, 1)) (kk : GW κ nL n1 n2 (wM r g I (up3 A 4 j x) L) (pc + 1) lv st) : GW κ nL n1 n2 (wM r g I A L) pc lv (.int x :: .int i :: .ref (r 5) :: st) := g_iast hk 5 4 rfl rfl hin hj rfl hd kk
theorem nM_4 (hk : GC κ l0 D0 zt cc nL own Ts (tyM g) rm) (hd : decode cc pc = .ok (.arraylength, 1)) (kk : GW κ nL n1 n2 (wM r g I A L) (pc + 1) lv (.int 403 :: st)) : GW κ nL n1 n2 (wM r g I A L) pc lv (.ref (r 5) :: st) := g_alen hk 5 4 rfl rfl rfl hd kk
theorem lM_5 (hk : GC κ l0 D0 zt cc nL own Ts (tyM g) rm) {i : Int32} {v : Int64} (hin : vp_in i 403) (hv : L 5 i.toNatClampNeg = v) (hd : decode cc pc = .ok (.laload, 1)) (kk : GW κ nL n1 n2 (wM r g I A L) (pc + 1) lv (.long v :: st)) : GW κ nL n1 n2 (wM r g I A L) pc lv (.int i :: .ref (r 6) :: st) := g_lald hk 6 5 rfl rfl hin hv hd kk
theorem sM_5 (hk : GC κ l0 D0 zt cc nL own Ts (tyM g) rm) {i : Int32} {x : Int64} {j : Nat} (hin : vp_in i 403) (hj : i.toNatClampNeg = j) (hd : decode cc pc = .ok (.lastore, 1)) (kk : GW κ nL n1 n2 (wM r g I A (up3L L 5 j x)) (pc + 1) lv st) : GW κ nL n1 n2 (wM r g I A L) pc lv (.long x :: .int i :: .ref (r 6) :: st) := g_last hk 6 5 rfl rfl hin hj rfl hd kk
theorem nM_5 (hk : GC κ l0 D0 zt cc nL own Ts (tyM g) rm) (hd : decode cc pc = .ok (.arraylength, 1)) (kk : GW κ nL n1 n2 (wM r g I A L) (pc + 1) lv (.int 403 :: st)) : GW κ nL n1 n2 (wM r g I A L) pc lv (.ref (r 6) :: st) := g_alen hk 6 5 rfl rfl rfl hd kk
theorem lM_6 (hk : GC κ l0 D0 zt cc nL own Ts (tyM g) rm) {i : Int32} {v : Int64} (hin : vp_in i 13) (hv : L 6 i.toNatClampNeg = v) (hd : decode cc pc = .ok (.laload, 1)) (kk : GW κ nL n1 n2 (wM r g I A L) (pc + 1) lv (.long v :: st)) : GW κ nL n1 n2 (wM r g I A L) pc lv (.int i :: .ref (r 7) :: st) := g_lald hk 7 6 rfl rfl hin hv hd kk
theorem sM_6 (hk : GC κ l0 D0 zt cc nL own Ts (tyM g) rm) {i : Int32} {x : Int64} {j : Nat} (hin : vp_in i 13) (hj : i.toNatClampNeg = j) (hd : decode cc pc = .ok (.lastore, 1)) (kk : GW κ nL n1 n2 (wM r g I A (up3L L 6 j x)) (pc + 1) lv st) : GW κ nL n1 n2 (wM r g I A L) pc lv (.long x :: .int i :: .ref (r 7) :: st) := g_last hk 7 6 rfl rfl hin hj rfl hd kk
theorem nM_6 (hk : GC κ l0 D0 zt cc nL own Ts (tyM g) rm) (hd : decode cc pc = .ok (.arraylength, 1)) (kk : GW κ nL n1 n2 (wM r g I A L) (pc + 1) lv (.int 13 :: st)) : GW κ nL n1 n2 (wM r g I A L) pc lv (.ref (r 7) :: st) := g_alen hk 7 6 rfl rfl rfl hd kk
theorem lM_7 (hk : GC κ l0 D0 zt cc nL own Ts (tyM g) rm) {i : Int32} {v : Int64} (hin : vp_in i 5) (hv : L 7 i.toNatClampNeg = v) (hd : decode cc pc = .ok (.laload, 1)) (kk : GW κ nL n1 n2 (wM r g I A L) (pc + 1) lv (.long v :: st)) : GW κ nL n1 n2 (wM r g I A L) pc lv (.int i :: .ref (r 8) :: st) := g_lald hk 8 7 rfl rfl hin hv hd kk
theorem sM_7 (hk : GC κ l0 D0 zt cc nL own Ts (tyM g) rm) {i : Int32} {x : Int64} {j : Nat} (hin : vp_in i 5) (hj : i.toNatClampNeg = j) (hd : decode cc pc = .ok (.lastore, 1)) (kk : GW κ nL n1 n2 (wM r g I A (up3L L 7 j x)) (pc + 1) lv st) : GW κ nL n1 n2 (wM r g I A L) pc lv (.long x :: .int i :: .ref (r 8) :: st) := g_last hk 8 7 rfl rfl hin hj rfl hd kk
theorem nM_7 (hk : GC κ l0 D0 zt cc nL own Ts (tyM g) rm) (hd : decode cc pc = .ok (.arraylength, 1)) (kk : GW κ nL n1 n2 (wM r g I A L) (pc + 1) lv (.int 5 :: st)) : GW κ nL n1 n2 (wM r g I A L) pc lv (.ref (r 8) :: st) := g_alen hk 8 7 rfl rfl rfl hd kk
theorem lM_8 (hk : GC κ l0 D0 zt cc nL own Ts (tyM g) rm) {i v : Int32} (hin : vp_in i 2) (hv : A 8 i.toNatClampNeg = v) (hd : decode cc pc = .ok (.iaload, 1)) (kk : GW κ nL n1 n2 (wM r g I A L) (pc + 1) lv (.int v :: st)) : GW κ nL n1 n2 (wM r g I A L) pc lv (.int i :: .ref (r 9) :: st) := g_iald hk 9 8 rfl rfl hin hv hd kk
theorem sM_8 (hk : GC κ l0 D0 zt cc nL own Ts (tyM g) rm) {i x : Int32} {j : Nat} (hin : vp_in i 2) (hj : i.toNatClampNeg = j) (hd : decode cc pc = .ok (.iastore, 1)) (kk : GW κ nL n1 n2 (wM r g I (up3 A 8 j x) L) (pc + 1) lv st) : GW κ nL n1 n2 (wM r g I A L) pc lv (.int x :: .int i :: .ref (r 9) :: st) := g_iast hk 9 8 rfl rfl hin hj rfl hd kk
theorem nM_8 (hk : GC κ l0 D0 zt cc nL own Ts (tyM g) rm) (hd : decode cc pc = .ok (.arraylength, 1)) (kk : GW κ nL n1 n2 (wM r g I A L) (pc + 1) lv (.int 2 :: st)) : GW κ nL n1 n2 (wM r g I A L) pc lv (.ref (r 9) :: st) := g_alen hk 9 8 rfl rfl rfl hd kk
theorem lM_9 (hk : GC κ l0 D0 zt cc nL own Ts (tyM g) rm) {i v : Int32} (hin : vp_in i 320) (hv : A 9 i.toNatClampNeg = v) (hd : decode cc pc = .ok (.iaload, 1)) (kk : GW κ nL n1 n2 (wM r g I A L) (pc + 1) lv (.int v :: st)) : GW κ nL n1 n2 (wM r g I A L) pc lv (.int i :: .ref (r 10) :: st) := g_iald hk 10 9 rfl rfl hin hv hd kk
theorem sM_9 (hk : GC κ l0 D0 zt cc nL own Ts (tyM g) rm) {i x : Int32} {j : Nat} (hin : vp_in i 320) (hj : i.toNatClampNeg = j) (hd : decode cc pc = .ok (.iastore, 1)) (kk : GW κ nL n1 n2 (wM r g I (up3 A 9 j x) L) (pc + 1) lv st) : GW κ nL n1 n2 (wM r g I A L) pc lv (.int x :: .int i :: .ref (r 10) :: st) := g_iast hk 10 9 rfl rfl hin hj rfl hd kk
theorem nM_9 (hk : GC κ l0 D0 zt cc nL own Ts (tyM g) rm) (hd : decode cc pc = .ok (.arraylength, 1)) (kk : GW κ nL n1 n2 (wM r g I A L) (pc + 1) lv (.int 320 :: st)) : GW κ nL n1 n2 (wM r g I A L) pc lv (.ref (r 10) :: st) := g_alen hk 10 9 rfl rfl rfl hd kk
theorem lM_10 (hk : GC κ l0 D0 zt cc nL own Ts (tyM g) rm) {i v : Int32} (hin : vp_in i 2) (hv : A 10 i.toNatClampNeg = v) (hd : decode cc pc = .ok (.iaload, 1)) (kk : GW κ nL n1 n2 (wM r g I A L) (pc + 1) lv (.int v :: st)) : GW κ nL n1 n2 (wM r g I A L) pc lv (.int i :: .ref (r 11) :: st) := g_iald hk 11 10 rfl rfl hin hv hd kk
theorem sM_10 (hk : GC κ l0 D0 zt cc nL own Ts (tyM g) rm) {i x : Int32} {j : Nat} (hin : vp_in i 2) (hj : i.toNatClampNeg = j) (hd : decode cc pc = .ok (.iastore, 1)) (kk : GW κ nL n1 n2 (wM r g I (up3 A 10 j x) L) (pc + 1) lv st) : GW κ nL n1 n2 (wM r g I A L) pc lv (.int x :: .int i :: .ref (r 11) :: st) := g_iast hk 11 10 rfl rfl hin hj rfl hd kk
theorem nM_10 (hk : GC κ l0 D0 zt cc nL own Ts (tyM g) rm) (hd : decode cc pc = .ok (.arraylength, 1)) (kk : GW κ nL n1 n2 (wM r g I A L) (pc + 1) lv (.int 2 :: st)) : GW κ nL n1 n2 (wM r g I A L) pc lv (.ref (r 11) :: st) := g_alen hk 11 10 rfl rfl rfl hd kk
theorem lM_11 (hk : GC κ l0 D0 zt cc nL own Ts (tyM g) rm) {i v : Int32} (hin : vp_in i 10) (hv : A 11 i.toNatClampNeg = v) (hd : decode cc pc = .ok (.iaload, 1)) (kk : GW κ nL n1 n2 (wM r g I A L) (pc + 1) lv (.int v :: st)) : GW κ nL n1 n2 (wM r g I A L) pc lv (.int i :: .ref (r 12) :: st) := g_iald hk 12 11 rfl rfl hin hv hd kk
theorem sM_11 (hk : GC κ l0 D0 zt cc nL own Ts (tyM g) rm) {i x : Int32} {j : Nat} (hin : vp_in i 10) (hj : i.toNatClampNeg = j) (hd : decode cc pc = .ok (.iastore, 1)) (kk : GW κ nL n1 n2 (wM r g I (up3 A 11 j x) L) (pc + 1) lv st) : GW κ nL n1 n2 (wM r g I A L) pc lv (.int x :: .int i :: .ref (r 12) :: st) := g_iast hk 12 11 rfl rfl hin hj rfl hd kk
theorem nM_11 (hk : GC κ l0 D0 zt cc nL own Ts (tyM g) rm) (hd : decode cc pc = .ok (.arraylength, 1)) (kk : GW κ nL n1 n2 (wM r g I A L) (pc + 1) lv (.int 10 :: st)) : GW κ nL n1 n2 (wM r g I A L) pc lv (.ref (r 12) :: st) := g_alen hk 12 11 rfl rfl rfl hd kk
theorem lM_12 (hk : GC κ l0 D0 zt cc nL own Ts (tyM g) rm) {i v : Int32} (hin : vp_in i 160) (hv : A 12 i.toNatClampNeg = v) (hd : decode cc pc = .ok (.iaload, 1)) (kk : GW κ nL n1 n2 (wM r g I A L) (pc + 1) lv (.int v :: st)) : GW κ nL n1 n2 (wM r g I A L) pc lv (.int i :: .ref (r 13) :: st) := g_iald hk 13 12 rfl rfl hin hv hd kk
theorem sM_12 (hk : GC κ l0 D0 zt cc nL own Ts (tyM g) rm) {i x : Int32} {j : Nat} (hin : vp_in i 160) (hj : i.toNatClampNeg = j) (hd : decode cc pc = .ok (.iastore, 1)) (kk : GW κ nL n1 n2 (wM r g I (up3 A 12 j x) L) (pc + 1) lv st) : GW κ nL n1 n2 (wM r g I A L) pc lv (.int x :: .int i :: .ref (r 13) :: st) := g_iast hk 13 12 rfl rfl hin hj rfl hd kk
theorem nM_12 (hk : GC κ l0 D0 zt cc nL own Ts (tyM g) rm) (hd : decode cc pc = .ok (.arraylength, 1)) (kk : GW κ nL n1 n2 (wM r g I A L) (pc + 1) lv (.int 160 :: st)) : GW κ nL n1 n2 (wM r g I A L) pc lv (.ref (r 13) :: st) := g_alen hk 13 12 rfl rfl rfl hd kk
theorem lM_13 (hk : GC κ l0 D0 zt cc nL own Ts (tyM g) rm) {i v : Int32} (hin : vp_in i 2) (hv : A 13 i.toNatClampNeg = v) (hd : decode cc pc = .ok (.iaload, 1)) (kk : GW κ nL n1 n2 (wM r g I A L) (pc + 1) lv (.int v :: st)) : GW κ nL n1 n2 (wM r g I A L) pc lv (.int i :: .ref (r 14) :: st) := g_iald hk 14 13 rfl rfl hin hv hd kk
theorem sM_13 (hk : GC κ l0 D0 zt cc nL own Ts (tyM g) rm) {i x : Int32} {j : Nat} (hin : vp_in i 2) (hj : i.toNatClampNeg = j) (hd : decode cc pc = .ok (.iastore, 1)) (kk : GW κ nL n1 n2 (wM r g I (up3 A 13 j x) L) (pc + 1) lv st) : GW κ nL n1 n2 (wM r g I A L) pc lv (.int x :: .int i :: .ref (r 14) :: st) := g_iast hk 14 13 rfl rfl hin hj rfl hd kk
theorem nM_13 (hk : GC κ l0 D0 zt cc nL own Ts (tyM g) rm) (hd : decode cc pc = .ok (.arraylength, 1)) (kk : GW κ nL n1 n2 (wM r g I A L) (pc + 1) lv (.int 2 :: st)) : GW κ nL n1 n2 (wM r g I A L) pc lv (.ref (r 14) :: st) := g_alen hk 14 13 rfl rfl rfl hd kk
theorem lM_14 (hk : GC κ l0 D0 zt cc nL own Ts (tyM g) rm) {i v : Int32} (hin : vp_in i 2) (hv : A 14 i.toNatClampNeg = v) (hd : decode cc pc = .ok (.iaload, 1)) (kk : GW κ nL n1 n2 (wM r g I A L) (pc + 1) lv (.int v :: st)) : GW κ nL n1 n2 (wM r g I A L) pc lv (.int i :: .ref (r 15) :: st) := g_iald hk 15 14 rfl rfl hin hv hd kk
theorem sM_14 (hk : GC κ l0 D0 zt cc nL own Ts (tyM g) rm) {i x : Int32} {j : Nat} (hin : vp_in i 2) (hj : i.toNatClampNeg = j) (hd : decode cc pc = .ok (.iastore, 1)) (kk : GW κ nL n1 n2 (wM r g I (up3 A 14 j x) L) (pc + 1) lv st) : GW κ nL n1 n2 (wM r g I A L) pc lv (.int x :: .int i :: .ref (r 15) :: st) := g_iast hk 15 14 rfl rfl hin hj rfl hd kk
theorem nM_14 (hk : GC κ l0 D0 zt cc nL own Ts (tyM g) rm) (hd : decode cc pc = .ok (.arraylength, 1)) (kk : GW κ nL n1 n2 (wM r g I A L) (pc + 1) lv (.int 2 :: st)) : GW κ nL n1 n2 (wM r g I A L) pc lv (.ref (r 15) :: st) := g_alen hk 15 14 rfl rfl rfl hd kk
theorem lM_15 (hk : GC κ l0 D0 zt cc nL own Ts (tyM g) rm) {i v : Int32} (hin : vp_in i 2) (hv : A 15 i.toNatClampNeg = v) (hd : decode cc pc = .ok (.iaload, 1)) (kk : GW κ nL n1 n2 (wM r g I A L) (pc + 1) lv (.int v :: st)) : GW κ nL n1 n2 (wM r g I A L) pc lv (.int i :: .ref (r 16) :: st) := g_iald hk 16 15 rfl rfl hin hv hd kk
theorem sM_15 (hk : GC κ l0 D0 zt cc nL own Ts (tyM g) rm) {i x : Int32} {j : Nat} (hin : vp_in i 2) (hj : i.toNatClampNeg = j) (hd : decode cc pc = .ok (.iastore, 1)) (kk : GW κ nL n1 n2 (wM r g I (up3 A 15 j x) L) (pc + 1) lv st) : GW κ nL n1 n2 (wM r g I A L) pc lv (.int x :: .int i :: .ref (r 16) :: st) := g_iast hk 16 15 rfl rfl hin hj rfl hd kk
theorem nM_15 (hk : GC κ l0 D0 zt cc nL own Ts (tyM g) rm) (hd : decode cc pc = .ok (.arraylength, 1)) (kk : GW κ nL n1 n2 (wM r g I A L) (pc + 1) lv (.int 2 :: st)) : GW κ nL n1 n2 (wM r g I A L) pc lv (.ref (r 16) :: st) := g_alen hk 16 15 rfl rfl rfl hd kk
theorem lM_16 (hk : GC κ l0 D0 zt cc nL own Ts (tyM g) rm) {i v : Int32} (hin : vp_in i 2) (hv : A 16 i.toNatClampNeg = v) (hd : decode cc pc = .ok (.iaload, 1)) (kk : GW κ nL n1 n2 (wM r g I A L) (pc + 1) lv (.int v :: st)) : GW κ nL n1 n2 (wM r g I A L) pc lv (.int i :: .ref (r 17) :: st) := g_iald hk 17 16 rfl rfl hin hv hd kk
theorem sM_16 (hk : GC κ l0 D0 zt cc nL own Ts (tyM g) rm) {i x : Int32} {j : Nat} (hin : vp_in i 2) (hj : i.toNatClampNeg = j) (hd : decode cc pc = .ok (.iastore, 1)) (kk : GW κ nL n1 n2 (wM r g I (up3 A 16 j x) L) (pc + 1) lv st) : GW κ nL n1 n2 (wM r g I A L) pc lv (.int x :: .int i :: .ref (r 17) :: st) := g_iast hk 17 16 rfl rfl hin hj rfl hd kk
theorem nM_16 (hk : GC κ l0 D0 zt cc nL own Ts (tyM g) rm) (hd : decode cc pc = .ok (.arraylength, 1)) (kk : GW κ nL n1 n2 (wM r g I A L) (pc + 1) lv (.int 2 :: st)) : GW κ nL n1 n2 (wM r g I A L) pc lv (.ref (r 17) :: st) := g_alen hk 17 16 rfl rfl rfl hd kk
theorem lM_17 (hk : GC κ l0 D0 zt cc nL own Ts (tyM g) rm) {i v : Int32} (hin : vp_in i 165) (hv : A 17 i.toNatClampNeg = v) (hd : decode cc pc = .ok (.iaload, 1)) (kk : GW κ nL n1 n2 (wM r g I A L) (pc + 1) lv (.int v :: st)) : GW κ nL n1 n2 (wM r g I A L) pc lv (.int i :: .ref (r 18) :: st) := g_iald hk 18 17 rfl rfl hin hv hd kk
theorem sM_17 (hk : GC κ l0 D0 zt cc nL own Ts (tyM g) rm) {i x : Int32} {j : Nat} (hin : vp_in i 165) (hj : i.toNatClampNeg = j) (hd : decode cc pc = .ok (.iastore, 1)) (kk : GW κ nL n1 n2 (wM r g I (up3 A 17 j x) L) (pc + 1) lv st) : GW κ nL n1 n2 (wM r g I A L) pc lv (.int x :: .int i :: .ref (r 18) :: st) := g_iast hk 18 17 rfl rfl hin hj rfl hd kk
theorem nM_17 (hk : GC κ l0 D0 zt cc nL own Ts (tyM g) rm) (hd : decode cc pc = .ok (.arraylength, 1)) (kk : GW κ nL n1 n2 (wM r g I A L) (pc + 1) lv (.int 165 :: st)) : GW κ nL n1 n2 (wM r g I A L) pc lv (.ref (r 18) :: st) := g_alen hk 18 17 rfl rfl rfl hd kk
theorem lM_18 (hk : GC κ l0 D0 zt cc nL own Ts (tyM g) rm) {i v : Int32} (hin : vp_in i 165) (hv : A 18 i.toNatClampNeg = v) (hd : decode cc pc = .ok (.iaload, 1)) (kk : GW κ nL n1 n2 (wM r g I A L) (pc + 1) lv (.int v :: st)) : GW κ nL n1 n2 (wM r g I A L) pc lv (.int i :: .ref (r 19) :: st) := g_iald hk 19 18 rfl rfl hin hv hd kk
theorem sM_18 (hk : GC κ l0 D0 zt cc nL own Ts (tyM g) rm) {i x : Int32} {j : Nat} (hin : vp_in i 165) (hj : i.toNatClampNeg = j) (hd : decode cc pc = .ok (.iastore, 1)) (kk : GW κ nL n1 n2 (wM r g I (up3 A 18 j x) L) (pc + 1) lv st) : GW κ nL n1 n2 (wM r g I A L) pc lv (.int x :: .int i :: .ref (r 19) :: st) := g_iast hk 19 18 rfl rfl hin hj rfl hd kk
theorem nM_18 (hk : GC κ l0 D0 zt cc nL own Ts (tyM g) rm) (hd : decode cc pc = .ok (.arraylength, 1)) (kk : GW κ nL n1 n2 (wM r g I A L) (pc + 1) lv (.int 165 :: st)) : GW κ nL n1 n2 (wM r g I A L) pc lv (.ref (r 19) :: st) := g_alen hk 19 18 rfl rfl rfl hd kk
theorem lM_19 (hk : GC κ l0 D0 zt cc nL own Ts (tyM g) rm) {i v : Int32} (hin : vp_in i 16) (hv : A 19 i.toNatClampNeg = v) (hd : decode cc pc = .ok (.iaload, 1)) (kk : GW κ nL n1 n2 (wM r g I A L) (pc + 1) lv (.int v :: st)) : GW κ nL n1 n2 (wM r g I A L) pc lv (.int i :: .ref (r 20) :: st) := g_iald hk 20 19 rfl rfl hin hv hd kk
theorem sM_19 (hk : GC κ l0 D0 zt cc nL own Ts (tyM g) rm) {i x : Int32} {j : Nat} (hin : vp_in i 16) (hj : i.toNatClampNeg = j) (hd : decode cc pc = .ok (.iastore, 1)) (kk : GW κ nL n1 n2 (wM r g I (up3 A 19 j x) L) (pc + 1) lv st) : GW κ nL n1 n2 (wM r g I A L) pc lv (.int x :: .int i :: .ref (r 20) :: st) := g_iast hk 20 19 rfl rfl hin hj rfl hd kk
theorem nM_19 (hk : GC κ l0 D0 zt cc nL own Ts (tyM g) rm) (hd : decode cc pc = .ok (.arraylength, 1)) (kk : GW κ nL n1 n2 (wM r g I A L) (pc + 1) lv (.int 16 :: st)) : GW κ nL n1 n2 (wM r g I A L) pc lv (.ref (r 20) :: st) := g_alen hk 20 19 rfl rfl rfl hd kk
theorem lM_20 (hk : GC κ l0 D0 zt cc nL own Ts (tyM g) rm) {i v : Int32} (hin : vp_in i 16) (hv : A 20 i.toNatClampNeg = v) (hd : decode cc pc = .ok (.iaload, 1)) (kk : GW κ nL n1 n2 (wM r g I A L) (pc + 1) lv (.int v :: st)) : GW κ nL n1 n2 (wM r g I A L) pc lv (.int i :: .ref (r 21) :: st) := g_iald hk 21 20 rfl rfl hin hv hd kk
theorem sM_20 (hk : GC κ l0 D0 zt cc nL own Ts (tyM g) rm) {i x : Int32} {j : Nat} (hin : vp_in i 16) (hj : i.toNatClampNeg = j) (hd : decode cc pc = .ok (.iastore, 1)) (kk : GW κ nL n1 n2 (wM r g I (up3 A 20 j x) L) (pc + 1) lv st) : GW κ nL n1 n2 (wM r g I A L) pc lv (.int x :: .int i :: .ref (r 21) :: st) := g_iast hk 21 20 rfl rfl hin hj rfl hd kk
theorem nM_20 (hk : GC κ l0 D0 zt cc nL own Ts (tyM g) rm) (hd : decode cc pc = .ok (.arraylength, 1)) (kk : GW κ nL n1 n2 (wM r g I A L) (pc + 1) lv (.int 16 :: st)) : GW κ nL n1 n2 (wM r g I A L) pc lv (.ref (r 21) :: st) := g_alen hk 21 20 rfl rfl rfl hd kk
theorem lM_21 (hk : GC κ l0 D0 zt cc nL own Ts (tyM g) rm) {i v : Int32} (hin : vp_in i 256) (hv : A 21 i.toNatClampNeg = v) (hd : decode cc pc = .ok (.iaload, 1)) (kk : GW κ nL n1 n2 (wM r g I A L) (pc + 1) lv (.int v :: st)) : GW κ nL n1 n2 (wM r g I A L) pc lv (.int i :: .ref (r 22) :: st) := g_iald hk 22 21 rfl rfl hin hv hd kk
theorem sM_21 (hk : GC κ l0 D0 zt cc nL own Ts (tyM g) rm) {i x : Int32} {j : Nat} (hin : vp_in i 256) (hj : i.toNatClampNeg = j) (hd : decode cc pc = .ok (.iastore, 1)) (kk : GW κ nL n1 n2 (wM r g I (up3 A 21 j x) L) (pc + 1) lv st) : GW κ nL n1 n2 (wM r g I A L) pc lv (.int x :: .int i :: .ref (r 22) :: st) := g_iast hk 22 21 rfl rfl hin hj rfl hd kk
theorem nM_21 (hk : GC κ l0 D0 zt cc nL own Ts (tyM g) rm) (hd : decode cc pc = .ok (.arraylength, 1)) (kk : GW κ nL n1 n2 (wM r g I A L) (pc + 1) lv (.int 256 :: st)) : GW κ nL n1 n2 (wM r g I A L) pc lv (.ref (r 22) :: st) := g_alen hk 22 21 rfl rfl rfl hd kk
theorem lM_22 (hk : GC κ l0 D0 zt cc nL own Ts (tyM g) rm) {i v : Int32} (hin : vp_in i 6600) (hv : A 22 i.toNatClampNeg = v) (hd : decode cc pc = .ok (.iaload, 1)) (kk : GW κ nL n1 n2 (wM r g I A L) (pc + 1) lv (.int v :: st)) : GW κ nL n1 n2 (wM r g I A L) pc lv (.int i :: .ref (r 23) :: st) := g_iald hk 23 22 rfl rfl hin hv hd kk
theorem sM_22 (hk : GC κ l0 D0 zt cc nL own Ts (tyM g) rm) {i x : Int32} {j : Nat} (hin : vp_in i 6600) (hj : i.toNatClampNeg = j) (hd : decode cc pc = .ok (.iastore, 1)) (kk : GW κ nL n1 n2 (wM r g I (up3 A 22 j x) L) (pc + 1) lv st) : GW κ nL n1 n2 (wM r g I A L) pc lv (.int x :: .int i :: .ref (r 23) :: st) := g_iast hk 23 22 rfl rfl hin hj rfl hd kk
theorem nM_22 (hk : GC κ l0 D0 zt cc nL own Ts (tyM g) rm) (hd : decode cc pc = .ok (.arraylength, 1)) (kk : GW κ nL n1 n2 (wM r g I A L) (pc + 1) lv (.int 6600 :: st)) : GW κ nL n1 n2 (wM r g I A L) pc lv (.ref (r 23) :: st) := g_alen hk 23 22 rfl rfl rfl hd kk
theorem lM_23 (hk : GC κ l0 D0 zt cc nL own Ts (tyM g) rm) {i v : Int32} (hin : vp_in i 40) (hv : A 23 i.toNatClampNeg = v) (hd : decode cc pc = .ok (.iaload, 1)) (kk : GW κ nL n1 n2 (wM r g I A L) (pc + 1) lv (.int v :: st)) : GW κ nL n1 n2 (wM r g I A L) pc lv (.int i :: .ref (r 24) :: st) := g_iald hk 24 23 rfl rfl hin hv hd kk
theorem sM_23 (hk : GC κ l0 D0 zt cc nL own Ts (tyM g) rm) {i x : Int32} {j : Nat} (hin : vp_in i 40) (hj : i.toNatClampNeg = j) (hd : decode cc pc = .ok (.iastore, 1)) (kk : GW κ nL n1 n2 (wM r g I (up3 A 23 j x) L) (pc + 1) lv st) : GW κ nL n1 n2 (wM r g I A L) pc lv (.int x :: .int i :: .ref (r 24) :: st) := g_iast hk 24 23 rfl rfl hin hj rfl hd kk
theorem nM_23 (hk : GC κ l0 D0 zt cc nL own Ts (tyM g) rm) (hd : decode cc pc = .ok (.arraylength, 1)) (kk : GW κ nL n1 n2 (wM r g I A L) (pc + 1) lv (.int 40 :: st)) : GW κ nL n1 n2 (wM r g I A L) pc lv (.ref (r 24) :: st) := g_alen hk 24 23 rfl rfl rfl hd kk
theorem lM_24 (hk : GC κ l0 D0 zt cc nL own Ts (tyM g) rm) {i v : Int32} (hin : vp_in i 160) (hv : A 24 i.toNatClampNeg = v) (hd : decode cc pc = .ok (.iaload, 1)) (kk : GW κ nL n1 n2 (wM r g I A L) (pc + 1) lv (.int v :: st)) : GW κ nL n1 n2 (wM r g I A L) pc lv (.int i :: .ref (r 25) :: st) := g_iald hk 25 24 rfl rfl hin hv hd kk
theorem sM_24 (hk : GC κ l0 D0 zt cc nL own Ts (tyM g) rm) {i x : Int32} {j : Nat} (hin : vp_in i 160) (hj : i.toNatClampNeg = j) (hd : decode cc pc = .ok (.iastore, 1)) (kk : GW κ nL n1 n2 (wM r g I (up3 A 24 j x) L) (pc + 1) lv st) : GW κ nL n1 n2 (wM r g I A L) pc lv (.int x :: .int i :: .ref (r 25) :: st) := g_iast hk 25 24 rfl rfl hin hj rfl hd kk
theorem nM_24 (hk : GC κ l0 D0 zt cc nL own Ts (tyM g) rm) (hd : decode cc pc = .ok (.arraylength, 1)) (kk : GW κ nL n1 n2 (wM r g I A L) (pc + 1) lv (.int 160 :: st)) : GW κ nL n1 n2 (wM r g I A L) pc lv (.ref (r 25) :: st) := g_alen hk 25 24 rfl rfl rfl hd kk
theorem lM_25 (hk : GC κ l0 D0 zt cc nL own Ts (tyM g) rm) {i v : Int32} (hin : vp_in i 9) (hv : A 25 i.toNatClampNeg = v) (hd : decode cc pc = .ok (.iaload, 1)) (kk : GW κ nL n1 n2 (wM r g I A L) (pc + 1) lv (.int v :: st)) : GW κ nL n1 n2 (wM r g I A L) pc lv (.int i :: .ref (r 26) :: st) := g_iald hk 26 25 rfl rfl hin hv hd kk
theorem sM_25 (hk : GC κ l0 D0 zt cc nL own Ts (tyM g) rm) {i x : Int32} {j : Nat} (hin : vp_in i 9) (hj : i.toNatClampNeg = j) (hd : decode cc pc = .ok (.iastore, 1)) (kk : GW κ nL n1 n2 (wM r g I (up3 A 25 j x) L) (pc + 1) lv st) : GW κ nL n1 n2 (wM r g I A L) pc lv (.int x :: .int i :: .ref (r 26) :: st) := g_iast hk 26 25 rfl rfl hin hj rfl hd kk
theorem nM_25 (hk : GC κ l0 D0 zt cc nL own Ts (tyM g) rm) (hd : decode cc pc = .ok (.arraylength, 1)) (kk : GW κ nL n1 n2 (wM r g I A L) (pc + 1) lv (.int 9 :: st)) : GW κ nL n1 n2 (wM r g I A L) pc lv (.ref (r 26) :: st) := g_alen hk 26 25 rfl rfl rfl hd kk
theorem lM_26 (hk : GC κ l0 D0 zt cc nL own Ts (tyM g) rm) {i v : Int32} (hin : vp_in i 160) (hv : A 26 i.toNatClampNeg = v) (hd : decode cc pc = .ok (.iaload, 1)) (kk : GW κ nL n1 n2 (wM r g I A L) (pc + 1) lv (.int v :: st)) : GW κ nL n1 n2 (wM r g I A L) pc lv (.int i :: .ref (r 27) :: st) := g_iald hk 27 26 rfl rfl hin hv hd kk
theorem sM_26 (hk : GC κ l0 D0 zt cc nL own Ts (tyM g) rm) {i x : Int32} {j : Nat} (hin : vp_in i 160) (hj : i.toNatClampNeg = j) (hd : decode cc pc = .ok (.iastore, 1)) (kk : GW κ nL n1 n2 (wM r g I (up3 A 26 j x) L) (pc + 1) lv st) : GW κ nL n1 n2 (wM r g I A L) pc lv (.int x :: .int i :: .ref (r 27) :: st) := g_iast hk 27 26 rfl rfl hin hj rfl hd kk
theorem nM_26 (hk : GC κ l0 D0 zt cc nL own Ts (tyM g) rm) (hd : decode cc pc = .ok (.arraylength, 1)) (kk : GW κ nL n1 n2 (wM r g I A L) (pc + 1) lv (.int 160 :: st)) : GW κ nL n1 n2 (wM r g I A L) pc lv (.ref (r 27) :: st) := g_alen hk 27 26 rfl rfl rfl hd kk
theorem lM_27 (hk : GC κ l0 D0 zt cc nL own Ts (tyM g) rm) {i v : Int32} (hin : vp_in i 3) (hv : A 27 i.toNatClampNeg = v) (hd : decode cc pc = .ok (.baload, 1)) (kk : GW κ nL n1 n2 (wM r g I A L) (pc + 1) lv (.int v :: st)) : GW κ nL n1 n2 (wM r g I A L) pc lv (.int i :: .ref (r 28) :: st) := g_zald hk 28 27 rfl rfl hin hv hd kk
theorem sM_27 (hk : GC κ l0 D0 zt cc nL own Ts (tyM g) rm) {i x y : Int32} {j : Nat} (hin : vp_in i 3) (hj : i.toNatClampNeg = j) (hx : vp_nar .boolean x = y) (hd : decode cc pc = .ok (.bastore, 1)) (kk : GW κ nL n1 n2 (wM r g I (up3 A 27 j y) L) (pc + 1) lv st) : GW κ nL n1 n2 (wM r g I A L) pc lv (.int x :: .int i :: .ref (r 28) :: st) := g_zast hk 28 27 rfl rfl hin hj hx rfl hd kk
theorem nM_27 (hk : GC κ l0 D0 zt cc nL own Ts (tyM g) rm) (hd : decode cc pc = .ok (.arraylength, 1)) (kk : GW κ nL n1 n2 (wM r g I A L) (pc + 1) lv (.int 3 :: st)) : GW κ nL n1 n2 (wM r g I A L) pc lv (.ref (r 28) :: st) := g_alen hk 28 27 rfl rfl rfl hd kk
theorem lM_28 (hk : GC κ l0 D0 zt cc nL own Ts (tyM g) rm) {i v : Int32} (hin : vp_in i 495) (hv : A 28 i.toNatClampNeg = v) (hd : decode cc pc = .ok (.iaload, 1)) (kk : GW κ nL n1 n2 (wM r g I A L) (pc + 1) lv (.int v :: st)) : GW κ nL n1 n2 (wM r g I A L) pc lv (.int i :: .ref (r 29) :: st) := g_iald hk 29 28 rfl rfl hin hv hd kk
theorem sM_28 (hk : GC κ l0 D0 zt cc nL own Ts (tyM g) rm) {i x : Int32} {j : Nat} (hin : vp_in i 495) (hj : i.toNatClampNeg = j) (hd : decode cc pc = .ok (.iastore, 1)) (kk : GW κ nL n1 n2 (wM r g I (up3 A 28 j x) L) (pc + 1) lv st) : GW κ nL n1 n2 (wM r g I A L) pc lv (.int x :: .int i :: .ref (r 29) :: st) := g_iast hk 29 28 rfl rfl hin hj rfl hd kk
theorem nM_28 (hk : GC κ l0 D0 zt cc nL own Ts (tyM g) rm) (hd : decode cc pc = .ok (.arraylength, 1)) (kk : GW κ nL n1 n2 (wM r g I A L) (pc + 1) lv (.int 495 :: st)) : GW κ nL n1 n2 (wM r g I A L) pc lv (.ref (r 29) :: st) := g_alen hk 29 28 rfl rfl rfl hd kk
theorem gM_same {a j : Nat} {x : Int32} (h : A a j = x) (k : GW κ nL n1 n2 (wM r g I A L) pc lv st) : GW κ nL n1 n2 (wM r g I (up3 A a j x) L) pc lv st := by
  rw [up3_same h]
  exact k
theorem gM_sameI {a : Nat} {x : Int32} (h : I a = x) (k : GW κ nL n1 n2 (wM r g I A L) pc lv st) : GW κ nL n1 n2 (wM r g (upd I a x) A L) pc lv st := by
  rw [upd_same h]
  exact k
end GM
/-! the script -/
def GX (κ : Cx) (b L : Nat) (xs : Nat → Int32) : Prop := match κ with | (p, l, e, R, s, m, args, below, meth, c, D, A, Q) => va_X b L xs s s.heap ∧ b < s.heap.size ∧ ¬ A b
section GXS
variable {κ : Cx} {l0 : Launch} {D0 : va_G} {zt : Nat × Nat × Nat} {cc : ByteArray} {nL : Nat} {own : String} {Ts : List Cond} {tys : Tys} {rm : Room} {n1 n2 : Nat} {ws : va_W} {pc : Nat} {lv : List (Nat × Value)} {st : List Value} {b L : Nat} {xs : Nat → Int32}
theorem g_sld (hk : GC κ l0 D0 zt cc nL own Ts tys rm) (hX : GX κ b L xs) {i v : Int32} (hin : vp_in i L) (hv : xs i.toNatClampNeg = v) (hd : decode cc pc = .ok (.iaload, 1)) (kk : GW κ nL n1 n2 ws (pc + 1) lv (.int v :: st)) : GW κ nL n1 n2 ws pc lv (.int i :: .ref b :: st) := by
  obtain ⟨p, l, e, R, s, m, args, below, meth, c, D, A, Q⟩ := κ
  subst hv
  exact fun H locs ls hP hD hS hl => va_sld hk.1 hk.2.1 hX.1 hX.2.1 hX.2.2 hS hin hd (kk H locs ls hP hD hS hl)
theorem g_slen (hk : GC κ l0 D0 zt cc nL own Ts tys rm) (hX : GX κ b L xs) (hd : decode cc pc = .ok (.arraylength, 1)) (kk : GW κ nL n1 n2 ws (pc + 1) lv (.int (nI L) :: st)) : GW κ nL n1 n2 ws pc lv (.ref b :: st) := by
  obtain ⟨p, l, e, R, s, m, args, below, meth, c, D, A, Q⟩ := κ
  exact fun H locs ls hP hD hS hl => va_slen hk.1 hk.2.1 hX.1 hX.2.1 hX.2.2 hS hd (kk H locs ls hP hD hS hl)
end GXS
end
section
theorem dX10_byteAt_12 : decode cX10_byteAt 12 = .ok (.iload_n 1, 1) := by decide +kernel
theorem dX10_byteAt_13 : decode cX10_byteAt 13 = .ok (.aload_n 0, 1) := by decide +kernel
theorem dX10_byteAt_14 : decode cX10_byteAt 14 = .ok (.getfield 9, 3) := by decide +kernel
theorem dX10_byteAt_17 : decode cX10_byteAt 17 = .ok (.arraylength, 1) := by decide +kernel
theorem dX10_byteAt_18 : decode cX10_byteAt 18 = .ok (.if_icmp .ge 12, 3) := by decide +kernel
theorem dX10_byteAt_21 : decode cX10_byteAt 21 = .ok (.aload_n 0, 1) := by decide +kernel
theorem dX10_byteAt_22 : decode cX10_byteAt 22 = .ok (.getfield 9, 3) := by decide +kernel
theorem dX10_byteAt_25 : decode cX10_byteAt 25 = .ok (.iload_n 1, 1) := by decide +kernel
theorem dX10_byteAt_26 : decode cX10_byteAt 26 = .ok (.iaload, 1) := by decide +kernel
theorem dX10_byteAt_27 : decode cX10_byteAt 27 = .ok (.goto 4, 3) := by decide +kernel
theorem dX10_lengthAtHand_0 : decode cX10_lengthAtHand 0 = .ok (.aload_n 0, 1) := by decide +kernel
theorem dX10_lengthAtHand_1 : decode cX10_lengthAtHand 1 = .ok (.getfield 19, 3) := by decide +kernel
theorem dX10_lengthAtHand_4 : decode cX10_lengthAtHand 4 = .ok (.aload_n 0, 1) := by decide +kernel
theorem dX10_lengthAtHand_5 : decode cX10_lengthAtHand 5 = .ok (.getfield 32, 3) := by decide +kernel
theorem dX10_lengthAtHand_8 : decode cX10_lengthAtHand 8 = .ok (.isub, 1) := by decide +kernel
theorem dX10_lengthAtHand_9 : decode cX10_lengthAtHand 9 = .ok (.ireturn, 1) := by decide +kernel
theorem dX3_kindOfStep_0 : decode cX3_kindOfStep 0 = .ok (.aload_n 0, 1) := by decide +kernel
theorem dX3_kindOfStep_1 : decode cX3_kindOfStep 1 = .ok (.getfield 9, 3) := by decide +kernel
theorem dX3_kindOfStep_11 : decode cX3_kindOfStep 11 = .ok (.ireturn, 1) := by decide +kernel
theorem dX3_kindOfStep_4 : decode cX3_kindOfStep 4 = .ok (.aload_n 0, 1) := by decide +kernel
theorem dX3_kindOfStep_5 : decode cX3_kindOfStep 5 = .ok (.getfield 23, 3) := by decide +kernel
theorem dX3_kindOfStep_8 : decode cX3_kindOfStep 8 = .ok (.invokestatic 32, 3) := by decide +kernel
theorem dX3_valueIn_0 : decode cX3_valueIn 0 = .ok (.iload_n 1, 1) := by decide +kernel
theorem dX3_valueIn_1 : decode cX3_valueIn 1 = .ok (.ifCond .lt 15, 3) := by decide +kernel
theorem dX3_valueIn_10 : decode cX3_valueIn 10 = .ok (.aload_n 0, 1) := by decide +kernel
theorem dX3_valueIn_11 : decode cX3_valueIn 11 = .ok (.iload_n 1, 1) := by decide +kernel
theorem dX3_valueIn_12 : decode cX3_valueIn 12 = .ok (.iaload, 1) := by decide +kernel
theorem dX3_valueIn_13 : decode cX3_valueIn 13 = .ok (.goto 4, 3) := by decide +kernel
theorem dX3_valueIn_16 : decode cX3_valueIn 16 = .ok (.iconst 0, 1) := by decide +kernel
theorem dX3_valueIn_17 : decode cX3_valueIn 17 = .ok (.ireturn, 1) := by decide +kernel
theorem dX3_valueIn_4 : decode cX3_valueIn 4 = .ok (.iload_n 1, 1) := by decide +kernel
theorem dX3_valueIn_5 : decode cX3_valueIn 5 = .ok (.aload_n 0, 1) := by decide +kernel
theorem dX3_valueIn_6 : decode cX3_valueIn 6 = .ok (.arraylength, 1) := by decide +kernel
theorem dX3_valueIn_7 : decode cX3_valueIn 7 = .ok (.if_icmp .ge 9, 3) := by decide +kernel
theorem dX4_has_12 : decode cX4_has 12 = .ok (.iload_n 1, 1) := by decide +kernel
theorem dX4_has_13 : decode cX4_has 13 = .ok (.iconst 5, 1) := by decide +kernel
theorem dX4_has_14 : decode cX4_has 14 = .ok (.if_icmp .ge 7, 3) := by decide +kernel
theorem dX4_has_17 : decode cX4_has 17 = .ok (.iconst 1, 1) := by decide +kernel
theorem dX4_has_18 : decode cX4_has 18 = .ok (.goto 4, 3) := by decide +kernel
theorem dX6_hasReading_0 : decode cX6_hasReading 0 = .ok (.aload_n 0, 1) := by decide +kernel
theorem dX6_hasReading_1 : decode cX6_hasReading 1 = .ok (.iload_n 1, 1) := by decide +kernel
theorem dX6_hasReading_11 : decode cX6_hasReading 11 = .ok (.iconst 1, 1) := by decide +kernel
theorem dX6_hasReading_12 : decode cX6_hasReading 12 = .ok (.goto 4, 3) := by decide +kernel
theorem dX6_hasReading_15 : decode cX6_hasReading 15 = .ok (.iconst 0, 1) := by decide +kernel
theorem dX6_hasReading_16 : decode cX6_hasReading 16 = .ok (.ireturn, 1) := by decide +kernel
theorem dX6_hasReading_2 : decode cX6_hasReading 2 = .ok (.invokevirtual 33, 3) := by decide +kernel
theorem dX6_hasReading_5 : decode cX6_hasReading 5 = .ok (.sipush (-1000), 3) := by decide +kernel
theorem dX6_hasReading_8 : decode cX6_hasReading 8 = .ok (.if_icmp .eq 7, 3) := by decide +kernel
theorem dX6_valueAt_12 : decode cX6_valueAt 12 = .ok (.aload_n 0, 1) := by decide +kernel
theorem dX6_valueAt_13 : decode cX6_valueAt 13 = .ok (.getfield 11, 3) := by decide +kernel
theorem dX6_valueAt_16 : decode cX6_valueAt 16 = .ok (.aload_n 0, 1) := by decide +kernel
theorem dX6_valueAt_17 : decode cX6_valueAt 17 = .ok (.getfield 15, 3) := by decide +kernel
theorem dX6_valueAt_20 : decode cX6_valueAt 20 = .ok (.iload_n 1, 1) := by decide +kernel
theorem dX6_valueAt_21 : decode cX6_valueAt 21 = .ok (.iadd, 1) := by decide +kernel
theorem dX6_valueAt_22 : decode cX6_valueAt 22 = .ok (.sipush 255, 3) := by decide +kernel
theorem dX6_valueAt_25 : decode cX6_valueAt 25 = .ok (.iand, 1) := by decide +kernel
theorem dX6_valueAt_26 : decode cX6_valueAt 26 = .ok (.iaload, 1) := by decide +kernel
theorem dX6_valueAt_27 : decode cX6_valueAt 27 = .ok (.goto 6, 3) := by decide +kernel
theorem dX8_valueAt_0 : decode cX8_valueAt 0 = .ok (.iload_n 1, 1) := by decide +kernel
theorem dX8_valueAt_1 : decode cX8_valueAt 1 = .ok (.ifCond .lt 29, 3) := by decide +kernel
theorem dX8_valueAt_12 : decode cX8_valueAt 12 = .ok (.iload_n 1, 1) := by decide +kernel
theorem dX8_valueAt_13 : decode cX8_valueAt 13 = .ok (.aload_n 0, 1) := by decide +kernel
theorem dX8_valueAt_14 : decode cX8_valueAt 14 = .ok (.getfield 9, 3) := by decide +kernel
theorem dX8_valueAt_17 : decode cX8_valueAt 17 = .ok (.arraylength, 1) := by decide +kernel
theorem dX8_valueAt_18 : decode cX8_valueAt 18 = .ok (.if_icmp .ge 12, 3) := by decide +kernel
theorem dX8_valueAt_21 : decode cX8_valueAt 21 = .ok (.aload_n 0, 1) := by decide +kernel
theorem dX8_valueAt_22 : decode cX8_valueAt 22 = .ok (.getfield 9, 3) := by decide +kernel
theorem dX8_valueAt_25 : decode cX8_valueAt 25 = .ok (.iload_n 1, 1) := by decide +kernel
theorem dX8_valueAt_26 : decode cX8_valueAt 26 = .ok (.iaload, 1) := by decide +kernel
theorem dX8_valueAt_27 : decode cX8_valueAt 27 = .ok (.goto 6, 3) := by decide +kernel
theorem dX8_valueAt_30 : decode cX8_valueAt 30 = .ok (.sipush (-1000), 3) := by decide +kernel
theorem dX8_valueAt_33 : decode cX8_valueAt 33 = .ok (.ireturn, 1) := by decide +kernel
theorem dX8_valueAt_4 : decode cX8_valueAt 4 = .ok (.iload_n 1, 1) := by decide +kernel
theorem dX8_valueAt_5 : decode cX8_valueAt 5 = .ok (.aload_n 0, 1) := by decide +kernel
theorem dX8_valueAt_6 : decode cX8_valueAt 6 = .ok (.getfield 22, 3) := by decide +kernel
theorem dX8_valueAt_9 : decode cX8_valueAt 9 = .ok (.if_icmp .ge 21, 3) := by decide +kernel
theorem zw_600 : Cond.code yX10_lengthAtHand cX10_lengthAtHand 1 (some .int) ∈ lw_tbl := List.mem_of_getElem? (i := 600) (by decide +kernel)
theorem zw_776 : Cond.code yX8_valueAt cX8_valueAt 2 (some .int) ∈ lw_tbl := List.mem_of_getElem? (i := 776) (by decide +kernel)
theorem zw_842 : Cond.code yX6_hasReading cX6_hasReading 2 (some .boolean) ∈ lw_tbl := List.mem_of_getElem? (i := 842) (by decide +kernel)
theorem zw_843 : Cond.methodLink RX6 33 yX6_valueAt ∈ lw_tbl := List.mem_of_getElem? (i := 843) (by decide +kernel)
theorem zw_878 : Cond.methodLink RX3 32 yX3_valueIn ∈ lw_tbl := List.mem_of_getElem? (i := 878) (by decide +kernel)
theorem zw_879 : Cond.static yX3_valueIn ∈ lw_tbl := List.mem_of_getElem? (i := 879) (by decide +kernel)
theorem zw_880 : Cond.code yX3_valueIn cX3_valueIn 2 (some .int) ∈ lw_tbl := List.mem_of_getElem? (i := 880) (by decide +kernel)
theorem zw_884 : Cond.code yX3_kindOfStep cX3_kindOfStep 1 (some .int) ∈ lw_tbl := List.mem_of_getElem? (i := 884) (by decide +kernel)
theorem i32_mask {x y z : Int32} (k : Nat) (e : z = x &&& y) (hy : y.toBitVec.toNat = 2 ^ k - 1) (hk : k ≤ 8) : 0 ≤ z.toInt ∧ z.toInt ≤ 2 ^ k - 1 := by
  obtain ⟨j, hj, ej⟩ := pk_andE x k hy
  have h2 : 2 ^ k ≤ 2 ^ 8 := Nat.pow_le_pow_right (by decide) hk
  have h3 : (nI j).toInt = (j : Int) := nI_toInt (by omega)
  rw [e, ej, h3]
  have h4 : ((2 ^ k : Nat) : Int) = (2 : Int) ^ k := by simp
  omega
theorem i32_add {x y z : Int32} {a b : Int} (e : z = x + y) (hx : x.toInt = a) (hy : y.toInt = b) (h1 : -2147483648 ≤ a + b) (h2 : a + b < 2147483648) : z.toInt = a + b := by
  rw [e, Int32.toInt_add, hx, hy]
  exact Int.bmod_eq_of_le (by omega) (by omega)
def wo_m21_X6_valueAt : List Cond := [Cond.fieldLink RX6 19 "WarpDesk$Series" "size" "I", Cond.fieldLink RX6 11 "WarpDesk$Series" "ring" "[I", Cond.fieldLink RX6 15 "WarpDesk$Series" "first" "I"]
def wz_m21_X6_valueAt : List Cond := .code yX6_valueAt cX6_valueAt 2 (some .int) :: (wo_m21_X6_valueAt ++ (wsX60 ++ ([] : List Cond)))
theorem zg_m21_X6_valueAt : ∀ w ∈ wz_m21_X6_valueAt, goodWord w = true := zg_cons rfl (zg_app (by decide +kernel) (zg_app zgU_wsX60 zg_nil))
theorem zi_m21_X6_valueAt : ∀ w ∈ wz_m21_X6_valueAt, w ∈ lw_tbl := zi_cons zw_809 (zi_app (zi_cons zw_282 (zi_cons zw_280 (zi_cons zw_281 zi_nil))) (zi_app inX6 zi_nil))
set_option maxHeartbeats 4000000 in
set_option maxRecDepth 100000 in
theorem m21_X6_valueAt (l : Launch) (D : va_G) (zt : Nat × Nat × Nat) (A : Nat → Nat → Int32) (I : Nat → Int32) (d : Nat → ClassId) (q : Nat → Nat) (a178 : Int32) : GM l D zt (tyX d) yX6_valueAt wz_m21_X6_valueAt ({ frames := 0, cells := 0, slots := 0, locals := 0 } : Room) [.ref (q 13), .int a178] (wX q d I A) (fun v _ w' => ∃ (y184 : Int32), v = some (.int y184) ∧ w' = wX q d I A) 0 0 := by
  refine GM.of (cc := cX6_valueAt) (maxL := 2) (ret := (some .int)) (own := RX6) (lv := [(0, .ref (q 13)), (1, .int a178)]) (by decide) rfl rfl (Nat.le_of_ble_eq_true rfl) rfl (fun κ sz hk hR hN => ?_)
  have hin6 : ∀ w ∈ u_ws RX6 TX6 3, w ∈ wz_m21_X6_valueAt := fun w h => (List.mem_cons_of_mem _ (List.mem_append_right _ (List.mem_append_left _ h)))
  refine g_iload_n hk dX6_valueAt_0 rfl ?_
  refine g_if_lt (tgt := 30) (a := a178.toInt) hk dX6_valueAt_1 (by decide) rfl (fun c179 => ?_) (fun c179 => ?_)
  · skip
    refine g_sipush (v := (-1000)) hk dX6_valueAt_30 (by decide) ?_
    exact g_iret hk hR rfl ⟨(-1000), rfl, rfl⟩ dX6_valueAt_33
  · skip
    refine g_iload_n hk dX6_valueAt_4 rfl ?_
    refine g_aload_n hk dX6_valueAt_5 rfl ?_
    refine gX_i18 (v := (I 18)) hk hin6 (List.mem_cons_of_mem _ (List.mem_append_left _ (List.mem_of_getElem? (i := 0) rfl))) dX6_valueAt_6 rfl ?_
    refine g_icmp_ge (tgt := 30) (a := a178.toInt) (b := (I 18).toInt) hk dX6_valueAt_9 (by decide) rfl rfl (fun c180 => ?_) (fun c180 => ?_)
    · skip
      refine g_sipush (v := (-1000)) hk dX6_valueAt_30 (by decide) ?_
      exact g_iret hk hR rfl ⟨(-1000), rfl, rfl⟩ dX6_valueAt_33
    · skip
      refine g_aload_n hk dX6_valueAt_12 rfl ?_
      refine gX_r13_0 hk hin6 (List.mem_cons_of_mem _ (List.mem_append_left _ (List.mem_of_getElem? (i := 1) rfl))) dX6_valueAt_13 ?_
      refine g_aload_n hk dX6_valueAt_16 rfl ?_
      refine gX_i17 (v := (I 17)) hk hin6 (List.mem_cons_of_mem _ (List.mem_append_left _ (List.mem_of_getElem? (i := 2) rfl))) dX6_valueAt_17 rfl ?_
      refine g_iload_n hk dX6_valueAt_20 rfl ?_
      refine g_iadd hk dX6_valueAt_21 ?_
      refine g_topi (fun y181 ey181 => ?_)
      refine g_sipush (v := 255) hk dX6_valueAt_22 (by decide) ?_
      refine g_iand hk dX6_valueAt_25 ?_
      refine g_topi (fun y182 ey182 => ?_)
      have hy182 : 0 ≤ y182.toInt ∧ y182.toInt ≤ 255 := i32_mask 8 ey182 (by decide) (by decide)
      refine lX_7 hk (vp_in_iff.mpr ⟨by omega, by omega⟩) rfl dX6_valueAt_26 ?_
      refine g_topi (fun y183 ey183 => ?_)
      refine g_goto (tgt := 33) hk dX6_valueAt_27 (by decide) ?_
      exact g_iret hk hR rfl ⟨y183, rfl, rfl⟩ dX6_valueAt_33
def wo_m22_X6_hasReading : List Cond := [Cond.methodLink RX6 33 yX6_valueAt, Cond.instanceMethod yX6_valueAt, Cond.selects RX6 yX6_valueAt yX6_valueAt, Cond.initialized RX6]
def wz_m22_X6_hasReading : List Cond := .code yX6_hasReading cX6_hasReading 2 (some .boolean) :: (wo_m22_X6_hasReading ++ (wz_m21_X6_valueAt ++ ([] : List Cond)))
theorem zg_m22_X6_hasReading : ∀ w ∈ wz_m22_X6_hasReading, goodWord w = true := zg_cons rfl (zg_app (by decide +kernel) (zg_app zg_m21_X6_valueAt zg_nil))
theorem zi_m22_X6_hasReading : ∀ w ∈ wz_m22_X6_hasReading, w ∈ lw_tbl := zi_cons zw_842 (zi_app (zi_cons zw_843 (zi_cons zw_807 (zi_cons zw_808 (zi_cons zw_109 zi_nil)))) (zi_app zi_m21_X6_valueAt zi_nil))
set_option maxHeartbeats 4000000 in
set_option maxRecDepth 100000 in
theorem m22_X6_hasReading (l : Launch) (D : va_G) (zt : Nat × Nat × Nat) (A : Nat → Nat → Int32) (I : Nat → Int32) (d : Nat → ClassId) (q : Nat → Nat) (a185 : Int32) : GM l D zt (tyX d) yX6_hasReading wz_m22_X6_hasReading ({ frames := 1, cells := 0, slots := 0, locals := 21 } : Room) [.ref (q 13), .int a185] (wX q d I A) (fun v _ w' => ∃ (y188 : Int32), (0 ≤ y188.toInt) ∧ (y188.toInt ≤ 1) ∧ v = some (.int y188) ∧ w' = wX q d I A) 0 0 := by
  refine GM.of (cc := cX6_hasReading) (maxL := 2) (ret := (some .boolean)) (own := RX6) (lv := [(0, .ref (q 13)), (1, .int a185)]) (by decide) rfl rfl (Nat.le_of_ble_eq_true rfl) rfl (fun κ sz hk hR hN => ?_)
  refine g_aload_n hk dX6_hasReading_0 rfl ?_
  refine g_iload_n hk dX6_hasReading_1 rfl ?_
  refine g_callV (n := 1) hk (m21_X6_valueAt l D zt A I d q a185) (SP.same _) (fun _ h => h) (gi_V (List.mem_cons_of_mem _ (List.mem_append_left _ (List.mem_of_getElem? (i := 0) rfl))) (List.mem_cons_of_mem _ (List.mem_append_left _ (List.mem_of_getElem? (i := 1) rfl))) (List.mem_cons_of_mem _ (List.mem_append_left _ (List.mem_of_getElem? (i := 2) rfl))) (List.mem_cons_of_mem _ (List.mem_append_left _ (List.mem_of_getElem? (i := 3) rfl))) (gi_sub (fun w h => (List.mem_cons_of_mem _ (List.mem_append_right _ (List.mem_append_left _ h)))) zg_m21_X6_valueAt)) rfl rfl rfl (by decide +kernel) ⟨Nat.le_of_ble_eq_true rfl, Nat.le_of_ble_eq_true rfl⟩ 13 rfl rfl rfl rfl (Nat.le_of_ble_eq_true rfl) ⟨Nat.le_of_ble_eq_true rfl, Nat.le_of_ble_eq_true rfl⟩ dX6_hasReading_2 (fun v ty' w' hp hk' => ?_)
  obtain ⟨y186, rfl, rfl⟩ := hp
  show GW κ 2 0 0 (wX q d I A) 5 [(0, .ref (q 13)), (1, .int a185)] [.int y186]
  refine g_sipush (v := (-1000)) hk dX6_hasReading_5 (by decide) ?_
  refine g_icmp_eq (tgt := 15) (a := y186.toInt) (b := (-1000)) hk dX6_hasReading_8 (by decide) rfl rfl (fun c187 => ?_) (fun c187 => ?_)
  · skip
    refine g_iconst (v := 0) hk dX6_hasReading_15 (by decide) ?_
    exact g_iret hk hR rfl ⟨0, (by decide), (by decide), rfl, rfl⟩ dX6_hasReading_16
  · skip
    refine g_iconst (v := 1) hk dX6_hasReading_11 (by decide) ?_
    refine g_goto (tgt := 16) hk dX6_hasReading_12 (by decide) ?_
    exact g_iret hk hR rfl ⟨1, (by decide), (by decide), rfl, rfl⟩ dX6_hasReading_16
def wo_m23_X4_has : List Cond := [Cond.fieldLink RX4 18 "WarpDesk$Queries" "size" "I"]
def wz_m23_X4_has : List Cond := .code yX4_has cX4_has 2 (some .boolean) :: (wo_m23_X4_has ++ (wsX40 ++ ([] : List Cond)))
theorem zg_m23_X4_has : ∀ w ∈ wz_m23_X4_has, goodWord w = true := zg_cons rfl (zg_app (by decide +kernel) (zg_app zgU_wsX40 zg_nil))
theorem zi_m23_X4_has : ∀ w ∈ wz_m23_X4_has, w ∈ lw_tbl := zi_cons zw_749 (zi_app (zi_cons zw_219 zi_nil) (zi_app inX4 zi_nil))
set_option maxHeartbeats 4000000 in
set_option maxRecDepth 100000 in
theorem m23_X4_has (l : Launch) (D : va_G) (zt : Nat × Nat × Nat) (A : Nat → Nat → Int32) (I : Nat → Int32) (d : Nat → ClassId) (q : Nat → Nat) (a189 : Int32) : GM l D zt (tyX d) yX4_has wz_m23_X4_has ({ frames := 0, cells := 0, slots := 0, locals := 0 } : Room) [.ref (q 15), .int a189] (wX q d I A) (fun v _ w' => ∃ (y193 : Int32), (0 ≤ y193.toInt) ∧ (y193.toInt ≤ 1) ∧ v = some (.int y193) ∧ w' = wX q d I A) 0 0 := by
  refine GM.of (cc := cX4_has) (maxL := 2) (ret := (some .boolean)) (own := RX4) (lv := [(0, .ref (q 15)), (1, .int a189)]) (by decide) rfl rfl (Nat.le_of_ble_eq_true rfl) rfl (fun κ sz hk hR hN => ?_)
  have hin4 : ∀ w ∈ u_ws RX4 TX4 3, w ∈ wz_m23_X4_has := fun w h => (List.mem_cons_of_mem _ (List.mem_append_right _ (List.mem_append_left _ h)))
  refine g_iload_n hk dX4_has_0 rfl ?_
  refine g_if_lt (tgt := 21) (a := a189.toInt) hk dX4_has_1 (by decide) rfl (fun c190 => ?_) (fun c190 => ?_)
  · skip
    refine g_iconst (v := 0) hk dX4_has_21 (by decide) ?_
    exact g_iret hk hR rfl ⟨0, (by decide), (by decide), rfl, rfl⟩ dX4_has_22
  · skip
    refine g_iload_n hk dX4_has_4 rfl ?_
    refine g_aload_n hk dX4_has_5 rfl ?_
    refine gX_i19 (v := (I 19)) hk hin4 (List.mem_cons_of_mem _ (List.mem_append_left _ (List.mem_of_getElem? (i := 0) rfl))) dX4_has_6 rfl ?_
    refine g_icmp_ge (tgt := 21) (a := a189.toInt) (b := (I 19).toInt) hk dX4_has_9 (by decide) rfl rfl (fun c191 => ?_) (fun c191 => ?_)
    · skip
      refine g_iconst (v := 0) hk dX4_has_21 (by decide) ?_
      exact g_iret hk hR rfl ⟨0, (by decide), (by decide), rfl, rfl⟩ dX4_has_22
    · skip
      refine g_iload_n hk dX4_has_12 rfl ?_
      refine g_iconst (v := 5) hk dX4_has_13 (by decide) ?_
      refine g_icmp_ge (tgt := 21) (a := a189.toInt) (b := 5) hk dX4_has_14 (by decide) rfl rfl (fun c192 => ?_) (fun c192 => ?_)
      · skip
        refine g_iconst (v := 0) hk dX4_has_21 (by decide) ?_
        exact g_iret hk hR rfl ⟨0, (by decide), (by decide), rfl, rfl⟩ dX4_has_22
      · skip
        refine g_iconst (v := 1) hk dX4_has_17 (by decide) ?_
        refine g_goto (tgt := 22) hk dX4_has_18 (by decide) ?_
        exact g_iret hk hR rfl ⟨1, (by decide), (by decide), rfl, rfl⟩ dX4_has_22
def wo_m24_X4_has : List Cond := [Cond.fieldLink RX4 18 "WarpDesk$Queries" "size" "I"]
def wz_m24_X4_has : List Cond := .code yX4_has cX4_has 2 (some .boolean) :: (wo_m24_X4_has ++ (wsX40 ++ ([] : List Cond)))
theorem zg_m24_X4_has : ∀ w ∈ wz_m24_X4_has, goodWord w = true := zg_cons rfl (zg_app (by decide +kernel) (zg_app zgU_wsX40 zg_nil))
theorem zi_m24_X4_has : ∀ w ∈ wz_m24_X4_has, w ∈ lw_tbl := zi_cons zw_749 (zi_app (zi_cons zw_219 zi_nil) (zi_app inX4 zi_nil))
set_option maxHeartbeats 4000000 in
set_option maxRecDepth 100000 in
theorem m24_X4_has (l : Launch) (D : va_G) (zt : Nat × Nat × Nat) (A : Nat → Nat → Int32) (I : Nat → Int32) (d : Nat → ClassId) (q : Nat → Nat) (a194 : Int32) : GM l D zt (tyX d) yX4_has wz_m24_X4_has ({ frames := 0, cells := 0, slots := 0, locals := 0 } : Room) [.ref (q 8), .int a194] (wX q d I A) (fun v _ w' => ∃ (y198 : Int32), (0 ≤ y198.toInt) ∧ (y198.toInt ≤ 1) ∧ v = some (.int y198) ∧ w' = wX q d I A) 0 0 := by
  refine GM.of (cc := cX4_has) (maxL := 2) (ret := (some .boolean)) (own := RX4) (lv := [(0, .ref (q 8)), (1, .int a194)]) (by decide) rfl rfl (Nat.le_of_ble_eq_true rfl) rfl (fun κ sz hk hR hN => ?_)
  have hin4 : ∀ w ∈ u_ws RX4 TX4 3, w ∈ wz_m24_X4_has := fun w h => (List.mem_cons_of_mem _ (List.mem_append_right _ (List.mem_append_left _ h)))
  refine g_iload_n hk dX4_has_0 rfl ?_
  refine g_if_lt (tgt := 21) (a := a194.toInt) hk dX4_has_1 (by decide) rfl (fun c195 => ?_) (fun c195 => ?_)
  · skip
    refine g_iconst (v := 0) hk dX4_has_21 (by decide) ?_
    exact g_iret hk hR rfl ⟨0, (by decide), (by decide), rfl, rfl⟩ dX4_has_22
  · skip
    refine g_iload_n hk dX4_has_4 rfl ?_
    refine g_aload_n hk dX4_has_5 rfl ?_
    refine gX_i16 (v := (I 16)) hk hin4 (List.mem_cons_of_mem _ (List.mem_append_left _ (List.mem_of_getElem? (i := 0) rfl))) dX4_has_6 rfl ?_
    refine g_icmp_ge (tgt := 21) (a := a194.toInt) (b := (I 16).toInt) hk dX4_has_9 (by decide) rfl rfl (fun c196 => ?_) (fun c196 => ?_)
    · skip
      refine g_iconst (v := 0) hk dX4_has_21 (by decide) ?_
      exact g_iret hk hR rfl ⟨0, (by decide), (by decide), rfl, rfl⟩ dX4_has_22
    · skip
      refine g_iload_n hk dX4_has_12 rfl ?_
      refine g_iconst (v := 5) hk dX4_has_13 (by decide) ?_
      refine g_icmp_ge (tgt := 21) (a := a194.toInt) (b := 5) hk dX4_has_14 (by decide) rfl rfl (fun c197 => ?_) (fun c197 => ?_)
      · skip
        refine g_iconst (v := 0) hk dX4_has_21 (by decide) ?_
        exact g_iret hk hR rfl ⟨0, (by decide), (by decide), rfl, rfl⟩ dX4_has_22
      · skip
        refine g_iconst (v := 1) hk dX4_has_17 (by decide) ?_
        refine g_goto (tgt := 22) hk dX4_has_18 (by decide) ?_
        exact g_iret hk hR rfl ⟨1, (by decide), (by decide), rfl, rfl⟩ dX4_has_22
def wo_m25_X7_valueOf : List Cond := [Cond.fieldLink RX7 20 "WarpDesk$Settings" "values" "[I"]
def wz_m25_X7_valueOf : List Cond := .code yX7_valueOf cX7_valueOf 2 (some .int) :: (wo_m25_X7_valueOf ++ (wsX70 ++ ([] : List Cond)))
theorem zg_m25_X7_valueOf : ∀ w ∈ wz_m25_X7_valueOf, goodWord w = true := zg_cons rfl (zg_app (by decide +kernel) (zg_app zgU_wsX70 zg_nil))
theorem zi_m25_X7_valueOf : ∀ w ∈ wz_m25_X7_valueOf, w ∈ lw_tbl := zi_cons zw_788 (zi_app (zi_cons zw_190 zi_nil) (zi_app inX7 zi_nil))
set_option maxHeartbeats 4000000 in
set_option maxRecDepth 100000 in
theorem m25_X7_valueOf (l : Launch) (D : va_G) (zt : Nat × Nat × Nat) (A : Nat → Nat → Int32) (I : Nat → Int32) (d : Nat → ClassId) (q : Nat → Nat) (a199 : Int32) : GM l D zt (tyX d) yX7_valueOf wz_m25_X7_valueOf ({ frames := 0, cells := 0, slots := 0, locals := 0 } : Room) [.ref (q 18), .int a199] (wX q d I A) (fun v _ w' => ∃ (y210 : Int32), v = some (.int y210) ∧ w' = wX q d I A) 0 0 := by
  refine GM.of (cc := cX7_valueOf) (maxL := 2) (ret := (some .int)) (own := RX7) (lv := [(0, .ref (q 18)), (1, .int a199)]) (by decide) rfl rfl (Nat.le_of_ble_eq_true rfl) rfl (fun κ sz hk hR hN => ?_)
  have hin7 : ∀ w ∈ u_ws RX7 TX7 1, w ∈ wz_m25_X7_valueOf := fun w h => (List.mem_cons_of_mem _ (List.mem_append_right _ (List.mem_append_left _ h)))
  refine g_iload_n hk dX7_valueOf_0 rfl ?_
  refine g_if_lt (tgt := 22) (a := a199.toInt) hk dX7_valueOf_1 (by decide) rfl (fun c200 => ?_) (fun c200 => ?_)
  · skip
    refine g_iconst (v := (-1)) hk dX7_valueOf_22 (by decide) ?_
    exact g_iret hk hR rfl ⟨(-1), rfl, rfl⟩ dX7_valueOf_23
  · skip
    refine g_iload_n hk dX7_valueOf_4 rfl ?_
    refine g_aload_n hk dX7_valueOf_5 rfl ?_
    refine gX_r18_0 hk hin7 (List.mem_cons_of_mem _ (List.mem_append_left _ (List.mem_of_getElem? (i := 0) rfl))) dX7_valueOf_6 ?_
    refine nX_10 hk dX7_valueOf_9 ?_
    refine g_icmp_ge (tgt := 22) (a := a199.toInt) (b := 4) hk dX7_valueOf_10 (by decide) rfl rfl (fun c201 => ?_) (fun c201 => ?_)
    · skip
      refine g_iconst (v := (-1)) hk dX7_valueOf_22 (by decide) ?_
      exact g_iret hk hR rfl ⟨(-1), rfl, rfl⟩ dX7_valueOf_23
    · skip
      refine g_aload_n hk dX7_valueOf_13 rfl ?_
      refine gX_r18_0 hk hin7 (List.mem_cons_of_mem _ (List.mem_append_left _ (List.mem_of_getElem? (i := 0) rfl))) dX7_valueOf_14 ?_
      refine g_iload_n hk dX7_valueOf_17 rfl ?_
      by_cases c202 : a199.toInt = 0
      · obtain rfl : a199 = 0 := Int32.toInt_inj.mp c202
        refine lX_10 hk (vp_in_iff.mpr ⟨by decide, by decide⟩) rfl dX7_valueOf_18 ?_
        refine g_topi (fun y203 ey203 => ?_)
        refine g_goto (tgt := 23) hk dX7_valueOf_19 (by decide) ?_
        exact g_iret hk hR rfl ⟨y203, rfl, rfl⟩ dX7_valueOf_23
      by_cases c204 : a199.toInt = 1
      · obtain rfl : a199 = 1 := Int32.toInt_inj.mp c204
        refine lX_10 hk (vp_in_iff.mpr ⟨by decide, by decide⟩) rfl dX7_valueOf_18 ?_
        refine g_topi (fun y205 ey205 => ?_)
        refine g_goto (tgt := 23) hk dX7_valueOf_19 (by decide) ?_
        exact g_iret hk hR rfl ⟨y205, rfl, rfl⟩ dX7_valueOf_23
      by_cases c206 : a199.toInt = 2
      · obtain rfl : a199 = 2 := Int32.toInt_inj.mp c206
        refine lX_10 hk (vp_in_iff.mpr ⟨by decide, by decide⟩) rfl dX7_valueOf_18 ?_
        refine g_topi (fun y207 ey207 => ?_)
        refine g_goto (tgt := 23) hk dX7_valueOf_19 (by decide) ?_
        exact g_iret hk hR rfl ⟨y207, rfl, rfl⟩ dX7_valueOf_23
      by_cases c208 : a199.toInt = 3
      · obtain rfl : a199 = 3 := Int32.toInt_inj.mp c208
        refine lX_10 hk (vp_in_iff.mpr ⟨by decide, by decide⟩) rfl dX7_valueOf_18 ?_
        refine g_topi (fun y209 ey209 => ?_)
        refine g_goto (tgt := 23) hk dX7_valueOf_19 (by decide) ?_
        exact g_iret hk hR rfl ⟨y209, rfl, rfl⟩ dX7_valueOf_23
      exfalso; omega
def wo_m27_X3_valueIn : List Cond := []
def wz_m27_X3_valueIn : List Cond := .code yX3_valueIn cX3_valueIn 2 (some .int) :: (wo_m27_X3_valueIn ++ ([] : List Cond))
theorem zg_m27_X3_valueIn : ∀ w ∈ wz_m27_X3_valueIn, goodWord w = true := zg_cons rfl (zg_app (by decide +kernel) zg_nil)
theorem zi_m27_X3_valueIn : ∀ w ∈ wz_m27_X3_valueIn, w ∈ lw_tbl := zi_cons zw_880 (zi_app zi_nil zi_nil)
set_option maxHeartbeats 4000000 in
set_option maxRecDepth 100000 in
theorem m27_X3_valueIn (l : Launch) (D : va_G) (zt : Nat × Nat × Nat) (A : Nat → Nat → Int32) (I : Nat → Int32) (d : Nat → ClassId) (q : Nat → Nat) (a211 : Int32) : GM l D zt (tyX d) yX3_valueIn wz_m27_X3_valueIn ({ frames := 0, cells := 0, slots := 0, locals := 0 } : Room) [.ref (q 21), .int a211] (wX q d I A) (fun v _ w' => ∃ (y215 : Int32), v = some (.int y215) ∧ w' = wX q d I A) 0 0 := by
  refine GM.of (cc := cX3_valueIn) (maxL := 2) (ret := (some .int)) (own := RX3) (lv := [(0, .ref (q 21)), (1, .int a211)]) (by decide) rfl rfl (Nat.le_of_ble_eq_true rfl) rfl (fun κ sz hk hR hN => ?_)
  refine g_iload_n hk dX3_valueIn_0 rfl ?_
  refine g_if_lt (tgt := 16) (a := a211.toInt) hk dX3_valueIn_1 (by decide) rfl (fun c212 => ?_) (fun c212 => ?_)
  · skip
    refine g_iconst (v := 0) hk dX3_valueIn_16 (by decide) ?_
    exact g_iret hk hR rfl ⟨0, rfl, rfl⟩ dX3_valueIn_17
  · skip
    refine g_iload_n hk dX3_valueIn_4 rfl ?_
    refine g_aload_n hk dX3_valueIn_5 rfl ?_
    refine nX_11 hk dX3_valueIn_6 ?_
    refine g_icmp_ge (tgt := 16) (a := a211.toInt) (b := 40) hk dX3_valueIn_7 (by decide) rfl rfl (fun c213 => ?_) (fun c213 => ?_)
    · skip
      refine g_iconst (v := 0) hk dX3_valueIn_16 (by decide) ?_
      exact g_iret hk hR rfl ⟨0, rfl, rfl⟩ dX3_valueIn_17
    · skip
      refine g_aload_n hk dX3_valueIn_10 rfl ?_
      refine g_iload_n hk dX3_valueIn_11 rfl ?_
      refine lX_11 hk (vp_in_iff.mpr ⟨by omega, by omega⟩) rfl dX3_valueIn_12 ?_
      refine g_topi (fun y214 ey214 => ?_)
      refine g_goto (tgt := 17) hk dX3_valueIn_13 (by decide) ?_
      exact g_iret hk hR rfl ⟨y214, rfl, rfl⟩ dX3_valueIn_17
def wo_m26_X3_kindOfStep : List Cond := [Cond.fieldLink RX3 9 "WarpDesk$Past" "kinds" "[I", Cond.fieldLink RX3 23 "WarpDesk$Past" "next" "I", Cond.methodLink RX3 32 yX3_valueIn, Cond.static yX3_valueIn, Cond.initialized RX3]
def wz_m26_X3_kindOfStep : List Cond := .code yX3_kindOfStep cX3_kindOfStep 1 (some .int) :: (wo_m26_X3_kindOfStep ++ (wsX30 ++ (wz_m27_X3_valueIn ++ ([] : List Cond))))
theorem zg_m26_X3_kindOfStep : ∀ w ∈ wz_m26_X3_kindOfStep, goodWord w = true := zg_cons rfl (zg_app (by decide +kernel) (zg_app zgU_wsX30 (zg_app zg_m27_X3_valueIn zg_nil)))
theorem zi_m26_X3_kindOfStep : ∀ w ∈ wz_m26_X3_kindOfStep, w ∈ lw_tbl := zi_cons zw_884 (zi_app (zi_cons zw_302 (zi_cons zw_305 (zi_cons zw_878 (zi_cons zw_879 (zi_cons zw_110 zi_nil))))) (zi_app inX3 (zi_app zi_m27_X3_valueIn zi_nil)))
set_option maxHeartbeats 4000000 in
set_option maxRecDepth 100000 in
theorem m26_X3_kindOfStep (l : Launch) (D : va_G) (zt : Nat × Nat × Nat) (A : Nat → Nat → Int32) (I : Nat → Int32) (d : Nat → ClassId) (q : Nat → Nat) : GM l D zt (tyX d) yX3_kindOfStep wz_m26_X3_kindOfStep ({ frames := 1, cells := 0, slots := 0, locals := 21 } : Room) [.ref (q 20)] (wX q d I A) (fun v _ w' => ∃ (y217 : Int32), v = some (.int y217) ∧ w' = wX q d I A) 0 0 := by
  refine GM.of (cc := cX3_kindOfStep) (maxL := 1) (ret := (some .int)) (own := RX3) (lv := [(0, .ref (q 20))]) (by decide) rfl rfl (Nat.le_of_ble_eq_true rfl) rfl (fun κ sz hk hR hN => ?_)
  have hin3 : ∀ w ∈ u_ws RX3 TX3 5, w ∈ wz_m26_X3_kindOfStep := fun w h => (List.mem_cons_of_mem _ (List.mem_append_right _ (List.mem_append_left _ h)))
  refine g_aload_n hk dX3_kindOfStep_0 rfl ?_
  refine gX_r20_0 hk hin3 (List.mem_cons_of_mem _ (List.mem_append_left _ (List.mem_of_getElem? (i := 0) rfl))) dX3_kindOfStep_1 ?_
  refine g_aload_n hk dX3_kindOfStep_4 rfl ?_
  refine gX_i20 (v := (I 20)) hk hin3 (List.mem_cons_of_mem _ (List.mem_append_left _ (List.mem_of_getElem? (i := 1) rfl))) dX3_kindOfStep_5 rfl ?_
  refine g_callS (n := 2) hk (m27_X3_valueIn l D zt A I d q (I 20)) (SP.same _) (fun _ h => h) (gi_S (List.mem_cons_of_mem _ (List.mem_append_left _ (List.mem_of_getElem? (i := 2) rfl))) (List.mem_cons_of_mem _ (List.mem_append_left _ (List.mem_of_getElem? (i := 3) rfl))) (List.mem_cons_of_mem _ (List.mem_append_left _ (List.mem_of_getElem? (i := 4) rfl))) (gi_sub (fun w h => (List.mem_cons_of_mem _ (List.mem_append_right _ (List.mem_append_right _ (List.mem_append_left _ h))))) zg_m27_X3_valueIn)) rfl rfl rfl (by decide +kernel) ⟨Nat.le_of_ble_eq_true rfl, Nat.le_of_ble_eq_true rfl⟩ rfl rfl (Nat.le_of_ble_eq_true rfl) ⟨Nat.le_of_ble_eq_true rfl, Nat.le_of_ble_eq_true rfl⟩ dX3_kindOfStep_8 (fun v ty' w' hp hk' => ?_)
  obtain ⟨y216, rfl, rfl⟩ := hp
  show GW κ 1 0 0 (wX q d I A) 11 [(0, .ref (q 20))] [.int y216]
  exact g_iret hk hR rfl ⟨y216, rfl, rfl⟩ dX3_kindOfStep_11
def wo_m28_X10_byteAt : List Cond := [Cond.fieldLink RX10 15 "WarpDesk$Tape" "size" "I", Cond.fieldLink RX10 9 "WarpDesk$Tape" "bytes" "[I"]
def wz_m28_X10_byteAt : List Cond := .code yX10_byteAt cX10_byteAt 2 (some .int) :: (wo_m28_X10_byteAt ++ (wsX100 ++ ([] : List Cond)))
theorem zg_m28_X10_byteAt : ∀ w ∈ wz_m28_X10_byteAt, goodWord w = true := zg_cons rfl (zg_app (by decide +kernel) (zg_app zgU_wsX100 zg_nil))
theorem zi_m28_X10_byteAt : ∀ w ∈ wz_m28_X10_byteAt, w ∈ lw_tbl := zi_cons zw_569 (zi_app (zi_cons zw_137 (zi_cons zw_135 zi_nil)) (zi_app inX10 zi_nil))
set_option maxHeartbeats 4000000 in
set_option maxRecDepth 100000 in
theorem m28_X10_byteAt (l : Launch) (D : va_G) (zt : Nat × Nat × Nat) (A : Nat → Nat → Int32) (I : Nat → Int32) (d : Nat → ClassId) (q : Nat → Nat) (a218 : Int32) : GM l D zt (tyX d) yX10_byteAt wz_m28_X10_byteAt ({ frames := 0, cells := 0, slots := 0, locals := 0 } : Room) [.ref (q 1), .int a218] (wX q d I A) (fun v _ w' => ∃ (y223 : Int32), v = some (.int y223) ∧ w' = wX q d I A) 0 0 := by
  refine GM.of (cc := cX10_byteAt) (maxL := 2) (ret := (some .int)) (own := RX10) (lv := [(0, .ref (q 1)), (1, .int a218)]) (by decide) rfl rfl (Nat.le_of_ble_eq_true rfl) rfl (fun κ sz hk hR hN => ?_)
  have hin10 : ∀ w ∈ u_ws RX10 TX10 7, w ∈ wz_m28_X10_byteAt := fun w h => (List.mem_cons_of_mem _ (List.mem_append_right _ (List.mem_append_left _ h)))
  refine g_iload_n hk dX10_byteAt_0 rfl ?_
  refine g_if_lt (tgt := 30) (a := a218.toInt) hk dX10_byteAt_1 (by decide) rfl (fun c219 => ?_) (fun c219 => ?_)
  · skip
    refine g_iconst (v := (-1)) hk dX10_byteAt_30 (by decide) ?_
    exact g_iret hk hR rfl ⟨(-1), rfl, rfl⟩ dX10_byteAt_31
  · skip
    refine g_iload_n hk dX10_byteAt_4 rfl ?_
    refine g_aload_n hk dX10_byteAt_5 rfl ?_
    refine gX_i0 (v := (I 0)) hk hin10 (List.mem_cons_of_mem _ (List.mem_append_left _ (List.mem_of_getElem? (i := 0) rfl))) dX10_byteAt_6 rfl ?_
    refine g_icmp_ge (tgt := 30) (a := a218.toInt) (b := (I 0).toInt) hk dX10_byteAt_9 (by decide) rfl rfl (fun c220 => ?_) (fun c220 => ?_)
    · skip
      refine g_iconst (v := (-1)) hk dX10_byteAt_30 (by decide) ?_
      exact g_iret hk hR rfl ⟨(-1), rfl, rfl⟩ dX10_byteAt_31
    · skip
      refine g_iload_n hk dX10_byteAt_12 rfl ?_
      refine g_aload_n hk dX10_byteAt_13 rfl ?_
      refine gX_r1_0 hk hin10 (List.mem_cons_of_mem _ (List.mem_append_left _ (List.mem_of_getElem? (i := 1) rfl))) dX10_byteAt_14 ?_
      refine nX_0 hk dX10_byteAt_17 ?_
      refine g_icmp_ge (tgt := 30) (a := a218.toInt) (b := 2000) hk dX10_byteAt_18 (by decide) rfl rfl (fun c221 => ?_) (fun c221 => ?_)
      · skip
        refine g_iconst (v := (-1)) hk dX10_byteAt_30 (by decide) ?_
        exact g_iret hk hR rfl ⟨(-1), rfl, rfl⟩ dX10_byteAt_31
      · skip
        refine g_aload_n hk dX10_byteAt_21 rfl ?_
        refine gX_r1_0 hk hin10 (List.mem_cons_of_mem _ (List.mem_append_left _ (List.mem_of_getElem? (i := 1) rfl))) dX10_byteAt_22 ?_
        refine g_iload_n hk dX10_byteAt_25 rfl ?_
        refine lX_0 hk (vp_in_iff.mpr ⟨by omega, by omega⟩) rfl dX10_byteAt_26 ?_
        refine g_topi (fun y222 ey222 => ?_)
        refine g_goto (tgt := 31) hk dX10_byteAt_27 (by decide) ?_
        exact g_iret hk hR rfl ⟨y222, rfl, rfl⟩ dX10_byteAt_31
def wo_m29_X10_lengthAtHand : List Cond := [Cond.fieldLink RX10 19 "WarpDesk$Tape" "behind" "I", Cond.fieldLink RX10 32 "WarpDesk$Tape" "start" "I"]
def wz_m29_X10_lengthAtHand : List Cond := .code yX10_lengthAtHand cX10_lengthAtHand 1 (some .int) :: (wo_m29_X10_lengthAtHand ++ (wsX100 ++ ([] : List Cond)))
theorem zg_m29_X10_lengthAtHand : ∀ w ∈ wz_m29_X10_lengthAtHand, goodWord w = true := zg_cons rfl (zg_app (by decide +kernel) (zg_app zgU_wsX100 zg_nil))
theorem zi_m29_X10_lengthAtHand : ∀ w ∈ wz_m29_X10_lengthAtHand, w ∈ lw_tbl := zi_cons zw_600 (zi_app (zi_cons zw_146 (zi_cons zw_140 zi_nil)) (zi_app inX10 zi_nil))
set_option maxHeartbeats 4000000 in
set_option maxRecDepth 100000 in
theorem m29_X10_lengthAtHand (l : Launch) (D : va_G) (zt : Nat × Nat × Nat) (A : Nat → Nat → Int32) (I : Nat → Int32) (d : Nat → ClassId) (q : Nat → Nat) : GM l D zt (tyX d) yX10_lengthAtHand wz_m29_X10_lengthAtHand ({ frames := 0, cells := 0, slots := 0, locals := 0 } : Room) [.ref (q 1)] (wX q d I A) (fun v _ w' => ∃ (y225 : Int32), v = some (.int y225) ∧ w' = wX q d I A) 0 0 := by
  refine GM.of (cc := cX10_lengthAtHand) (maxL := 1) (ret := (some .int)) (own := RX10) (lv := [(0, .ref (q 1))]) (by decide) rfl rfl (Nat.le_of_ble_eq_true rfl) rfl (fun κ sz hk hR hN => ?_)
  have hin10 : ∀ w ∈ u_ws RX10 TX10 7, w ∈ wz_m29_X10_lengthAtHand := fun w h => (List.mem_cons_of_mem _ (List.mem_append_right _ (List.mem_append_left _ h)))
  refine g_aload_n hk dX10_lengthAtHand_0 rfl ?_
  refine gX_i5 (v := (I 5)) hk hin10 (List.mem_cons_of_mem _ (List.mem_append_left _ (List.mem_of_getElem? (i := 0) rfl))) dX10_lengthAtHand_1 rfl ?_
  refine g_aload_n hk dX10_lengthAtHand_4 rfl ?_
  refine gX_i2 (v := (I 2)) hk hin10 (List.mem_cons_of_mem _ (List.mem_append_left _ (List.mem_of_getElem? (i := 1) rfl))) dX10_lengthAtHand_5 rfl ?_
  refine g_isub hk dX10_lengthAtHand_8 ?_
  refine g_topi (fun y224 ey224 => ?_)
  exact g_iret hk hR rfl ⟨y224, rfl, rfl⟩ dX10_lengthAtHand_9
def wo_m30_X8_valueAt : List Cond := [Cond.fieldLink RX8 22 "WarpDesk$Stand" "size" "I", Cond.fieldLink RX8 9 "WarpDesk$Stand" "places" "[I"]
def wz_m30_X8_valueAt : List Cond := .code yX8_valueAt cX8_valueAt 2 (some .int) :: (wo_m30_X8_valueAt ++ (wsX80 ++ ([] : List Cond)))
theorem zg_m30_X8_valueAt : ∀ w ∈ wz_m30_X8_valueAt, goodWord w = true := zg_cons rfl (zg_app (by decide +kernel) (zg_app zgU_wsX80 zg_nil))
theorem zi_m30_X8_valueAt : ∀ w ∈ wz_m30_X8_valueAt, w ∈ lw_tbl := zi_cons zw_776 (zi_app (zi_cons zw_195 (zi_cons zw_194 zi_nil)) (zi_app inX8 zi_nil))
set_option maxHeartbeats 4000000 in
set_option maxRecDepth 100000 in
theorem m30_X8_valueAt (l : Launch) (D : va_G) (zt : Nat × Nat × Nat) (A : Nat → Nat → Int32) (I : Nat → Int32) (d : Nat → ClassId) (q : Nat → Nat) (a226 : Int32) : GM l D zt (tyX d) yX8_valueAt wz_m30_X8_valueAt ({ frames := 0, cells := 0, slots := 0, locals := 0 } : Room) [.ref (q 4), .int a226] (wX q d I A) (fun v _ w' => ∃ (y231 : Int32), v = some (.int y231) ∧ w' = wX q d I A) 0 0 := by
  refine GM.of (cc := cX8_valueAt) (maxL := 2) (ret := (some .int)) (own := RX8) (lv := [(0, .ref (q 4)), (1, .int a226)]) (by decide) rfl rfl (Nat.le_of_ble_eq_true rfl) rfl (fun κ sz hk hR hN => ?_)
  have hin8 : ∀ w ∈ u_ws RX8 TX8 4, w ∈ wz_m30_X8_valueAt := fun w h => (List.mem_cons_of_mem _ (List.mem_append_right _ (List.mem_append_left _ h)))
  refine g_iload_n hk dX8_valueAt_0 rfl ?_
  refine g_if_lt (tgt := 30) (a := a226.toInt) hk dX8_valueAt_1 (by decide) rfl (fun c227 => ?_) (fun c227 => ?_)
  · skip
    refine g_sipush (v := (-1000)) hk dX8_valueAt_30 (by decide) ?_
    exact g_iret hk hR rfl ⟨(-1000), rfl, rfl⟩ dX8_valueAt_33
  · skip
    refine g_iload_n hk dX8_valueAt_4 rfl ?_
    refine g_aload_n hk dX8_valueAt_5 rfl ?_
    refine gX_i14 (v := (I 14)) hk hin8 (List.mem_cons_of_mem _ (List.mem_append_left _ (List.mem_of_getElem? (i := 0) rfl))) dX8_valueAt_6 rfl ?_
    refine g_icmp_ge (tgt := 30) (a := a226.toInt) (b := (I 14).toInt) hk dX8_valueAt_9 (by decide) rfl rfl (fun c228 => ?_) (fun c228 => ?_)
    · skip
      refine g_sipush (v := (-1000)) hk dX8_valueAt_30 (by decide) ?_
      exact g_iret hk hR rfl ⟨(-1000), rfl, rfl⟩ dX8_valueAt_33
    · skip
      refine g_iload_n hk dX8_valueAt_12 rfl ?_
      refine g_aload_n hk dX8_valueAt_13 rfl ?_
      refine gX_r4_0 hk hin8 (List.mem_cons_of_mem _ (List.mem_append_left _ (List.mem_of_getElem? (i := 1) rfl))) dX8_valueAt_14 ?_
      refine nX_1 hk dX8_valueAt_17 ?_
      refine g_icmp_ge (tgt := 30) (a := a226.toInt) (b := 160) hk dX8_valueAt_18 (by decide) rfl rfl (fun c229 => ?_) (fun c229 => ?_)
      · skip
        refine g_sipush (v := (-1000)) hk dX8_valueAt_30 (by decide) ?_
        exact g_iret hk hR rfl ⟨(-1000), rfl, rfl⟩ dX8_valueAt_33
      · skip
        refine g_aload_n hk dX8_valueAt_21 rfl ?_
        refine gX_r4_0 hk hin8 (List.mem_cons_of_mem _ (List.mem_append_left _ (List.mem_of_getElem? (i := 1) rfl))) dX8_valueAt_22 ?_
        refine g_iload_n hk dX8_valueAt_25 rfl ?_
        refine lX_1 hk (vp_in_iff.mpr ⟨by omega, by omega⟩) rfl dX8_valueAt_26 ?_
        refine g_topi (fun y230 ey230 => ?_)
        refine g_goto (tgt := 33) hk dX8_valueAt_27 (by decide) ?_
        exact g_iret hk hR rfl ⟨y230, rfl, rfl⟩ dX8_valueAt_33
end
