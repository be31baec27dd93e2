section
-- ===== PART A: goes FIRST, ahead of the names: the tables' words, and 'selects' of the private methods out of them =====
/-- a private method of a class that the tables say can be made, by its rows of tables_1 -/
def lw_okq (q : MethodName × Nat) : Prop := (q.1.cls ≠ "java/lang/invoke/MethodHandle" ∧ q.1.cls ≠ "java/lang/invoke/VarHandle") ∧ Cond.instantiable q.1.cls q.2 ∈ tables_1 ∧ Cond.privateMethod q.1 ∈ tables_1 ∧ Cond.instanceMethod q.1 ∈ tables_1
theorem lw_p0 : lw_okq (⟨"WarpDesk$Reader", "begin", "()V"⟩, 13) := ⟨⟨by decide +kernel, by decide +kernel⟩, List.mem_of_getElem? (i := 62) (by decide +kernel), List.mem_of_getElem? (i := 437) (by decide +kernel), List.mem_of_getElem? (i := 438) (by decide +kernel)⟩
theorem lw_p1 : lw_okq (⟨"WarpDesk$Tape", "behindBlanks", "(I)I"⟩, 7) := ⟨⟨by decide +kernel, by decide +kernel⟩, List.mem_of_getElem? (i := 28) (by decide +kernel), List.mem_of_getElem? (i := 461) (by decide +kernel), List.mem_of_getElem? (i := 462) (by decide +kernel)⟩
theorem lw_p2 : lw_okq (⟨"WarpDesk$Tape", "byteAt", "(I)I"⟩, 7) := ⟨⟨by decide +kernel, by decide +kernel⟩, List.mem_of_getElem? (i := 28) (by decide +kernel), List.mem_of_getElem? (i := 465) (by decide +kernel), List.mem_of_getElem? (i := 466) (by decide +kernel)⟩
theorem lw_p3 : lw_okq (⟨"WarpDesk$Tape", "takeLetters", "()V"⟩, 7) := ⟨⟨by decide +kernel, by decide +kernel⟩, List.mem_of_getElem? (i := 28) (by decide +kernel), List.mem_of_getElem? (i := 472) (by decide +kernel), List.mem_of_getElem? (i := 473) (by decide +kernel)⟩
theorem lw_p4 : lw_okq (⟨"WarpDesk$Tape", "takeDigits", "()V"⟩, 7) := ⟨⟨by decide +kernel, by decide +kernel⟩, List.mem_of_getElem? (i := 28) (by decide +kernel), List.mem_of_getElem? (i := 479) (by decide +kernel), List.mem_of_getElem? (i := 480) (by decide +kernel)⟩
theorem lw_p5 : lw_okq (⟨"WarpDesk$Reader", "mayStand", "()Z"⟩, 13) := ⟨⟨by decide +kernel, by decide +kernel⟩, List.mem_of_getElem? (i := 62) (by decide +kernel), List.mem_of_getElem? (i := 483) (by decide +kernel), List.mem_of_getElem? (i := 484) (by decide +kernel)⟩
theorem lw_p6 : lw_okq (⟨"WarpDesk$Reader", "tellAtHand", "()I"⟩, 13) := ⟨⟨by decide +kernel, by decide +kernel⟩, List.mem_of_getElem? (i := 62) (by decide +kernel), List.mem_of_getElem? (i := 487) (by decide +kernel), List.mem_of_getElem? (i := 488) (by decide +kernel)⟩
theorem lw_p7 : lw_okq (⟨"WarpDesk$Reader", "mayStandInRow", "()Z"⟩, 13) := ⟨⟨by decide +kernel, by decide +kernel⟩, List.mem_of_getElem? (i := 62) (by decide +kernel), List.mem_of_getElem? (i := 553) (by decide +kernel), List.mem_of_getElem? (i := 554) (by decide +kernel)⟩
theorem lw_p8 : lw_okq (⟨"WarpDesk$Reader", "isNameAtHand", "()Z"⟩, 13) := ⟨⟨by decide +kernel, by decide +kernel⟩, List.mem_of_getElem? (i := 62) (by decide +kernel), List.mem_of_getElem? (i := 558) (by decide +kernel), List.mem_of_getElem? (i := 559) (by decide +kernel)⟩
theorem lw_p9 : lw_okq (⟨"WarpDesk$Reader", "levelAtHand", "()I"⟩, 13) := ⟨⟨by decide +kernel, by decide +kernel⟩, List.mem_of_getElem? (i := 62) (by decide +kernel), List.mem_of_getElem? (i := 562) (by decide +kernel), List.mem_of_getElem? (i := 563) (by decide +kernel)⟩
theorem lw_p10 : lw_okq (⟨"WarpDesk$Reader", "costAtHand", "()I"⟩, 13) := ⟨⟨by decide +kernel, by decide +kernel⟩, List.mem_of_getElem? (i := 62) (by decide +kernel), List.mem_of_getElem? (i := 570) (by decide +kernel), List.mem_of_getElem? (i := 571) (by decide +kernel)⟩
theorem lw_p11 : lw_okq (⟨"WarpDesk$Reader", "choiceAtHand", "()I"⟩, 13) := ⟨⟨by decide +kernel, by decide +kernel⟩, List.mem_of_getElem? (i := 62) (by decide +kernel), List.mem_of_getElem? (i := 576) (by decide +kernel), List.mem_of_getElem? (i := 577) (by decide +kernel)⟩
theorem lw_p12 : lw_okq (⟨"WarpDesk$Reader", "stop", "(I)V"⟩, 13) := ⟨⟨by decide +kernel, by decide +kernel⟩, List.mem_of_getElem? (i := 62) (by decide +kernel), List.mem_of_getElem? (i := 580) (by decide +kernel), List.mem_of_getElem? (i := 581) (by decide +kernel)⟩
theorem lw_p13 : lw_okq (⟨"WarpDesk$Reader", "keepFault", "(I)V"⟩, 13) := ⟨⟨by decide +kernel, by decide +kernel⟩, List.mem_of_getElem? (i := 62) (by decide +kernel), List.mem_of_getElem? (i := 584) (by decide +kernel), List.mem_of_getElem? (i := 585) (by decide +kernel)⟩
theorem lw_p14 : lw_okq (⟨"WarpDesk$Reader", "hasRoom", "()Z"⟩, 13) := ⟨⟨by decide +kernel, by decide +kernel⟩, List.mem_of_getElem? (i := 62) (by decide +kernel), List.mem_of_getElem? (i := 588) (by decide +kernel), List.mem_of_getElem? (i := 589) (by decide +kernel)⟩
theorem lw_p15 : lw_okq (⟨"WarpDesk$Reader", "accept", "()V"⟩, 13) := ⟨⟨by decide +kernel, by decide +kernel⟩, List.mem_of_getElem? (i := 62) (by decide +kernel), List.mem_of_getElem? (i := 592) (by decide +kernel), List.mem_of_getElem? (i := 593) (by decide +kernel)⟩
def lw_privs_1 : List (MethodName × Nat) := [(⟨"WarpDesk$Reader", "begin", "()V"⟩, 13), (⟨"WarpDesk$Tape", "behindBlanks", "(I)I"⟩, 7), (⟨"WarpDesk$Tape", "byteAt", "(I)I"⟩, 7), (⟨"WarpDesk$Tape", "takeLetters", "()V"⟩, 7), (⟨"WarpDesk$Tape", "takeDigits", "()V"⟩, 7), (⟨"WarpDesk$Reader", "mayStand", "()Z"⟩, 13), (⟨"WarpDesk$Reader", "tellAtHand", "()I"⟩, 13), (⟨"WarpDesk$Reader", "mayStandInRow", "()Z"⟩, 13), (⟨"WarpDesk$Reader", "isNameAtHand", "()Z"⟩, 13), (⟨"WarpDesk$Reader", "levelAtHand", "()I"⟩, 13), (⟨"WarpDesk$Reader", "costAtHand", "()I"⟩, 13), (⟨"WarpDesk$Reader", "choiceAtHand", "()I"⟩, 13), (⟨"WarpDesk$Reader", "stop", "(I)V"⟩, 13), (⟨"WarpDesk$Reader", "keepFault", "(I)V"⟩, 13), (⟨"WarpDesk$Reader", "hasRoom", "()Z"⟩, 13), (⟨"WarpDesk$Reader", "accept", "()V"⟩, 13)]
theorem lw_r1 : ∀ q ∈ lw_privs_1, lw_okq q := List.forall_mem_cons.mpr ⟨lw_p0, List.forall_mem_cons.mpr ⟨lw_p1, List.forall_mem_cons.mpr ⟨lw_p2, List.forall_mem_cons.mpr ⟨lw_p3, List.forall_mem_cons.mpr ⟨lw_p4, List.forall_mem_cons.mpr ⟨lw_p5, List.forall_mem_cons.mpr ⟨lw_p6, List.forall_mem_cons.mpr ⟨lw_p7, List.forall_mem_cons.mpr ⟨lw_p8, List.forall_mem_cons.mpr ⟨lw_p9, List.forall_mem_cons.mpr ⟨lw_p10, List.forall_mem_cons.mpr ⟨lw_p11, List.forall_mem_cons.mpr ⟨lw_p12, List.forall_mem_cons.mpr ⟨lw_p13, List.forall_mem_cons.mpr ⟨lw_p14, List.forall_mem_cons.mpr ⟨lw_p15, fun _ h => absurd h List.not_mem_nil⟩⟩⟩⟩⟩⟩⟩⟩⟩⟩⟩⟩⟩⟩⟩⟩
theorem lw_p16 : lw_okq (⟨"WarpDesk$Reader", "beginTell", "()V"⟩, 13) := ⟨⟨by decide +kernel, by decide +kernel⟩, List.mem_of_getElem? (i := 62) (by decide +kernel), List.mem_of_getElem? (i := 596) (by decide +kernel), List.mem_of_getElem? (i := 597) (by decide +kernel)⟩
theorem lw_p17 : lw_okq (⟨"WarpDesk$Reader", "acceptName", "()V"⟩, 13) := ⟨⟨by decide +kernel, by decide +kernel⟩, List.mem_of_getElem? (i := 62) (by decide +kernel), List.mem_of_getElem? (i := 600) (by decide +kernel), List.mem_of_getElem? (i := 601) (by decide +kernel)⟩
theorem lw_p18 : lw_okq (⟨"WarpDesk$Reader", "mark", "(I)V"⟩, 13) := ⟨⟨by decide +kernel, by decide +kernel⟩, List.mem_of_getElem? (i := 62) (by decide +kernel), List.mem_of_getElem? (i := 608) (by decide +kernel), List.mem_of_getElem? (i := 609) (by decide +kernel)⟩
theorem lw_p19 : lw_okq (⟨"WarpDesk$Reader", "acceptNumber", "()V"⟩, 13) := ⟨⟨by decide +kernel, by decide +kernel⟩, List.mem_of_getElem? (i := 62) (by decide +kernel), List.mem_of_getElem? (i := 617) (by decide +kernel), List.mem_of_getElem? (i := 618) (by decide +kernel)⟩
theorem lw_p20 : lw_okq (⟨"WarpDesk$Reader", "acceptInRow", "()V"⟩, 13) := ⟨⟨by decide +kernel, by decide +kernel⟩, List.mem_of_getElem? (i := 62) (by decide +kernel), List.mem_of_getElem? (i := 629) (by decide +kernel), List.mem_of_getElem? (i := 630) (by decide +kernel)⟩
theorem lw_p21 : lw_okq (⟨"WarpDesk$Reader", "keepInRow", "(I)V"⟩, 13) := ⟨⟨by decide +kernel, by decide +kernel⟩, List.mem_of_getElem? (i := 62) (by decide +kernel), List.mem_of_getElem? (i := 633) (by decide +kernel), List.mem_of_getElem? (i := 634) (by decide +kernel)⟩
theorem lw_p22 : lw_okq (⟨"WarpDesk", "goOnFrom", "(LWarpDesk$Stand;)V"⟩, 10) := ⟨⟨by decide +kernel, by decide +kernel⟩, List.mem_of_getElem? (i := 20) (by decide +kernel), List.mem_of_getElem? (i := 664) (by decide +kernel), List.mem_of_getElem? (i := 665) (by decide +kernel)⟩
theorem lw_p23 : lw_okq (⟨"WarpDesk", "appendPlace", "(I)I"⟩, 10) := ⟨⟨by decide +kernel, by decide +kernel⟩, List.mem_of_getElem? (i := 20) (by decide +kernel), List.mem_of_getElem? (i := 718) (by decide +kernel), List.mem_of_getElem? (i := 719) (by decide +kernel)⟩
theorem lw_p24 : lw_okq (⟨"WarpDesk$Bench", "begin", "(II)V"⟩, 5) := ⟨⟨by decide +kernel, by decide +kernel⟩, List.mem_of_getElem? (i := 221) (by decide +kernel), List.mem_of_getElem? (i := 833) (by decide +kernel), List.mem_of_getElem? (i := 834) (by decide +kernel)⟩
theorem lw_p25 : lw_okq (⟨"WarpDesk$Fit", "sumOf", "([I)I"⟩, 10) := ⟨⟨by decide +kernel, by decide +kernel⟩, List.mem_of_getElem? (i := 227) (by decide +kernel), List.mem_of_getElem? (i := 851) (by decide +kernel), List.mem_of_getElem? (i := 852) (by decide +kernel)⟩
theorem lw_p26 : lw_okq (⟨"WarpDesk$Fit", "lessenAll", "([II)V"⟩, 10) := ⟨⟨by decide +kernel, by decide +kernel⟩, List.mem_of_getElem? (i := 227) (by decide +kernel), List.mem_of_getElem? (i := 856) (by decide +kernel), List.mem_of_getElem? (i := 857) (by decide +kernel)⟩
theorem lw_p27 : lw_okq (⟨"WarpDesk$Fit", "spreadAll", "([I)V"⟩, 10) := ⟨⟨by decide +kernel, by decide +kernel⟩, List.mem_of_getElem? (i := 227) (by decide +kernel), List.mem_of_getElem? (i := 860) (by decide +kernel), List.mem_of_getElem? (i := 861) (by decide +kernel)⟩
theorem lw_p28 : lw_okq (⟨"WarpDesk$Fit", "layTable", "(I)V"⟩, 10) := ⟨⟨by decide +kernel, by decide +kernel⟩, List.mem_of_getElem? (i := 227) (by decide +kernel), List.mem_of_getElem? (i := 896) (by decide +kernel), List.mem_of_getElem? (i := 897) (by decide +kernel)⟩
theorem lw_p29 : lw_okq (⟨"WarpDesk$Fit", "layRow", "(I)I"⟩, 10) := ⟨⟨by decide +kernel, by decide +kernel⟩, List.mem_of_getElem? (i := 227) (by decide +kernel), List.mem_of_getElem? (i := 900) (by decide +kernel), List.mem_of_getElem? (i := 901) (by decide +kernel)⟩
theorem lw_p30 : lw_okq (⟨"WarpDesk$Fit", "costOf", "(II)I"⟩, 10) := ⟨⟨by decide +kernel, by decide +kernel⟩, List.mem_of_getElem? (i := 227) (by decide +kernel), List.mem_of_getElem? (i := 904) (by decide +kernel), List.mem_of_getElem? (i := 905) (by decide +kernel)⟩
theorem lw_p31 : lw_okq (⟨"WarpDesk$Fit", "leastAhead", "(II)I"⟩, 10) := ⟨⟨by decide +kernel, by decide +kernel⟩, List.mem_of_getElem? (i := 227) (by decide +kernel), List.mem_of_getElem? (i := 908) (by decide +kernel), List.mem_of_getElem? (i := 909) (by decide +kernel)⟩
def lw_privs_2 : List (MethodName × Nat) := [(⟨"WarpDesk$Reader", "beginTell", "()V"⟩, 13), (⟨"WarpDesk$Reader", "acceptName", "()V"⟩, 13), (⟨"WarpDesk$Reader", "mark", "(I)V"⟩, 13), (⟨"WarpDesk$Reader", "acceptNumber", "()V"⟩, 13), (⟨"WarpDesk$Reader", "acceptInRow", "()V"⟩, 13), (⟨"WarpDesk$Reader", "keepInRow", "(I)V"⟩, 13), (⟨"WarpDesk", "goOnFrom", "(LWarpDesk$Stand;)V"⟩, 10), (⟨"WarpDesk", "appendPlace", "(I)I"⟩, 10), (⟨"WarpDesk$Bench", "begin", "(II)V"⟩, 5), (⟨"WarpDesk$Fit", "sumOf", "([I)I"⟩, 10), (⟨"WarpDesk$Fit", "lessenAll", "([II)V"⟩, 10), (⟨"WarpDesk$Fit", "spreadAll", "([I)V"⟩, 10), (⟨"WarpDesk$Fit", "layTable", "(I)V"⟩, 10), (⟨"WarpDesk$Fit", "layRow", "(I)I"⟩, 10), (⟨"WarpDesk$Fit", "costOf", "(II)I"⟩, 10), (⟨"WarpDesk$Fit", "leastAhead", "(II)I"⟩, 10)]
theorem lw_r2 : ∀ q ∈ lw_privs_2, lw_okq q := List.forall_mem_cons.mpr ⟨lw_p16, List.forall_mem_cons.mpr ⟨lw_p17, List.forall_mem_cons.mpr ⟨lw_p18, List.forall_mem_cons.mpr ⟨lw_p19, List.forall_mem_cons.mpr ⟨lw_p20, List.forall_mem_cons.mpr ⟨lw_p21, List.forall_mem_cons.mpr ⟨lw_p22, List.forall_mem_cons.mpr ⟨lw_p23, List.forall_mem_cons.mpr ⟨lw_p24, List.forall_mem_cons.mpr ⟨lw_p25, List.forall_mem_cons.mpr ⟨lw_p26, List.forall_mem_cons.mpr ⟨lw_p27, List.forall_mem_cons.mpr ⟨lw_p28, List.forall_mem_cons.mpr ⟨lw_p29, List.forall_mem_cons.mpr ⟨lw_p30, List.forall_mem_cons.mpr ⟨lw_p31, fun _ h => absurd h List.not_mem_nil⟩⟩⟩⟩⟩⟩⟩⟩⟩⟩⟩⟩⟩⟩⟩⟩
theorem lw_p32 : lw_okq (⟨"WarpDesk$Fit", "envelopeBound", "([I[I)I"⟩, 10) := ⟨⟨by decide +kernel, by decide +kernel⟩, List.mem_of_getElem? (i := 227) (by decide +kernel), List.mem_of_getElem? (i := 928) (by decide +kernel), List.mem_of_getElem? (i := 929) (by decide +kernel)⟩
theorem lw_p33 : lw_okq (⟨"WarpDesk$Fit", "outsideCost", "(I[II)I"⟩, 10) := ⟨⟨by decide +kernel, by decide +kernel⟩, List.mem_of_getElem? (i := 227) (by decide +kernel), List.mem_of_getElem? (i := 932) (by decide +kernel), List.mem_of_getElem? (i := 933) (by decide +kernel)⟩
theorem lw_p34 : lw_okq (⟨"WarpDesk$Fit", "cellAt", "(II)I"⟩, 10) := ⟨⟨by decide +kernel, by decide +kernel⟩, List.mem_of_getElem? (i := 227) (by decide +kernel), List.mem_of_getElem? (i := 957) (by decide +kernel), List.mem_of_getElem? (i := 958) (by decide +kernel)⟩
theorem lw_p35 : lw_okq (⟨"WarpDesk$Finder", "addToTally", "(I)V"⟩, 11) := ⟨⟨by decide +kernel, by decide +kernel⟩, List.mem_of_getElem? (i := 295) (by decide +kernel), List.mem_of_getElem? (i := 1038) (by decide +kernel), List.mem_of_getElem? (i := 1039) (by decide +kernel)⟩
theorem lw_p36 : lw_okq (⟨"WarpDesk$Finder", "leastScanned", "()I"⟩, 11) := ⟨⟨by decide +kernel, by decide +kernel⟩, List.mem_of_getElem? (i := 295) (by decide +kernel), List.mem_of_getElem? (i := 1054) (by decide +kernel), List.mem_of_getElem? (i := 1055) (by decide +kernel)⟩
theorem lw_p37 : lw_okq (⟨"WarpDesk$Finder", "passOverAround", "(I)V"⟩, 11) := ⟨⟨by decide +kernel, by decide +kernel⟩, List.mem_of_getElem? (i := 295) (by decide +kernel), List.mem_of_getElem? (i := 1058) (by decide +kernel), List.mem_of_getElem? (i := 1059) (by decide +kernel)⟩
theorem lw_p38 : lw_okq (⟨"WarpDesk$Finder", "coverFrom", "(II)V"⟩, 11) := ⟨⟨by decide +kernel, by decide +kernel⟩, List.mem_of_getElem? (i := 295) (by decide +kernel), List.mem_of_getElem? (i := 1089) (by decide +kernel), List.mem_of_getElem? (i := 1090) (by decide +kernel)⟩
theorem lw_p39 : lw_okq (⟨"WarpDesk$Stretches", "bringAll", "(I)V"⟩, 11) := ⟨⟨by decide +kernel, by decide +kernel⟩, List.mem_of_getElem? (i := 339) (by decide +kernel), List.mem_of_getElem? (i := 1154) (by decide +kernel), List.mem_of_getElem? (i := 1155) (by decide +kernel)⟩
theorem lw_p40 : lw_okq (⟨"WarpDesk$Fit", "copyRow", "([II[II)V"⟩, 10) := ⟨⟨by decide +kernel, by decide +kernel⟩, List.mem_of_getElem? (i := 227) (by decide +kernel), List.mem_of_getElem? (i := 1164) (by decide +kernel), List.mem_of_getElem? (i := 1165) (by decide +kernel)⟩
theorem lw_p41 : lw_okq (⟨"WarpDesk$Stretches", "findNearest", "(III)V"⟩, 11) := ⟨⟨by decide +kernel, by decide +kernel⟩, List.mem_of_getElem? (i := 339) (by decide +kernel), List.mem_of_getElem? (i := 1168) (by decide +kernel), List.mem_of_getElem? (i := 1169) (by decide +kernel)⟩
theorem lw_p42 : lw_okq (⟨"WarpDesk$Stretches", "seekPairOf", "(II)V"⟩, 11) := ⟨⟨by decide +kernel, by decide +kernel⟩, List.mem_of_getElem? (i := 339) (by decide +kernel), List.mem_of_getElem? (i := 1192) (by decide +kernel), List.mem_of_getElem? (i := 1193) (by decide +kernel)⟩
theorem lw_p43 : lw_okq (⟨"WarpDesk", "slotsHeld", "()I"⟩, 10) := ⟨⟨by decide +kernel, by decide +kernel⟩, List.mem_of_getElem? (i := 20) (by decide +kernel), List.mem_of_getElem? (i := 1250) (by decide +kernel), List.mem_of_getElem? (i := 1251) (by decide +kernel)⟩
theorem lw_p44 : lw_okq (⟨"WarpDeskModel", "plain", "(I)V"⟩, 55) := ⟨⟨by decide +kernel, by decide +kernel⟩, List.mem_of_getElem? (i := 1254) (by decide +kernel), List.mem_of_getElem? (i := 1260) (by decide +kernel), List.mem_of_getElem? (i := 1261) (by decide +kernel)⟩
theorem lw_p45 : lw_okq (⟨"WarpDeskModel", "begins", "()V"⟩, 55) := ⟨⟨by decide +kernel, by decide +kernel⟩, List.mem_of_getElem? (i := 1254) (by decide +kernel), List.mem_of_getElem? (i := 1271) (by decide +kernel), List.mem_of_getElem? (i := 1272) (by decide +kernel)⟩
theorem lw_p46 : lw_okq (⟨"WarpDeskModel", "keepsRow", "()V"⟩, 55) := ⟨⟨by decide +kernel, by decide +kernel⟩, List.mem_of_getElem? (i := 1254) (by decide +kernel), List.mem_of_getElem? (i := 1275) (by decide +kernel), List.mem_of_getElem? (i := 1276) (by decide +kernel)⟩
theorem lw_p47 : lw_okq (⟨"WarpDeskModel", "lays", "(I)V"⟩, 55) := ⟨⟨by decide +kernel, by decide +kernel⟩, List.mem_of_getElem? (i := 1254) (by decide +kernel), List.mem_of_getElem? (i := 1448) (by decide +kernel), List.mem_of_getElem? (i := 1449) (by decide +kernel)⟩
def lw_privs_3 : List (MethodName × Nat) := [(⟨"WarpDesk$Fit", "envelopeBound", "([I[I)I"⟩, 10), (⟨"WarpDesk$Fit", "outsideCost", "(I[II)I"⟩, 10), (⟨"WarpDesk$Fit", "cellAt", "(II)I"⟩, 10), (⟨"WarpDesk$Finder", "addToTally", "(I)V"⟩, 11), (⟨"WarpDesk$Finder", "leastScanned", "()I"⟩, 11), (⟨"WarpDesk$Finder", "passOverAround", "(I)V"⟩, 11), (⟨"WarpDesk$Finder", "coverFrom", "(II)V"⟩, 11), (⟨"WarpDesk$Stretches", "bringAll", "(I)V"⟩, 11), (⟨"WarpDesk$Fit", "copyRow", "([II[II)V"⟩, 10), (⟨"WarpDesk$Stretches", "findNearest", "(III)V"⟩, 11), (⟨"WarpDesk$Stretches", "seekPairOf", "(II)V"⟩, 11), (⟨"WarpDesk", "slotsHeld", "()I"⟩, 10), (⟨"WarpDeskModel", "plain", "(I)V"⟩, 55), (⟨"WarpDeskModel", "begins", "()V"⟩, 55), (⟨"WarpDeskModel", "keepsRow", "()V"⟩, 55), (⟨"WarpDeskModel", "lays", "(I)V"⟩, 55)]
theorem lw_r3 : ∀ q ∈ lw_privs_3, lw_okq q := List.forall_mem_cons.mpr ⟨lw_p32, List.forall_mem_cons.mpr ⟨lw_p33, List.forall_mem_cons.mpr ⟨lw_p34, List.forall_mem_cons.mpr ⟨lw_p35, List.forall_mem_cons.mpr ⟨lw_p36, List.forall_mem_cons.mpr ⟨lw_p37, List.forall_mem_cons.mpr ⟨lw_p38, List.forall_mem_cons.mpr ⟨lw_p39, List.forall_mem_cons.mpr ⟨lw_p40, List.forall_mem_cons.mpr ⟨lw_p41, List.forall_mem_cons.mpr ⟨lw_p42, List.forall_mem_cons.mpr ⟨lw_p43, List.forall_mem_cons.mpr ⟨lw_p44, List.forall_mem_cons.mpr ⟨lw_p45, List.forall_mem_cons.mpr ⟨lw_p46, List.forall_mem_cons.mpr ⟨lw_p47, fun _ h => absurd h List.not_mem_nil⟩⟩⟩⟩⟩⟩⟩⟩⟩⟩⟩⟩⟩⟩⟩⟩
theorem lw_p48 : lw_okq (⟨"WarpDeskModel", "cut", "()V"⟩, 55) := ⟨⟨by decide +kernel, by decide +kernel⟩, List.mem_of_getElem? (i := 1254) (by decide +kernel), List.mem_of_getElem? (i := 1460) (by decide +kernel), List.mem_of_getElem? (i := 1461) (by decide +kernel)⟩
theorem lw_p49 : lw_okq (⟨"WarpDeskModel", "byteAt", "(I)I"⟩, 55) := ⟨⟨by decide +kernel, by decide +kernel⟩, List.mem_of_getElem? (i := 1254) (by decide +kernel), List.mem_of_getElem? (i := 1464) (by decide +kernel), List.mem_of_getElem? (i := 1465) (by decide +kernel)⟩
theorem lw_p50 : lw_okq (⟨"WarpDeskModel", "token", "(IIIJ)V"⟩, 55) := ⟨⟨by decide +kernel, by decide +kernel⟩, List.mem_of_getElem? (i := 1254) (by decide +kernel), List.mem_of_getElem? (i := 1468) (by decide +kernel), List.mem_of_getElem? (i := 1469) (by decide +kernel)⟩
theorem lw_p51 : lw_okq (⟨"WarpDeskModel", "sign", "(III)I"⟩, 55) := ⟨⟨by decide +kernel, by decide +kernel⟩, List.mem_of_getElem? (i := 1254) (by decide +kernel), List.mem_of_getElem? (i := 1478) (by decide +kernel), List.mem_of_getElem? (i := 1479) (by decide +kernel)⟩
theorem lw_p52 : lw_okq (⟨"WarpDeskModel", "is", "(I)Z"⟩, 55) := ⟨⟨by decide +kernel, by decide +kernel⟩, List.mem_of_getElem? (i := 1254) (by decide +kernel), List.mem_of_getElem? (i := 1482) (by decide +kernel), List.mem_of_getElem? (i := 1483) (by decide +kernel)⟩
theorem lw_p53 : lw_okq (⟨"WarpDeskModel", "tellOne", "()V"⟩, 55) := ⟨⟨by decide +kernel, by decide +kernel⟩, List.mem_of_getElem? (i := 1254) (by decide +kernel), List.mem_of_getElem? (i := 1486) (by decide +kernel), List.mem_of_getElem? (i := 1487) (by decide +kernel)⟩
theorem lw_p54 : lw_okq (⟨"WarpDeskModel", "goesOn", "()V"⟩, 55) := ⟨⟨by decide +kernel, by decide +kernel⟩, List.mem_of_getElem? (i := 1254) (by decide +kernel), List.mem_of_getElem? (i := 1490) (by decide +kernel), List.mem_of_getElem? (i := 1491) (by decide +kernel)⟩
theorem lw_p55 : lw_okq (⟨"WarpDeskModel", "fail", "(I)V"⟩, 55) := ⟨⟨by decide +kernel, by decide +kernel⟩, List.mem_of_getElem? (i := 1254) (by decide +kernel), List.mem_of_getElem? (i := 1494) (by decide +kernel), List.mem_of_getElem? (i := 1495) (by decide +kernel)⟩
theorem lw_p56 : lw_okq (⟨"WarpDeskModel", "tellSeries", "()V"⟩, 55) := ⟨⟨by decide +kernel, by decide +kernel⟩, List.mem_of_getElem? (i := 1254) (by decide +kernel), List.mem_of_getElem? (i := 1498) (by decide +kernel), List.mem_of_getElem? (i := 1499) (by decide +kernel)⟩
theorem lw_p57 : lw_okq (⟨"WarpDeskModel", "isReading", "()Z"⟩, 55) := ⟨⟨by decide +kernel, by decide +kernel⟩, List.mem_of_getElem? (i := 1254) (by decide +kernel), List.mem_of_getElem? (i := 1502) (by decide +kernel), List.mem_of_getElem? (i := 1503) (by decide +kernel)⟩
theorem lw_p58 : lw_okq (⟨"WarpDeskModel", "readingTold", "()I"⟩, 55) := ⟨⟨by decide +kernel, by decide +kernel⟩, List.mem_of_getElem? (i := 1254) (by decide +kernel), List.mem_of_getElem? (i := 1507) (by decide +kernel), List.mem_of_getElem? (i := 1508) (by decide +kernel)⟩
theorem lw_p59 : lw_okq (⟨"WarpDeskModel", "bounded", "(II)I"⟩, 55) := ⟨⟨by decide +kernel, by decide +kernel⟩, List.mem_of_getElem? (i := 1254) (by decide +kernel), List.mem_of_getElem? (i := 1511) (by decide +kernel), List.mem_of_getElem? (i := 1512) (by decide +kernel)⟩
theorem lw_p60 : lw_okq (⟨"WarpDeskModel", "wrong", "(II)V"⟩, 55) := ⟨⟨by decide +kernel, by decide +kernel⟩, List.mem_of_getElem? (i := 1254) (by decide +kernel), List.mem_of_getElem? (i := 1515) (by decide +kernel), List.mem_of_getElem? (i := 1516) (by decide +kernel)⟩
theorem lw_p61 : lw_okq (⟨"WarpDeskModel", "must", "(I)V"⟩, 55) := ⟨⟨by decide +kernel, by decide +kernel⟩, List.mem_of_getElem? (i := 1254) (by decide +kernel), List.mem_of_getElem? (i := 1519) (by decide +kernel), List.mem_of_getElem? (i := 1520) (by decide +kernel)⟩
theorem lw_p62 : lw_okq (⟨"WarpDeskModel", "tellQuery", "()V"⟩, 55) := ⟨⟨by decide +kernel, by decide +kernel⟩, List.mem_of_getElem? (i := 1254) (by decide +kernel), List.mem_of_getElem? (i := 1523) (by decide +kernel), List.mem_of_getElem? (i := 1524) (by decide +kernel)⟩
theorem lw_p63 : lw_okq (⟨"WarpDeskModel", "toldInt", "(II)I"⟩, 55) := ⟨⟨by decide +kernel, by decide +kernel⟩, List.mem_of_getElem? (i := 1254) (by decide +kernel), List.mem_of_getElem? (i := 1527) (by decide +kernel), List.mem_of_getElem? (i := 1528) (by decide +kernel)⟩
def lw_privs_4 : List (MethodName × Nat) := [(⟨"WarpDeskModel", "cut", "()V"⟩, 55), (⟨"WarpDeskModel", "byteAt", "(I)I"⟩, 55), (⟨"WarpDeskModel", "token", "(IIIJ)V"⟩, 55), (⟨"WarpDeskModel", "sign", "(III)I"⟩, 55), (⟨"WarpDeskModel", "is", "(I)Z"⟩, 55), (⟨"WarpDeskModel", "tellOne", "()V"⟩, 55), (⟨"WarpDeskModel", "goesOn", "()V"⟩, 55), (⟨"WarpDeskModel", "fail", "(I)V"⟩, 55), (⟨"WarpDeskModel", "tellSeries", "()V"⟩, 55), (⟨"WarpDeskModel", "isReading", "()Z"⟩, 55), (⟨"WarpDeskModel", "readingTold", "()I"⟩, 55), (⟨"WarpDeskModel", "bounded", "(II)I"⟩, 55), (⟨"WarpDeskModel", "wrong", "(II)V"⟩, 55), (⟨"WarpDeskModel", "must", "(I)V"⟩, 55), (⟨"WarpDeskModel", "tellQuery", "()V"⟩, 55), (⟨"WarpDeskModel", "toldInt", "(II)I"⟩, 55)]
theorem lw_r4 : ∀ q ∈ lw_privs_4, lw_okq q := List.forall_mem_cons.mpr ⟨lw_p48, List.forall_mem_cons.mpr ⟨lw_p49, List.forall_mem_cons.mpr ⟨lw_p50, List.forall_mem_cons.mpr ⟨lw_p51, List.forall_mem_cons.mpr ⟨lw_p52, List.forall_mem_cons.mpr ⟨lw_p53, List.forall_mem_cons.mpr ⟨lw_p54, List.forall_mem_cons.mpr ⟨lw_p55, List.forall_mem_cons.mpr ⟨lw_p56, List.forall_mem_cons.mpr ⟨lw_p57, List.forall_mem_cons.mpr ⟨lw_p58, List.forall_mem_cons.mpr ⟨lw_p59, List.forall_mem_cons.mpr ⟨lw_p60, List.forall_mem_cons.mpr ⟨lw_p61, List.forall_mem_cons.mpr ⟨lw_p62, List.forall_mem_cons.mpr ⟨lw_p63, fun _ h => absurd h List.not_mem_nil⟩⟩⟩⟩⟩⟩⟩⟩⟩⟩⟩⟩⟩⟩⟩⟩
theorem lw_p64 : lw_okq (⟨"WarpDeskModel", "toldWord", "(II)I"⟩, 55) := ⟨⟨by decide +kernel, by decide +kernel⟩, List.mem_of_getElem? (i := 1254) (by decide +kernel), List.mem_of_getElem? (i := 1531) (by decide +kernel), List.mem_of_getElem? (i := 1532) (by decide +kernel)⟩
theorem lw_p65 : lw_okq (⟨"WarpDeskModel", "isThere", "(I)Z"⟩, 55) := ⟨⟨by decide +kernel, by decide +kernel⟩, List.mem_of_getElem? (i := 1254) (by decide +kernel), List.mem_of_getElem? (i := 1547) (by decide +kernel), List.mem_of_getElem? (i := 1548) (by decide +kernel)⟩
theorem lw_p66 : lw_okq (⟨"WarpDeskModel", "isPlace", "(I)Z"⟩, 55) := ⟨⟨by decide +kernel, by decide +kernel⟩, List.mem_of_getElem? (i := 1254) (by decide +kernel), List.mem_of_getElem? (i := 1551) (by decide +kernel), List.mem_of_getElem? (i := 1552) (by decide +kernel)⟩
theorem lw_p67 : lw_okq (⟨"WarpDeskModel", "isQuery", "(I)Z"⟩, 55) := ⟨⟨by decide +kernel, by decide +kernel⟩, List.mem_of_getElem? (i := 1254) (by decide +kernel), List.mem_of_getElem? (i := 1562) (by decide +kernel), List.mem_of_getElem? (i := 1563) (by decide +kernel)⟩
theorem lw_p68 : lw_okq (⟨"WarpDeskModel", "wideOf", "(I)I"⟩, 55) := ⟨⟨by decide +kernel, by decide +kernel⟩, List.mem_of_getElem? (i := 1254) (by decide +kernel), List.mem_of_getElem? (i := 1566) (by decide +kernel), List.mem_of_getElem? (i := 1567) (by decide +kernel)⟩
theorem lw_p69 : lw_okq (⟨"WarpDeskModel", "comes", "(I)I"⟩, 55) := ⟨⟨by decide +kernel, by decide +kernel⟩, List.mem_of_getElem? (i := 1254) (by decide +kernel), List.mem_of_getElem? (i := 1574) (by decide +kernel), List.mem_of_getElem? (i := 1575) (by decide +kernel)⟩
theorem lw_p70 : lw_okq (⟨"WarpDeskModel", "copies", "()V"⟩, 55) := ⟨⟨by decide +kernel, by decide +kernel⟩, List.mem_of_getElem? (i := 1254) (by decide +kernel), List.mem_of_getElem? (i := 1578) (by decide +kernel), List.mem_of_getElem? (i := 1579) (by decide +kernel)⟩
theorem lw_p71 : lw_okq (⟨"WarpDeskModel", "records", "()V"⟩, 55) := ⟨⟨by decide +kernel, by decide +kernel⟩, List.mem_of_getElem? (i := 1254) (by decide +kernel), List.mem_of_getElem? (i := 1582) (by decide +kernel), List.mem_of_getElem? (i := 1583) (by decide +kernel)⟩
theorem lw_p72 : lw_okq (⟨"WarpDeskModel", "isWindow", "(II)Z"⟩, 55) := ⟨⟨by decide +kernel, by decide +kernel⟩, List.mem_of_getElem? (i := 1254) (by decide +kernel), List.mem_of_getElem? (i := 1613) (by decide +kernel), List.mem_of_getElem? (i := 1614) (by decide +kernel)⟩
theorem lw_p73 : lw_okq (⟨"WarpDeskModel", "sumOf", "(II)I"⟩, 55) := ⟨⟨by decide +kernel, by decide +kernel⟩, List.mem_of_getElem? (i := 1254) (by decide +kernel), List.mem_of_getElem? (i := 1618) (by decide +kernel), List.mem_of_getElem? (i := 1619) (by decide +kernel)⟩
theorem lw_p74 : lw_okq (⟨"WarpDeskModel", "leastOf", "(II)I"⟩, 55) := ⟨⟨by decide +kernel, by decide +kernel⟩, List.mem_of_getElem? (i := 1254) (by decide +kernel), List.mem_of_getElem? (i := 1622) (by decide +kernel), List.mem_of_getElem? (i := 1623) (by decide +kernel)⟩
theorem lw_p75 : lw_okq (⟨"WarpDeskModel", "mostOf", "(II)I"⟩, 55) := ⟨⟨by decide +kernel, by decide +kernel⟩, List.mem_of_getElem? (i := 1254) (by decide +kernel), List.mem_of_getElem? (i := 1626) (by decide +kernel), List.mem_of_getElem? (i := 1627) (by decide +kernel)⟩
theorem lw_p76 : lw_okq (⟨"WarpDeskModel", "laysWindow", "(II)V"⟩, 55) := ⟨⟨by decide +kernel, by decide +kernel⟩, List.mem_of_getElem? (i := 1254) (by decide +kernel), List.mem_of_getElem? (i := 1634) (by decide +kernel), List.mem_of_getElem? (i := 1635) (by decide +kernel)⟩
theorem lw_p77 : lw_okq (⟨"WarpDeskModel", "levelsFirst", "(I)V"⟩, 55) := ⟨⟨by decide +kernel, by decide +kernel⟩, List.mem_of_getElem? (i := 1254) (by decide +kernel), List.mem_of_getElem? (i := 1638) (by decide +kernel), List.mem_of_getElem? (i := 1639) (by decide +kernel)⟩
theorem lw_p78 : lw_okq (⟨"WarpDeskModel", "isOf", "(II)Z"⟩, 55) := ⟨⟨by decide +kernel, by decide +kernel⟩, List.mem_of_getElem? (i := 1254) (by decide +kernel), List.mem_of_getElem? (i := 1654) (by decide +kernel), List.mem_of_getElem? (i := 1655) (by decide +kernel)⟩
theorem lw_p79 : lw_okq (⟨"WarpDeskModel", "distanceOf", "(II)I"⟩, 55) := ⟨⟨by decide +kernel, by decide +kernel⟩, List.mem_of_getElem? (i := 1254) (by decide +kernel), List.mem_of_getElem? (i := 1658) (by decide +kernel), List.mem_of_getElem? (i := 1659) (by decide +kernel)⟩
def lw_privs_5 : List (MethodName × Nat) := [(⟨"WarpDeskModel", "toldWord", "(II)I"⟩, 55), (⟨"WarpDeskModel", "isThere", "(I)Z"⟩, 55), (⟨"WarpDeskModel", "isPlace", "(I)Z"⟩, 55), (⟨"WarpDeskModel", "isQuery", "(I)Z"⟩, 55), (⟨"WarpDeskModel", "wideOf", "(I)I"⟩, 55), (⟨"WarpDeskModel", "comes", "(I)I"⟩, 55), (⟨"WarpDeskModel", "copies", "()V"⟩, 55), (⟨"WarpDeskModel", "records", "()V"⟩, 55), (⟨"WarpDeskModel", "isWindow", "(II)Z"⟩, 55), (⟨"WarpDeskModel", "sumOf", "(II)I"⟩, 55), (⟨"WarpDeskModel", "leastOf", "(II)I"⟩, 55), (⟨"WarpDeskModel", "mostOf", "(II)I"⟩, 55), (⟨"WarpDeskModel", "laysWindow", "(II)V"⟩, 55), (⟨"WarpDeskModel", "levelsFirst", "(I)V"⟩, 55), (⟨"WarpDeskModel", "isOf", "(II)Z"⟩, 55), (⟨"WarpDeskModel", "distanceOf", "(II)I"⟩, 55)]
theorem lw_r5 : ∀ q ∈ lw_privs_5, lw_okq q := List.forall_mem_cons.mpr ⟨lw_p64, List.forall_mem_cons.mpr ⟨lw_p65, List.forall_mem_cons.mpr ⟨lw_p66, List.forall_mem_cons.mpr ⟨lw_p67, List.forall_mem_cons.mpr ⟨lw_p68, List.forall_mem_cons.mpr ⟨lw_p69, List.forall_mem_cons.mpr ⟨lw_p70, List.forall_mem_cons.mpr ⟨lw_p71, List.forall_mem_cons.mpr ⟨lw_p72, List.forall_mem_cons.mpr ⟨lw_p73, List.forall_mem_cons.mpr ⟨lw_p74, List.forall_mem_cons.mpr ⟨lw_p75, List.forall_mem_cons.mpr ⟨lw_p76, List.forall_mem_cons.mpr ⟨lw_p77, List.forall_mem_cons.mpr ⟨lw_p78, List.forall_mem_cons.mpr ⟨lw_p79, fun _ h => absurd h List.not_mem_nil⟩⟩⟩⟩⟩⟩⟩⟩⟩⟩⟩⟩⟩⟩⟩⟩
theorem lw_p80 : lw_okq (⟨"WarpDeskModel", "laysBoth", "(II)V"⟩, 55) := ⟨⟨by decide +kernel, by decide +kernel⟩, List.mem_of_getElem? (i := 1254) (by decide +kernel), List.mem_of_getElem? (i := 1662) (by decide +kernel), List.mem_of_getElem? (i := 1663) (by decide +kernel)⟩
theorem lw_p81 : lw_okq (⟨"WarpDeskModel", "changesBoth", "(I)V"⟩, 55) := ⟨⟨by decide +kernel, by decide +kernel⟩, List.mem_of_getElem? (i := 1254) (by decide +kernel), List.mem_of_getElem? (i := 1666) (by decide +kernel), List.mem_of_getElem? (i := 1667) (by decide +kernel)⟩
theorem lw_p82 : lw_okq (⟨"WarpDeskModel", "laysQuery", "(I)V"⟩, 55) := ⟨⟨by decide +kernel, by decide +kernel⟩, List.mem_of_getElem? (i := 1254) (by decide +kernel), List.mem_of_getElem? (i := 1670) (by decide +kernel), List.mem_of_getElem? (i := 1671) (by decide +kernel)⟩
theorem lw_p83 : lw_okq (⟨"WarpDeskModel", "laysTable", "(I)I"⟩, 55) := ⟨⟨by decide +kernel, by decide +kernel⟩, List.mem_of_getElem? (i := 1254) (by decide +kernel), List.mem_of_getElem? (i := 1675) (by decide +kernel), List.mem_of_getElem? (i := 1676) (by decide +kernel)⟩
theorem lw_p84 : lw_okq (⟨"WarpDeskModel", "laysRow", "(I)I"⟩, 55) := ⟨⟨by decide +kernel, by decide +kernel⟩, List.mem_of_getElem? (i := 1254) (by decide +kernel), List.mem_of_getElem? (i := 1679) (by decide +kernel), List.mem_of_getElem? (i := 1680) (by decide +kernel)⟩
theorem lw_p85 : lw_okq (⟨"WarpDeskModel", "isBand", "(II)Z"⟩, 55) := ⟨⟨by decide +kernel, by decide +kernel⟩, List.mem_of_getElem? (i := 1254) (by decide +kernel), List.mem_of_getElem? (i := 1683) (by decide +kernel), List.mem_of_getElem? (i := 1684) (by decide +kernel)⟩
theorem lw_p86 : lw_okq (⟨"WarpDeskModel", "atTable", "(II)I"⟩, 55) := ⟨⟨by decide +kernel, by decide +kernel⟩, List.mem_of_getElem? (i := 1254) (by decide +kernel), List.mem_of_getElem? (i := 1687) (by decide +kernel), List.mem_of_getElem? (i := 1688) (by decide +kernel)⟩
theorem lw_p87 : lw_okq (⟨"WarpDeskModel", "costOf", "(II)I"⟩, 55) := ⟨⟨by decide +kernel, by decide +kernel⟩, List.mem_of_getElem? (i := 1254) (by decide +kernel), List.mem_of_getElem? (i := 1694) (by decide +kernel), List.mem_of_getElem? (i := 1695) (by decide +kernel)⟩
theorem lw_p88 : lw_okq (⟨"WarpDeskModel", "endsOf", "()I"⟩, 55) := ⟨⟨by decide +kernel, by decide +kernel⟩, List.mem_of_getElem? (i := 1254) (by decide +kernel), List.mem_of_getElem? (i := 1702) (by decide +kernel), List.mem_of_getElem? (i := 1703) (by decide +kernel)⟩
theorem lw_p89 : lw_okq (⟨"WarpDeskModel", "overOf", "()I"⟩, 55) := ⟨⟨by decide +kernel, by decide +kernel⟩, List.mem_of_getElem? (i := 1254) (by decide +kernel), List.mem_of_getElem? (i := 1706) (by decide +kernel), List.mem_of_getElem? (i := 1707) (by decide +kernel)⟩
theorem lw_p90 : lw_okq (⟨"WarpDeskModel", "backOf", "()I"⟩, 55) := ⟨⟨by decide +kernel, by decide +kernel⟩, List.mem_of_getElem? (i := 1254) (by decide +kernel), List.mem_of_getElem? (i := 1711) (by decide +kernel), List.mem_of_getElem? (i := 1712) (by decide +kernel)⟩
theorem lw_p91 : lw_okq (⟨"WarpDeskModel", "passes", "(III)I"⟩, 55) := ⟨⟨by decide +kernel, by decide +kernel⟩, List.mem_of_getElem? (i := 1254) (by decide +kernel), List.mem_of_getElem? (i := 1719) (by decide +kernel), List.mem_of_getElem? (i := 1720) (by decide +kernel)⟩
theorem lw_p92 : lw_okq (⟨"WarpDeskModel", "fillsWay", "()V"⟩, 55) := ⟨⟨by decide +kernel, by decide +kernel⟩, List.mem_of_getElem? (i := 1254) (by decide +kernel), List.mem_of_getElem? (i := 1731) (by decide +kernel), List.mem_of_getElem? (i := 1732) (by decide +kernel)⟩
theorem lw_p93 : lw_okq (⟨"WarpDeskModel", "fillsFar", "(I)V"⟩, 55) := ⟨⟨by decide +kernel, by decide +kernel⟩, List.mem_of_getElem? (i := 1254) (by decide +kernel), List.mem_of_getElem? (i := 1743) (by decide +kernel), List.mem_of_getElem? (i := 1744) (by decide +kernel)⟩
theorem lw_p94 : lw_okq (⟨"WarpDeskModel", "bestWindow", "()I"⟩, 55) := ⟨⟨by decide +kernel, by decide +kernel⟩, List.mem_of_getElem? (i := 1254) (by decide +kernel), List.mem_of_getElem? (i := 1747) (by decide +kernel), List.mem_of_getElem? (i := 1748) (by decide +kernel)⟩
theorem lw_p95 : lw_okq (⟨"WarpDeskModel", "fillsSearch", "(I)V"⟩, 55) := ⟨⟨by decide +kernel, by decide +kernel⟩, List.mem_of_getElem? (i := 1254) (by decide +kernel), List.mem_of_getElem? (i := 1759) (by decide +kernel), List.mem_of_getElem? (i := 1760) (by decide +kernel)⟩
def lw_privs_6 : List (MethodName × Nat) := [(⟨"WarpDeskModel", "laysBoth", "(II)V"⟩, 55), (⟨"WarpDeskModel", "changesBoth", "(I)V"⟩, 55), (⟨"WarpDeskModel", "laysQuery", "(I)V"⟩, 55), (⟨"WarpDeskModel", "laysTable", "(I)I"⟩, 55), (⟨"WarpDeskModel", "laysRow", "(I)I"⟩, 55), (⟨"WarpDeskModel", "isBand", "(II)Z"⟩, 55), (⟨"WarpDeskModel", "atTable", "(II)I"⟩, 55), (⟨"WarpDeskModel", "costOf", "(II)I"⟩, 55), (⟨"WarpDeskModel", "endsOf", "()I"⟩, 55), (⟨"WarpDeskModel", "overOf", "()I"⟩, 55), (⟨"WarpDeskModel", "backOf", "()I"⟩, 55), (⟨"WarpDeskModel", "passes", "(III)I"⟩, 55), (⟨"WarpDeskModel", "fillsWay", "()V"⟩, 55), (⟨"WarpDeskModel", "fillsFar", "(I)V"⟩, 55), (⟨"WarpDeskModel", "bestWindow", "()I"⟩, 55), (⟨"WarpDeskModel", "fillsSearch", "(I)V"⟩, 55)]
theorem lw_r6 : ∀ q ∈ lw_privs_6, lw_okq q := List.forall_mem_cons.mpr ⟨lw_p80, List.forall_mem_cons.mpr ⟨lw_p81, List.forall_mem_cons.mpr ⟨lw_p82, List.forall_mem_cons.mpr ⟨lw_p83, List.forall_mem_cons.mpr ⟨lw_p84, List.forall_mem_cons.mpr ⟨lw_p85, List.forall_mem_cons.mpr ⟨lw_p86, List.forall_mem_cons.mpr ⟨lw_p87, List.forall_mem_cons.mpr ⟨lw_p88, List.forall_mem_cons.mpr ⟨lw_p89, List.forall_mem_cons.mpr ⟨lw_p90, List.forall_mem_cons.mpr ⟨lw_p91, List.forall_mem_cons.mpr ⟨lw_p92, List.forall_mem_cons.mpr ⟨lw_p93, List.forall_mem_cons.mpr ⟨lw_p94, List.forall_mem_cons.mpr ⟨lw_p95, fun _ h => absurd h List.not_mem_nil⟩⟩⟩⟩⟩⟩⟩⟩⟩⟩⟩⟩⟩⟩⟩⟩
theorem lw_p96 : lw_okq (⟨"WarpDeskModel", "fillsMatches", "(I)V"⟩, 55) := ⟨⟨by decide +kernel, by decide +kernel⟩, List.mem_of_getElem? (i := 1254) (by decide +kernel), List.mem_of_getElem? (i := 1767) (by decide +kernel), List.mem_of_getElem? (i := 1768) (by decide +kernel)⟩
theorem lw_p97 : lw_okq (⟨"WarpDeskModel", "isApart", "(I)Z"⟩, 55) := ⟨⟨by decide +kernel, by decide +kernel⟩, List.mem_of_getElem? (i := 1254) (by decide +kernel), List.mem_of_getElem? (i := 1771) (by decide +kernel), List.mem_of_getElem? (i := 1772) (by decide +kernel)⟩
theorem lw_p98 : lw_okq (⟨"WarpDeskModel", "rankOf", "(I)I"⟩, 55) := ⟨⟨by decide +kernel, by decide +kernel⟩, List.mem_of_getElem? (i := 1254) (by decide +kernel), List.mem_of_getElem? (i := 1787) (by decide +kernel), List.mem_of_getElem? (i := 1788) (by decide +kernel)⟩
theorem lw_p99 : lw_okq (⟨"WarpDeskModel", "nearOf", "(II)I"⟩, 55) := ⟨⟨by decide +kernel, by decide +kernel⟩, List.mem_of_getElem? (i := 1254) (by decide +kernel), List.mem_of_getElem? (i := 1818) (by decide +kernel), List.mem_of_getElem? (i := 1819) (by decide +kernel)⟩
theorem lw_p100 : lw_okq (⟨"WarpDeskModel", "laysWindows", "(III)V"⟩, 55) := ⟨⟨by decide +kernel, by decide +kernel⟩, List.mem_of_getElem? (i := 1254) (by decide +kernel), List.mem_of_getElem? (i := 1822) (by decide +kernel), List.mem_of_getElem? (i := 1823) (by decide +kernel)⟩
theorem lw_p101 : lw_okq (⟨"WarpDeskModel", "gaps", "()I"⟩, 55) := ⟨⟨by decide +kernel, by decide +kernel⟩, List.mem_of_getElem? (i := 1254) (by decide +kernel), List.mem_of_getElem? (i := 1846) (by decide +kernel), List.mem_of_getElem? (i := 1847) (by decide +kernel)⟩
def lw_privs_7 : List (MethodName × Nat) := [(⟨"WarpDeskModel", "fillsMatches", "(I)V"⟩, 55), (⟨"WarpDeskModel", "isApart", "(I)Z"⟩, 55), (⟨"WarpDeskModel", "rankOf", "(I)I"⟩, 55), (⟨"WarpDeskModel", "nearOf", "(II)I"⟩, 55), (⟨"WarpDeskModel", "laysWindows", "(III)V"⟩, 55), (⟨"WarpDeskModel", "gaps", "()I"⟩, 55)]
theorem lw_r7 : ∀ q ∈ lw_privs_7, lw_okq q := List.forall_mem_cons.mpr ⟨lw_p96, List.forall_mem_cons.mpr ⟨lw_p97, List.forall_mem_cons.mpr ⟨lw_p98, List.forall_mem_cons.mpr ⟨lw_p99, List.forall_mem_cons.mpr ⟨lw_p100, List.forall_mem_cons.mpr ⟨lw_p101, fun _ h => absurd h List.not_mem_nil⟩⟩⟩⟩⟩⟩
def lw_privs : List (MethodName × Nat) := lw_privs_1 ++ (lw_privs_2 ++ (lw_privs_3 ++ (lw_privs_4 ++ (lw_privs_5 ++ (lw_privs_6 ++ (lw_privs_7))))))
def lw_tbl : List Cond := k2_sels lw_privs ++ tables_1
theorem lw_privs_ok : ∀ q ∈ lw_privs, lw_okq q := by
  show ∀ q ∈ lw_privs_1 ++ (lw_privs_2 ++ (lw_privs_3 ++ (lw_privs_4 ++ (lw_privs_5 ++ (lw_privs_6 ++ (lw_privs_7)))))), lw_okq q
  exact List.forall_mem_append.mpr ⟨lw_r1, List.forall_mem_append.mpr ⟨lw_r2, List.forall_mem_append.mpr ⟨lw_r3, List.forall_mem_append.mpr ⟨lw_r4, List.forall_mem_append.mpr ⟨lw_r5, List.forall_mem_append.mpr ⟨lw_r6, lw_r7⟩⟩⟩⟩⟩⟩
end
section
/-! ===== BEGIN words of one list among another's, by their places ===== -/
theorem goodIn_r {big : List Cond} (ws : List Cond) (ps : List Nat) (hp : ws = ps.filterMap (fun i => big[i]?)) (h : ws.all goodWord = true) : GoodIn big ws := by
  intro w hw
  have h1 := List.all_eq_true.mp h w hw
  rw [hp] at hw
  obtain ⟨i, -, hi⟩ := List.mem_filterMap.mp hw
  have hm : w ∈ big := by first | exact List.mem_of_getElem? hi | exact List.getElem?_mem hi
  exact ⟨hm, good_of_word h1⟩
theorem goodIn_app {big a b : List Cond} (ha : GoodIn big a) (hb : GoodIn big b) : GoodIn big (a ++ b) := fun w h => (List.mem_append.mp h).elim (ha w) (hb w)
theorem goodIn_ca {big a b : List Cond} {c : Cond} (ha : GoodIn big (c :: a)) (hb : GoodIn big b) : GoodIn big (c :: (a ++ b)) := fun w h => (List.mem_cons.mp h).elim (fun e => ha w (List.mem_cons.mpr (Or.inl e))) (fun h => (List.mem_append.mp h).elim (fun h => ha w (List.mem_cons.mpr (Or.inr h))) (hb w))
theorem goodIn_sub {big ws : List Cond} (hm : ∀ w ∈ ws, w ∈ big) (h : ws.all goodWord = true) : GoodIn big ws := fun w hw => ⟨hm w hw, good_of_word (List.all_eq_true.mp h w hw)⟩
/-! ===== END ===== -/

/-! ===== BEGIN printed: names, fields, word lists, decode rows ===== -/
def RX0 : String := "WarpDesk$Bench"
def TX0 : u_T := fun k => match k with
  | 0 => ("WarpDesk$Bench", "series", "LWarpDesk$Series;", true)
  | 1 => ("WarpDesk$Bench", "queries", "LWarpDesk$Queries;", true)
  | 2 => ("WarpDesk$Bench", "settings", "LWarpDesk$Settings;", true)
  | 3 => ("WarpDesk$Bench", "fit", "LWarpDesk$Fit;", true)
  | _ => ("WarpDesk$Bench", "length", "I", false)
def tyX0 : Nat → FieldType := fun k => match k with
  | 0 => .object "WarpDesk$Series"
  | 1 => .object "WarpDesk$Queries"
  | 2 => .object "WarpDesk$Settings"
  | 3 => .object "WarpDesk$Fit"
  | _ => .int
abbrev wsX00 : List Cond := u_ws RX0 TX0 5
theorem nmX0 : ∀ a, a < 5 → ∀ b, b < 5 → a ≠ b → (TX0 a).2.1 ≠ (TX0 b).2.1 := by decide +kernel
theorem tyX0_ok : ∀ k, k < 5 → parseFieldDescriptor (TX0 k).2.2.1 = some (tyX0 k) := by decide +kernel
abbrev cX0_init : ByteArray := prog_2_method_1_code
def yX0_init : MethodName := ⟨RX0, "<init>", "(LWarpDesk$Series;LWarpDesk$Queries;LWarpDesk$Settings;)V"⟩
abbrev cX0_hasBoth : ByteArray := prog_2_method_2_code
def yX0_hasBoth : MethodName := ⟨RX0, "hasBoth", "(II)Z"⟩
abbrev cX0_openBoth : ByteArray := prog_2_method_3_code
def yX0_openBoth : MethodName := ⟨RX0, "openBoth", "(II)Z"⟩
abbrev cX0_openQuery : ByteArray := prog_2_method_4_code
def yX0_openQuery : MethodName := ⟨RX0, "openQuery", "(II)V"⟩
abbrev cX0_openWindow : ByteArray := prog_2_method_5_code
def yX0_openWindow : MethodName := ⟨RX0, "openWindow", "(II)V"⟩
abbrev cX0_begin : ByteArray := prog_2_method_6_code
def yX0_begin : MethodName := ⟨RX0, "begin", "(II)V"⟩
abbrev cX0_laySecondWindow : ByteArray := prog_2_method_7_code
def yX0_laySecondWindow : MethodName := ⟨RX0, "laySecondWindow", "(I)V"⟩
abbrev cX0_laySecondQuery : ByteArray := prog_2_method_8_code
def yX0_laySecondQuery : MethodName := ⟨RX0, "laySecondQuery", "(I)V"⟩
def RX1 : String := "WarpDesk$Finder"
def TX1 : u_T := fun k => match k with
  | 0 => ("WarpDesk$Finder", "bench", "LWarpDesk$Bench;", true)
  | 1 => ("WarpDesk$Finder", "series", "LWarpDesk$Series;", true)
  | 2 => ("WarpDesk$Finder", "queries", "LWarpDesk$Queries;", true)
  | 3 => ("WarpDesk$Finder", "tally", "[I", true)
  | 4 => ("WarpDesk$Finder", "bestWindow", "I", false)
  | 5 => ("WarpDesk$Finder", "bestDistance", "I", false)
  | 6 => ("WarpDesk$Finder", "distances", "[I", true)
  | 7 => ("WarpDesk$Finder", "matchWindows", "[I", true)
  | 8 => ("WarpDesk$Finder", "matchDistances", "[I", true)
  | 9 => ("WarpDesk$Finder", "matches", "I", false)
  | _ => ("WarpDesk$Finder", "covered", "[Z", true)
def tyX1 : Nat → FieldType := fun k => match k with
  | 0 => .object "WarpDesk$Bench"
  | 1 => .object "WarpDesk$Series"
  | 2 => .object "WarpDesk$Queries"
  | 3 => .array .int
  | 4 => .int
  | 5 => .int
  | 6 => .array .int
  | 7 => .array .int
  | 8 => .array .int
  | 9 => .int
  | _ => .array .boolean
abbrev wsX10 : List Cond := u_ws RX1 TX1 11
theorem nmX1 : ∀ a, a < 11 → ∀ b, b < 11 → a ≠ b → (TX1 a).2.1 ≠ (TX1 b).2.1 := by decide +kernel
theorem tyX1_ok : ∀ k, k < 11 → parseFieldDescriptor (TX1 k).2.2.1 = some (tyX1 k) := by decide +kernel
abbrev cX1_init : ByteArray := prog_3_method_1_code
def yX1_init : MethodName := ⟨RX1, "<init>", "(LWarpDesk$Bench;)V"⟩
abbrev cX1_runSearch : ByteArray := prog_3_method_2_code
def yX1_runSearch : MethodName := ⟨RX1, "runSearch", "(I)V"⟩
abbrev cX1_addToTally : ByteArray := prog_3_method_3_code
def yX1_addToTally : MethodName := ⟨RX1, "addToTally", "(I)V"⟩
abbrev cX1_findBest : ByteArray := prog_3_method_4_code
def yX1_findBest : MethodName := ⟨RX1, "findBest", "(II)V"⟩
abbrev cX1_neededBand : ByteArray := prog_3_method_5_code
def yX1_neededBand : MethodName := ⟨RX1, "neededBand", "(II)I"⟩
abbrev cX1_scan : ByteArray := prog_3_method_6_code
def yX1_scan : MethodName := ⟨RX1, "scan", "(I)V"⟩
abbrev cX1_scannedDistance : ByteArray := prog_3_method_7_code
def yX1_scannedDistance : MethodName := ⟨RX1, "scannedDistance", "(I)I"⟩
abbrev cX1_leastScanned : ByteArray := prog_3_method_8_code
def yX1_leastScanned : MethodName := ⟨RX1, "leastScanned", "()I"⟩
abbrev cX1_findMatches : ByteArray := prog_3_method_9_code
def yX1_findMatches : MethodName := ⟨RX1, "findMatches", "(I)V"⟩
abbrev cX1_passOverAround : ByteArray := prog_3_method_10_code
def yX1_passOverAround : MethodName := ⟨RX1, "passOverAround", "(I)V"⟩
abbrev cX1_matchWindow : ByteArray := prog_3_method_11_code
def yX1_matchWindow : MethodName := ⟨RX1, "matchWindow", "(I)I"⟩
abbrev cX1_matchDistance : ByteArray := prog_3_method_12_code
def yX1_matchDistance : MethodName := ⟨RX1, "matchDistance", "(I)I"⟩
abbrev cX1_matchesWithin : ByteArray := prog_3_method_13_code
def yX1_matchesWithin : MethodName := ⟨RX1, "matchesWithin", "(I)I"⟩
abbrev cX1_placesWithin : ByteArray := prog_3_method_14_code
def yX1_placesWithin : MethodName := ⟨RX1, "placesWithin", "(II)I"⟩
abbrev cX1_coverFrom : ByteArray := prog_3_method_15_code
def yX1_coverFrom : MethodName := ⟨RX1, "coverFrom", "(II)V"⟩
abbrev cX1_rankOf : ByteArray := prog_3_method_16_code
def yX1_rankOf : MethodName := ⟨RX1, "rankOf", "(I)I"⟩
abbrev cX1_windowOfRank : ByteArray := prog_3_method_17_code
def yX1_windowOfRank : MethodName := ⟨RX1, "windowOfRank", "(I)I"⟩
abbrev cX1_turnCount : ByteArray := prog_3_method_18_code
def yX1_turnCount : MethodName := ⟨RX1, "turnCount", "()I"⟩
abbrev cX1_slackSum : ByteArray := prog_3_method_19_code
def yX1_slackSum : MethodName := ⟨RX1, "slackSum", "(I)I"⟩
abbrev cX1_nearestQuery : ByteArray := prog_3_method_20_code
def yX1_nearestQuery : MethodName := ⟨RX1, "nearestQuery", "(II)I"⟩
abbrev cX1_firedBits : ByteArray := prog_3_method_21_code
def yX1_firedBits : MethodName := ⟨RX1, "firedBits", "(I)I"⟩
def RX2 : String := "WarpDesk$Fit"
def TX2 : u_T := fun k => match k with
  | 0 => ("WarpDesk$Fit", "left", "[I", true)
  | 1 => ("WarpDesk$Fit", "right", "[I", true)
  | 2 => ("WarpDesk$Fit", "table", "[I", true)
  | 3 => ("WarpDesk$Fit", "steps", "[I", true)
  | 4 => ("WarpDesk$Fit", "wayLength", "I", false)
  | 5 => ("WarpDesk$Fit", "length", "I", false)
  | 6 => ("WarpDesk$Fit", "band", "I", false)
  | 7 => ("WarpDesk$Fit", "isSquare", "Z", false)
  | 8 => ("WarpDesk$Fit", "cells", "I", false)
  | _ => ("WarpDesk$Fit", "brokenRow", "I", false)
def tyX2 : Nat → FieldType := fun k => match k with
  | 0 => .array .int
  | 1 => .array .int
  | 2 => .array .int
  | 3 => .array .int
  | 4 => .int
  | 5 => .int
  | 6 => .int
  | 7 => .boolean
  | 8 => .int
  | _ => .int
abbrev wsX20 : List Cond := u_ws RX2 TX2 10
theorem nmX2 : ∀ a, a < 10 → ∀ b, b < 10 → a ≠ b → (TX2 a).2.1 ≠ (TX2 b).2.1 := by decide +kernel
theorem tyX2_ok : ∀ k, k < 10 → parseFieldDescriptor (TX2 k).2.2.1 = some (tyX2 k) := by decide +kernel
abbrev cX2_init : ByteArray := prog_4_method_1_code
def yX2_init : MethodName := ⟨RX2, "<init>", "()V"⟩
abbrev cX2_begin : ByteArray := prog_4_method_2_code
def yX2_begin : MethodName := ⟨RX2, "begin", "(III)V"⟩
abbrev cX2_takeLeft : ByteArray := prog_4_method_3_code
def yX2_takeLeft : MethodName := ⟨RX2, "takeLeft", "([II)V"⟩
abbrev cX2_takeRight : ByteArray := prog_4_method_4_code
def yX2_takeRight : MethodName := ⟨RX2, "takeRight", "([II)V"⟩
abbrev cX2_giveLeft : ByteArray := prog_4_method_5_code
def yX2_giveLeft : MethodName := ⟨RX2, "giveLeft", "([II)V"⟩
abbrev cX2_copyRow : ByteArray := prog_4_method_6_code
def yX2_copyRow : MethodName := ⟨RX2, "copyRow", "([II[II)V"⟩
abbrev cX2_bringToLevel : ByteArray := prog_4_method_7_code
def yX2_bringToLevel : MethodName := ⟨RX2, "bringToLevel", "([II)V"⟩
abbrev cX2_sumOf : ByteArray := prog_4_method_8_code
def yX2_sumOf : MethodName := ⟨RX2, "sumOf", "([I)I"⟩
abbrev cX2_lessenAll : ByteArray := prog_4_method_9_code
def yX2_lessenAll : MethodName := ⟨RX2, "lessenAll", "([II)V"⟩
abbrev cX2_spreadAll : ByteArray := prog_4_method_10_code
def yX2_spreadAll : MethodName := ⟨RX2, "spreadAll", "([I)V"⟩
abbrev cX2_costOf : ByteArray := prog_4_method_11_code
def yX2_costOf : MethodName := ⟨RX2, "costOf", "(II)I"⟩
abbrev cX2_endsBound : ByteArray := prog_4_method_12_code
def yX2_endsBound : MethodName := ⟨RX2, "endsBound", "()I"⟩
abbrev cX2_overBound : ByteArray := prog_4_method_13_code
def yX2_overBound : MethodName := ⟨RX2, "overBound", "()I"⟩
abbrev cX2_backBound : ByteArray := prog_4_method_14_code
def yX2_backBound : MethodName := ⟨RX2, "backBound", "()I"⟩
abbrev cX2_envelopeBound : ByteArray := prog_4_method_15_code
def yX2_envelopeBound : MethodName := ⟨RX2, "envelopeBound", "([I[I)I"⟩
abbrev cX2_outsideCost : ByteArray := prog_4_method_16_code
def yX2_outsideCost : MethodName := ⟨RX2, "outsideCost", "(I[II)I"⟩
abbrev cX2_lookAt : ByteArray := prog_4_method_17_code
def yX2_lookAt : MethodName := ⟨RX2, "lookAt", "(I)I"⟩
abbrev cX2_isLess : ByteArray := prog_4_method_18_code
def yX2_isLess : MethodName := ⟨RX2, "isLess", "(I)Z"⟩
abbrev cX2_wholeDistance : ByteArray := prog_4_method_19_code
def yX2_wholeDistance : MethodName := ⟨RX2, "wholeDistance", "()I"⟩
abbrev cX2_laidDistance : ByteArray := prog_4_method_20_code
def yX2_laidDistance : MethodName := ⟨RX2, "laidDistance", "()I"⟩
abbrev cX2_layTable : ByteArray := prog_4_method_21_code
def yX2_layTable : MethodName := ⟨RX2, "layTable", "(I)V"⟩
abbrev cX2_layRow : ByteArray := prog_4_method_22_code
def yX2_layRow : MethodName := ⟨RX2, "layRow", "(I)I"⟩
abbrev cX2_leastAhead : ByteArray := prog_4_method_23_code
def yX2_leastAhead : MethodName := ⟨RX2, "leastAhead", "(II)I"⟩
abbrev cX2_cellAt : ByteArray := prog_4_method_24_code
def yX2_cellAt : MethodName := ⟨RX2, "cellAt", "(II)I"⟩
abbrev cX2_traceWay : ByteArray := prog_4_method_25_code
def yX2_traceWay : MethodName := ⟨RX2, "traceWay", "()V"⟩
abbrev cX2_wayPlace : ByteArray := prog_4_method_26_code
def yX2_wayPlace : MethodName := ⟨RX2, "wayPlace", "(I)I"⟩
abbrev cX2_widestOfWay : ByteArray := prog_4_method_27_code
def yX2_widestOfWay : MethodName := ⟨RX2, "widestOfWay", "()I"⟩
abbrev cX2_stepsInBoth : ByteArray := prog_4_method_28_code
def yX2_stepsInBoth : MethodName := ⟨RX2, "stepsInBoth", "()I"⟩
def RX3 : String := "WarpDesk$Past"
def TX3 : u_T := fun k => match k with
  | 0 => ("WarpDesk$Past", "kinds", "[I", true)
  | 1 => ("WarpDesk$Past", "firsts", "[I", true)
  | 2 => ("WarpDesk$Past", "seconds", "[I", true)
  | 3 => ("WarpDesk$Past", "next", "I", false)
  | _ => ("WarpDesk$Past", "size", "I", false)
def tyX3 : Nat → FieldType := fun k => match k with
  | 0 => .array .int
  | 1 => .array .int
  | 2 => .array .int
  | 3 => .int
  | _ => .int
abbrev wsX30 : List Cond := u_ws RX3 TX3 5
theorem nmX3 : ∀ a, a < 5 → ∀ b, b < 5 → a ≠ b → (TX3 a).2.1 ≠ (TX3 b).2.1 := by decide +kernel
theorem tyX3_ok : ∀ k, k < 5 → parseFieldDescriptor (TX3 k).2.2.1 = some (tyX3 k) := by decide +kernel
abbrev cX3_init : ByteArray := prog_5_method_1_code
def yX3_init : MethodName := ⟨RX3, "<init>", "()V"⟩
abbrev cX3_forget : ByteArray := prog_5_method_2_code
def yX3_forget : MethodName := ⟨RX3, "forget", "()V"⟩
abbrev cX3_note : ByteArray := prog_5_method_3_code
def yX3_note : MethodName := ⟨RX3, "note", "(III)V"⟩
abbrev cX3_stepBack : ByteArray := prog_5_method_4_code
def yX3_stepBack : MethodName := ⟨RX3, "stepBack", "()Z"⟩
abbrev cX3_valueIn : ByteArray := prog_5_method_5_code
def yX3_valueIn : MethodName := ⟨RX3, "valueIn", "([II)I"⟩
abbrev cX3_kindOfStep : ByteArray := prog_5_method_6_code
def yX3_kindOfStep : MethodName := ⟨RX3, "kindOfStep", "()I"⟩
abbrev cX3_firstOfStep : ByteArray := prog_5_method_7_code
def yX3_firstOfStep : MethodName := ⟨RX3, "firstOfStep", "()I"⟩
abbrev cX3_secondOfStep : ByteArray := prog_5_method_8_code
def yX3_secondOfStep : MethodName := ⟨RX3, "secondOfStep", "()I"⟩
def RX4 : String := "WarpDesk$Queries"
def TX4 : u_T := fun k => match k with
  | 0 => ("WarpDesk$Queries", "readings", "[I", true)
  | 1 => ("WarpDesk$Queries", "lengths", "[I", true)
  | _ => ("WarpDesk$Queries", "size", "I", false)
def tyX4 : Nat → FieldType := fun k => match k with
  | 0 => .array .int
  | 1 => .array .int
  | _ => .int
abbrev wsX40 : List Cond := u_ws RX4 TX4 3
theorem nmX4 : ∀ a, a < 3 → ∀ b, b < 3 → a ≠ b → (TX4 a).2.1 ≠ (TX4 b).2.1 := by decide +kernel
theorem tyX4_ok : ∀ k, k < 3 → parseFieldDescriptor (TX4 k).2.2.1 = some (tyX4 k) := by decide +kernel
abbrev cX4_init : ByteArray := prog_6_method_1_code
def yX4_init : MethodName := ⟨RX4, "<init>", "()V"⟩
abbrev cX4_has : ByteArray := prog_6_method_2_code
def yX4_has : MethodName := ⟨RX4, "has", "(I)Z"⟩
abbrev cX4_lengthOf : ByteArray := prog_6_method_3_code
def yX4_lengthOf : MethodName := ⟨RX4, "lengthOf", "(I)I"⟩
abbrev cX4_valueAt : ByteArray := prog_6_method_4_code
def yX4_valueAt : MethodName := ⟨RX4, "valueAt", "(II)I"⟩
abbrev cX4_open : ByteArray := prog_6_method_5_code
def yX4_open : MethodName := ⟨RX4, "open", "()V"⟩
abbrev cX4_append : ByteArray := prog_6_method_6_code
def yX4_append : MethodName := ⟨RX4, "append", "(I)V"⟩
abbrev cX4_takeFrom : ByteArray := prog_6_method_7_code
def yX4_takeFrom : MethodName := ⟨RX4, "takeFrom", "(LWarpDesk$Queries;)V"⟩
abbrev cX4_copyQuery : ByteArray := prog_6_method_8_code
def yX4_copyQuery : MethodName := ⟨RX4, "copyQuery", "(I[I)V"⟩
def RX5 : String := "WarpDesk$Reader"
def TX5 : u_T := fun k => match k with
  | 0 => ("WarpDesk$Reader", "tape", "LWarpDesk$Tape;", true)
  | 1 => ("WarpDesk$Reader", "draft", "LWarpDesk$Stand;", true)
  | 2 => ("WarpDesk$Reader", "queries", "LWarpDesk$Queries;", true)
  | 3 => ("WarpDesk$Reader", "nameStarts", "[I", true)
  | 4 => ("WarpDesk$Reader", "nameLengths", "[I", true)
  | 5 => ("WarpDesk$Reader", "state", "I", false)
  | 6 => ("WarpDesk$Reader", "tell", "I", false)
  | 7 => ("WarpDesk$Reader", "isNegative", "Z", false)
  | 8 => ("WarpDesk$Reader", "told", "I", false)
  | 9 => ("WarpDesk$Reader", "isStopped", "Z", false)
  | 10 => ("WarpDesk$Reader", "fault", "I", false)
  | 11 => ("WarpDesk$Reader", "faultPlace", "I", false)
  | _ => ("WarpDesk$Reader", "faultCause", "I", false)
def tyX5 : Nat → FieldType := fun k => match k with
  | 0 => .object "WarpDesk$Tape"
  | 1 => .object "WarpDesk$Stand"
  | 2 => .object "WarpDesk$Queries"
  | 3 => .array .int
  | 4 => .array .int
  | 5 => .int
  | 6 => .int
  | 7 => .boolean
  | 8 => .int
  | 9 => .boolean
  | 10 => .int
  | 11 => .int
  | _ => .int
abbrev wsX50 : List Cond := u_ws RX5 TX5 13
theorem nmX5 : ∀ a, a < 13 → ∀ b, b < 13 → a ≠ b → (TX5 a).2.1 ≠ (TX5 b).2.1 := by decide +kernel
theorem tyX5_ok : ∀ k, k < 13 → parseFieldDescriptor (TX5 k).2.2.1 = some (tyX5 k) := by decide +kernel
abbrev cX5_init : ByteArray := prog_7_method_1_code
def yX5_init : MethodName := ⟨RX5, "<init>", "(LWarpDesk$Tape;)V"⟩
abbrev cX5_readText : ByteArray := prog_7_method_2_code
def yX5_readText : MethodName := ⟨RX5, "readText", "()I"⟩
abbrev cX5_begin : ByteArray := prog_7_method_3_code
def yX5_begin : MethodName := ⟨RX5, "begin", "()V"⟩
abbrev cX5_stop : ByteArray := prog_7_method_4_code
def yX5_stop : MethodName := ⟨RX5, "stop", "(I)V"⟩
abbrev cX5_mark : ByteArray := prog_7_method_5_code
def yX5_mark : MethodName := ⟨RX5, "mark", "(I)V"⟩
abbrev cX5_keepFault : ByteArray := prog_7_method_6_code
def yX5_keepFault : MethodName := ⟨RX5, "keepFault", "(I)V"⟩
abbrev cX5_mayStand : ByteArray := prog_7_method_7_code
def yX5_mayStand : MethodName := ⟨RX5, "mayStand", "()Z"⟩
abbrev cX5_isNameAtHand : ByteArray := prog_7_method_8_code
def yX5_isNameAtHand : MethodName := ⟨RX5, "isNameAtHand", "()Z"⟩
abbrev cX5_mayStandInRow : ByteArray := prog_7_method_9_code
def yX5_mayStandInRow : MethodName := ⟨RX5, "mayStandInRow", "()Z"⟩
abbrev cX5_hasRoom : ByteArray := prog_7_method_10_code
def yX5_hasRoom : MethodName := ⟨RX5, "hasRoom", "()Z"⟩
abbrev cX5_accept : ByteArray := prog_7_method_11_code
def yX5_accept : MethodName := ⟨RX5, "accept", "()V"⟩
abbrev cX5_tellAtHand : ByteArray := prog_7_method_12_code
def yX5_tellAtHand : MethodName := ⟨RX5, "tellAtHand", "()I"⟩
abbrev cX5_choiceAtHand : ByteArray := prog_7_method_13_code
def yX5_choiceAtHand : MethodName := ⟨RX5, "choiceAtHand", "()I"⟩
abbrev cX5_levelAtHand : ByteArray := prog_7_method_14_code
def yX5_levelAtHand : MethodName := ⟨RX5, "levelAtHand", "()I"⟩
abbrev cX5_costAtHand : ByteArray := prog_7_method_15_code
def yX5_costAtHand : MethodName := ⟨RX5, "costAtHand", "()I"⟩
abbrev cX5_beginTell : ByteArray := prog_7_method_16_code
def yX5_beginTell : MethodName := ⟨RX5, "beginTell", "()V"⟩
abbrev cX5_acceptName : ByteArray := prog_7_method_17_code
def yX5_acceptName : MethodName := ⟨RX5, "acceptName", "()V"⟩
abbrev cX5_acceptNumber : ByteArray := prog_7_method_18_code
def yX5_acceptNumber : MethodName := ⟨RX5, "acceptNumber", "()V"⟩
abbrev cX5_acceptInRow : ByteArray := prog_7_method_19_code
def yX5_acceptInRow : MethodName := ⟨RX5, "acceptInRow", "()V"⟩
abbrev cX5_keepInRow : ByteArray := prog_7_method_20_code
def yX5_keepInRow : MethodName := ⟨RX5, "keepInRow", "(I)V"⟩
def RX6 : String := "WarpDesk$Series"
def TX6 : u_T := fun k => match k with
  | 0 => ("WarpDesk$Series", "ring", "[I", true)
  | 1 => ("WarpDesk$Series", "first", "I", false)
  | _ => ("WarpDesk$Series", "size", "I", false)
def tyX6 : Nat → FieldType := fun k => match k with
  | 0 => .array .int
  | 1 => .int
  | _ => .int
abbrev wsX60 : List Cond := u_ws RX6 TX6 3
theorem nmX6 : ∀ a, a < 3 → ∀ b, b < 3 → a ≠ b → (TX6 a).2.1 ≠ (TX6 b).2.1 := by decide +kernel
theorem tyX6_ok : ∀ k, k < 3 → parseFieldDescriptor (TX6 k).2.2.1 = some (tyX6 k) := by decide +kernel
abbrev cX6_init : ByteArray := prog_8_method_1_code
def yX6_init : MethodName := ⟨RX6, "<init>", "()V"⟩
abbrev cX6_takeFrom : ByteArray := prog_8_method_2_code
def yX6_takeFrom : MethodName := ⟨RX6, "takeFrom", "(LWarpDesk$Stand;)V"⟩
abbrev cX6_copyInto : ByteArray := prog_8_method_3_code
def yX6_copyInto : MethodName := ⟨RX6, "copyInto", "(LWarpDesk$Stand;)V"⟩
abbrev cX6_valueAt : ByteArray := prog_8_method_4_code
def yX6_valueAt : MethodName := ⟨RX6, "valueAt", "(I)I"⟩
abbrev cX6_putAt : ByteArray := prog_8_method_5_code
def yX6_putAt : MethodName := ⟨RX6, "putAt", "(II)V"⟩
abbrev cX6_append : ByteArray := prog_8_method_6_code
def yX6_append : MethodName := ⟨RX6, "append", "(I)Z"⟩
abbrev cX6_cutLast : ByteArray := prog_8_method_7_code
def yX6_cutLast : MethodName := ⟨RX6, "cutLast", "()V"⟩
abbrev cX6_cutFirst : ByteArray := prog_8_method_8_code
def yX6_cutFirst : MethodName := ⟨RX6, "cutFirst", "(I)Z"⟩
abbrev cX6_bringBackFirst : ByteArray := prog_8_method_9_code
def yX6_bringBackFirst : MethodName := ⟨RX6, "bringBackFirst", "(I)V"⟩
abbrev cX6_hasReading : ByteArray := prog_8_method_10_code
def yX6_hasReading : MethodName := ⟨RX6, "hasReading", "(I)Z"⟩
abbrev cX6_hasWindow : ByteArray := prog_8_method_11_code
def yX6_hasWindow : MethodName := ⟨RX6, "hasWindow", "(II)Z"⟩
abbrev cX6_copyWindow : ByteArray := prog_8_method_12_code
def yX6_copyWindow : MethodName := ⟨RX6, "copyWindow", "(II[I)V"⟩
abbrev cX6_sumOf : ByteArray := prog_8_method_13_code
def yX6_sumOf : MethodName := ⟨RX6, "sumOf", "(II)I"⟩
abbrev cX6_leastOf : ByteArray := prog_8_method_14_code
def yX6_leastOf : MethodName := ⟨RX6, "leastOf", "(II)I"⟩
abbrev cX6_greatestOf : ByteArray := prog_8_method_15_code
def yX6_greatestOf : MethodName := ⟨RX6, "greatestOf", "(II)I"⟩
abbrev cX6_gapCount : ByteArray := prog_8_method_16_code
def yX6_gapCount : MethodName := ⟨RX6, "gapCount", "()I"⟩
abbrev cX6_runFrom : ByteArray := prog_8_method_17_code
def yX6_runFrom : MethodName := ⟨RX6, "runFrom", "(I)I"⟩
abbrev cX6_readingsAtEnd : ByteArray := prog_8_method_18_code
def yX6_readingsAtEnd : MethodName := ⟨RX6, "readingsAtEnd", "()I"⟩
abbrev cX6_longestRunFirst : ByteArray := prog_8_method_19_code
def yX6_longestRunFirst : MethodName := ⟨RX6, "longestRunFirst", "()I"⟩
abbrev cX6_flatWindows : ByteArray := prog_8_method_20_code
def yX6_flatWindows : MethodName := ⟨RX6, "flatWindows", "(I)I"⟩
def RX7 : String := "WarpDesk$Settings"
def TX7 : u_T := fun k => match k with
  | _ => ("WarpDesk$Settings", "values", "[I", true)
def tyX7 : Nat → FieldType := fun k => match k with
  | _ => .array .int
abbrev wsX70 : List Cond := u_ws RX7 TX7 1
theorem nmX7 : ∀ a, a < 1 → ∀ b, b < 1 → a ≠ b → (TX7 a).2.1 ≠ (TX7 b).2.1 := by decide +kernel
theorem tyX7_ok : ∀ k, k < 1 → parseFieldDescriptor (TX7 k).2.2.1 = some (tyX7 k) := by decide +kernel
abbrev cX7_init : ByteArray := prog_9_method_1_code
def yX7_init : MethodName := ⟨RX7, "<init>", "()V"⟩
abbrev cX7_allows : ByteArray := prog_9_method_2_code
def yX7_allows : MethodName := ⟨RX7, "allows", "(II)Z"⟩
abbrev cX7_valueOf : ByteArray := prog_9_method_3_code
def yX7_valueOf : MethodName := ⟨RX7, "valueOf", "(I)I"⟩
abbrev cX7_put : ByteArray := prog_9_method_4_code
def yX7_put : MethodName := ⟨RX7, "put", "(II)V"⟩
abbrev cX7_clear : ByteArray := prog_9_method_5_code
def yX7_clear : MethodName := ⟨RX7, "clear", "()V"⟩
abbrev cX7_takeFrom : ByteArray := prog_9_method_6_code
def yX7_takeFrom : MethodName := ⟨RX7, "takeFrom", "(LWarpDesk$Settings;)V"⟩
def RX8 : String := "WarpDesk$Stand"
def TX8 : u_T := fun k => match k with
  | 0 => ("WarpDesk$Stand", "places", "[I", true)
  | 1 => ("WarpDesk$Stand", "size", "I", false)
  | 2 => ("WarpDesk$Stand", "settings", "LWarpDesk$Settings;", true)
  | _ => ("WarpDesk$Stand", "held", "Z", false)
def tyX8 : Nat → FieldType := fun k => match k with
  | 0 => .array .int
  | 1 => .int
  | 2 => .object "WarpDesk$Settings"
  | _ => .boolean
abbrev wsX80 : List Cond := u_ws RX8 TX8 4
theorem nmX8 : ∀ a, a < 4 → ∀ b, b < 4 → a ≠ b → (TX8 a).2.1 ≠ (TX8 b).2.1 := by decide +kernel
theorem tyX8_ok : ∀ k, k < 4 → parseFieldDescriptor (TX8 k).2.2.1 = some (tyX8 k) := by decide +kernel
abbrev cX8_init : ByteArray := prog_10_method_1_code
def yX8_init : MethodName := ⟨RX8, "<init>", "()V"⟩
abbrev cX8_clear : ByteArray := prog_10_method_2_code
def yX8_clear : MethodName := ⟨RX8, "clear", "()V"⟩
abbrev cX8_append : ByteArray := prog_10_method_3_code
def yX8_append : MethodName := ⟨RX8, "append", "(I)V"⟩
abbrev cX8_valueAt : ByteArray := prog_10_method_4_code
def yX8_valueAt : MethodName := ⟨RX8, "valueAt", "(I)I"⟩
def RX9 : String := "WarpDesk$Stretches"
def TX9 : u_T := fun k => match k with
  | 0 => ("WarpDesk$Stretches", "bench", "LWarpDesk$Bench;", true)
  | 1 => ("WarpDesk$Stretches", "fit", "LWarpDesk$Fit;", true)
  | 2 => ("WarpDesk$Stretches", "rows", "[I", true)
  | 3 => ("WarpDesk$Stretches", "isThere", "[Z", true)
  | 4 => ("WarpDesk$Stretches", "nearest", "I", false)
  | 5 => ("WarpDesk$Stretches", "nearestDistance", "I", false)
  | 6 => ("WarpDesk$Stretches", "pairLesser", "I", false)
  | 7 => ("WarpDesk$Stretches", "pairGreater", "I", false)
  | 8 => ("WarpDesk$Stretches", "pairDistance", "I", false)
  | 9 => ("WarpDesk$Stretches", "oddWindow", "I", false)
  | _ => ("WarpDesk$Stretches", "oddDistance", "I", false)
def tyX9 : Nat → FieldType := fun k => match k with
  | 0 => .object "WarpDesk$Bench"
  | 1 => .object "WarpDesk$Fit"
  | 2 => .array .int
  | 3 => .array .boolean
  | 4 => .int
  | 5 => .int
  | 6 => .int
  | 7 => .int
  | 8 => .int
  | 9 => .int
  | _ => .int
abbrev wsX90 : List Cond := u_ws RX9 TX9 11
theorem nmX9 : ∀ a, a < 11 → ∀ b, b < 11 → a ≠ b → (TX9 a).2.1 ≠ (TX9 b).2.1 := by decide +kernel
theorem tyX9_ok : ∀ k, k < 11 → parseFieldDescriptor (TX9 k).2.2.1 = some (tyX9 k) := by decide +kernel
abbrev cX9_init : ByteArray := prog_11_method_1_code
def yX9_init : MethodName := ⟨RX9, "<init>", "(LWarpDesk$Bench;)V"⟩
abbrev cX9_bringAll : ByteArray := prog_11_method_2_code
def yX9_bringAll : MethodName := ⟨RX9, "bringAll", "(I)V"⟩
abbrev cX9_findNear : ByteArray := prog_11_method_3_code
def yX9_findNear : MethodName := ⟨RX9, "findNear", "(II)V"⟩
abbrev cX9_findNearest : ByteArray := prog_11_method_4_code
def yX9_findNearest : MethodName := ⟨RX9, "findNearest", "(III)V"⟩
abbrev cX9_findPair : ByteArray := prog_11_method_5_code
def yX9_findPair : MethodName := ⟨RX9, "findPair", "(I)V"⟩
abbrev cX9_seekPairOf : ByteArray := prog_11_method_6_code
def yX9_seekPairOf : MethodName := ⟨RX9, "seekPairOf", "(II)V"⟩
abbrev cX9_findOdd : ByteArray := prog_11_method_7_code
def yX9_findOdd : MethodName := ⟨RX9, "findOdd", "(I)V"⟩
def RX10 : String := "WarpDesk$Tape"
def TX10 : u_T := fun k => match k with
  | 0 => ("WarpDesk$Tape", "bytes", "[I", true)
  | 1 => ("WarpDesk$Tape", "size", "I", false)
  | 2 => ("WarpDesk$Tape", "kind", "I", false)
  | 3 => ("WarpDesk$Tape", "start", "I", false)
  | 4 => ("WarpDesk$Tape", "value", "I", false)
  | 5 => ("WarpDesk$Tape", "number", "I", false)
  | _ => ("WarpDesk$Tape", "behind", "I", false)
def tyX10 : Nat → FieldType := fun k => match k with
  | 0 => .array .int
  | 1 => .int
  | 2 => .int
  | 3 => .int
  | 4 => .int
  | 5 => .int
  | _ => .int
abbrev wsX100 : List Cond := u_ws RX10 TX10 7
theorem nmX10 : ∀ a, a < 7 → ∀ b, b < 7 → a ≠ b → (TX10 a).2.1 ≠ (TX10 b).2.1 := by decide +kernel
theorem tyX10_ok : ∀ k, k < 7 → parseFieldDescriptor (TX10 k).2.2.1 = some (tyX10 k) := by decide +kernel
abbrev cX10_init : ByteArray := prog_12_method_1_code
def yX10_init : MethodName := ⟨RX10, "<init>", "()V"⟩
abbrev cX10_addFour : ByteArray := prog_12_method_2_code
def yX10_addFour : MethodName := ⟨RX10, "addFour", "(I)V"⟩
abbrev cX10_byteAt : ByteArray := prog_12_method_3_code
def yX10_byteAt : MethodName := ⟨RX10, "byteAt", "(I)I"⟩
abbrev cX10_toFirstToken : ByteArray := prog_12_method_4_code
def yX10_toFirstToken : MethodName := ⟨RX10, "toFirstToken", "()V"⟩
abbrev cX10_toNextToken : ByteArray := prog_12_method_5_code
def yX10_toNextToken : MethodName := ⟨RX10, "toNextToken", "()V"⟩
abbrev cX10_behindBlanks : ByteArray := prog_12_method_6_code
def yX10_behindBlanks : MethodName := ⟨RX10, "behindBlanks", "(I)I"⟩
abbrev cX10_isLetter : ByteArray := prog_12_method_7_code
def yX10_isLetter : MethodName := ⟨RX10, "isLetter", "(I)Z"⟩
abbrev cX10_isDigit : ByteArray := prog_12_method_8_code
def yX10_isDigit : MethodName := ⟨RX10, "isDigit", "(I)Z"⟩
abbrev cX10_takeLetters : ByteArray := prog_12_method_9_code
def yX10_takeLetters : MethodName := ⟨RX10, "takeLetters", "()V"⟩
abbrev cX10_takeDigits : ByteArray := prog_12_method_10_code
def yX10_takeDigits : MethodName := ⟨RX10, "takeDigits", "()V"⟩
abbrev cX10_lengthAtHand : ByteArray := prog_12_method_11_code
def yX10_lengthAtHand : MethodName := ⟨RX10, "lengthAtHand", "()I"⟩
abbrev cX10_isWord : ByteArray := prog_12_method_12_code
def yX10_isWord : MethodName := ⟨RX10, "isWord", "(Ljava/lang/String;)Z"⟩
abbrev cX10_isSameAsAt : ByteArray := prog_12_method_13_code
def yX10_isSameAsAt : MethodName := ⟨RX10, "isSameAsAt", "(II)Z"⟩
def RX11 : String := "WarpDesk"
def TX11 : u_T := fun k => match k with
  | 0 => ("WarpDesk", "tape", "LWarpDesk$Tape;", true)
  | 1 => ("WarpDesk", "reader", "LWarpDesk$Reader;", true)
  | 2 => ("WarpDesk", "series", "LWarpDesk$Series;", true)
  | 3 => ("WarpDesk", "queries", "LWarpDesk$Queries;", true)
  | 4 => ("WarpDesk", "settings", "LWarpDesk$Settings;", true)
  | 5 => ("WarpDesk", "past", "LWarpDesk$Past;", true)
  | 6 => ("WarpDesk", "slots", "[LWarpDesk$Stand;", true)
  | 7 => ("WarpDesk", "bench", "LWarpDesk$Bench;", true)
  | 8 => ("WarpDesk", "finder", "LWarpDesk$Finder;", true)
  | _ => ("WarpDesk", "stretches", "LWarpDesk$Stretches;", true)
def tyX11 : Nat → FieldType := fun k => match k with
  | 0 => .object "WarpDesk$Tape"
  | 1 => .object "WarpDesk$Reader"
  | 2 => .object "WarpDesk$Series"
  | 3 => .object "WarpDesk$Queries"
  | 4 => .object "WarpDesk$Settings"
  | 5 => .object "WarpDesk$Past"
  | 6 => .array (.object "WarpDesk$Stand")
  | 7 => .object "WarpDesk$Bench"
  | 8 => .object "WarpDesk$Finder"
  | _ => .object "WarpDesk$Stretches"
abbrev wsX110 : List Cond := u_ws RX11 TX11 10
theorem nmX11 : ∀ a, a < 10 → ∀ b, b < 10 → a ≠ b → (TX11 a).2.1 ≠ (TX11 b).2.1 := by decide +kernel
theorem tyX11_ok : ∀ k, k < 10 → parseFieldDescriptor (TX11 k).2.2.1 = some (tyX11 k) := by decide +kernel
abbrev cX11_init : ByteArray := prog_1_method_1_code
def yX11_init : MethodName := ⟨RX11, "<init>", "()V"⟩
abbrev cX11_feed : ByteArray := prog_1_method_2_code
def yX11_feed : MethodName := ⟨RX11, "feed", "(IIIII)I"⟩
abbrev cX11_back : ByteArray := prog_1_method_3_code
def yX11_back : MethodName := ⟨RX11, "back", "(I)I"⟩
abbrev cX11_read : ByteArray := prog_1_method_4_code
def yX11_read : MethodName := ⟨RX11, "read", "()I"⟩
abbrev cX11_place : ByteArray := prog_1_method_5_code
def yX11_place : MethodName := ⟨RX11, "place", "()I"⟩
abbrev cX11_cause : ByteArray := prog_1_method_6_code
def yX11_cause : MethodName := ⟨RX11, "cause", "()I"⟩
abbrev cX11_at : ByteArray := prog_1_method_7_code
def yX11_at : MethodName := ⟨RX11, "at", "(I)I"⟩
abbrev cX11_query : ByteArray := prog_1_method_8_code
def yX11_query : MethodName := ⟨RX11, "query", "(II)I"⟩
abbrev cX11_push : ByteArray := prog_1_method_9_code
def yX11_push : MethodName := ⟨RX11, "push", "(I)I"⟩
abbrev cX11_gap : ByteArray := prog_1_method_10_code
def yX11_gap : MethodName := ⟨RX11, "gap", "()I"⟩
abbrev cX11_appendPlace : ByteArray := prog_1_method_11_code
def yX11_appendPlace : MethodName := ⟨RX11, "appendPlace", "(I)I"⟩
abbrev cX11_mend : ByteArray := prog_1_method_12_code
def yX11_mend : MethodName := ⟨RX11, "mend", "(I)I"⟩
abbrev cX11_drop : ByteArray := prog_1_method_13_code
def yX11_drop : MethodName := ⟨RX11, "drop", "(I)Z"⟩
abbrev cX11_set : ByteArray := prog_1_method_14_code
def yX11_set : MethodName := ⟨RX11, "set", "(II)Z"⟩
abbrev cX11_undo : ByteArray := prog_1_method_15_code
def yX11_undo : MethodName := ⟨RX11, "undo", "()Z"⟩
abbrev cX11_window : ByteArray := prog_1_method_16_code
def yX11_window : MethodName := ⟨RX11, "window", "(III)I"⟩
abbrev cX11_level : ByteArray := prog_1_method_17_code
def yX11_level : MethodName := ⟨RX11, "level", "(III)I"⟩
abbrev cX11_distance : ByteArray := prog_1_method_18_code
def yX11_distance : MethodName := ⟨RX11, "distance", "(II)I"⟩
abbrev cX11_bound : ByteArray := prog_1_method_19_code
def yX11_bound : MethodName := ⟨RX11, "bound", "(III)I"⟩
abbrev cX11_look : ByteArray := prog_1_method_20_code
def yX11_look : MethodName := ⟨RX11, "look", "(IIII)I"⟩
abbrev cX11_way : ByteArray := prog_1_method_21_code
def yX11_way : MethodName := ⟨RX11, "way", "(III)I"⟩
abbrev cX11_lean : ByteArray := prog_1_method_22_code
def yX11_lean : MethodName := ⟨RX11, "lean", "(III)I"⟩
abbrev cX11_alike : ByteArray := prog_1_method_23_code
def yX11_alike : MethodName := ⟨RX11, "alike", "(II)I"⟩
abbrev cX11_whose : ByteArray := prog_1_method_24_code
def yX11_whose : MethodName := ⟨RX11, "whose", "(II)I"⟩
abbrev cX11_fired : ByteArray := prog_1_method_25_code
def yX11_fired : MethodName := ⟨RX11, "fired", "(I)I"⟩
abbrev cX11_best : ByteArray := prog_1_method_26_code
def yX11_best : MethodName := ⟨RX11, "best", "(II)I"⟩
abbrev cX11_search : ByteArray := prog_1_method_27_code
def yX11_search : MethodName := ⟨RX11, "search", "(II)I"⟩
abbrev cX11_match : ByteArray := prog_1_method_28_code
def yX11_match : MethodName := ⟨RX11, "match", "(III)I"⟩
abbrev cX11_within : ByteArray := prog_1_method_29_code
def yX11_within : MethodName := ⟨RX11, "within", "(II)I"⟩
abbrev cX11_cover : ByteArray := prog_1_method_30_code
def yX11_cover : MethodName := ⟨RX11, "cover", "(II)I"⟩
abbrev cX11_needs : ByteArray := prog_1_method_31_code
def yX11_needs : MethodName := ⟨RX11, "needs", "(II)I"⟩
abbrev cX11_rank : ByteArray := prog_1_method_32_code
def yX11_rank : MethodName := ⟨RX11, "rank", "(II)I"⟩
abbrev cX11_kth : ByteArray := prog_1_method_33_code
def yX11_kth : MethodName := ⟨RX11, "kth", "(III)I"⟩
abbrev cX11_slack : ByteArray := prog_1_method_34_code
def yX11_slack : MethodName := ⟨RX11, "slack", "(I)I"⟩
abbrev cX11_turns : ByteArray := prog_1_method_35_code
def yX11_turns : MethodName := ⟨RX11, "turns", "(I)I"⟩
abbrev cX11_isStretch : ByteArray := prog_1_method_36_code
def yX11_isStretch : MethodName := ⟨RX11, "isStretch", "(I)Z"⟩
abbrev cX11_near : ByteArray := prog_1_method_37_code
def yX11_near : MethodName := ⟨RX11, "near", "(III)I"⟩
abbrev cX11_pair : ByteArray := prog_1_method_38_code
def yX11_pair : MethodName := ⟨RX11, "pair", "(II)I"⟩
abbrev cX11_odd : ByteArray := prog_1_method_39_code
def yX11_odd : MethodName := ⟨RX11, "odd", "(II)I"⟩
abbrev cX11_flat : ByteArray := prog_1_method_40_code
def yX11_flat : MethodName := ⟨RX11, "flat", "(I)I"⟩
abbrev cX11_whole : ByteArray := prog_1_method_41_code
def yX11_whole : MethodName := ⟨RX11, "whole", "(I)I"⟩
abbrev cX11_hold : ByteArray := prog_1_method_42_code
def yX11_hold : MethodName := ⟨RX11, "hold", "(I)Z"⟩
abbrev cX11_restore : ByteArray := prog_1_method_43_code
def yX11_restore : MethodName := ⟨RX11, "restore", "(I)Z"⟩
abbrev cX11_goOnFrom : ByteArray := prog_1_method_44_code
def yX11_goOnFrom : MethodName := ⟨RX11, "goOnFrom", "(LWarpDesk$Stand;)V"⟩
abbrev cX11_slotsHeld : ByteArray := prog_1_method_45_code
def yX11_slotsHeld : MethodName := ⟨RX11, "slotsHeld", "()I"⟩
abbrev cX11_count : ByteArray := prog_1_method_46_code
def yX11_count : MethodName := ⟨RX11, "count", "(I)I"⟩
def RX12 : String := "WarpDeskModel"
def TX12 : u_T := fun k => match k with
  | 0 => ("WarpDeskModel", "thrown", "I", false)
  | 1 => ("WarpDeskModel", "tape", "[B", true)
  | 2 => ("WarpDeskModel", "taped", "I", false)
  | 3 => ("WarpDeskModel", "text", "[B", true)
  | 4 => ("WarpDeskModel", "size", "I", false)
  | 5 => ("WarpDeskModel", "tKind", "[I", true)
  | 6 => ("WarpDeskModel", "tPlace", "[I", true)
  | 7 => ("WarpDeskModel", "tValue", "[I", true)
  | 8 => ("WarpDeskModel", "tName", "[J", true)
  | 9 => ("WarpDeskModel", "keys", "[J", true)
  | 10 => ("WarpDeskModel", "tokens", "I", false)
  | 11 => ("WarpDeskModel", "t", "I", false)
  | 12 => ("WarpDeskModel", "open", "I", false)
  | 13 => ("WarpDeskModel", "fault", "I", false)
  | 14 => ("WarpDeskModel", "faultPlace", "I", false)
  | 15 => ("WarpDeskModel", "worst", "I", false)
  | 16 => ("WarpDeskModel", "worstPlace", "I", false)
  | 17 => ("WarpDeskModel", "place", "I", false)
  | 18 => ("WarpDeskModel", "here", "I", false)
  | 19 => ("WarpDeskModel", "faultCause", "I", false)
  | 20 => ("WarpDeskModel", "worstCause", "I", false)
  | 21 => ("WarpDeskModel", "cause", "I", false)
  | 22 => ("WarpDeskModel", "live", "I", false)
  | 23 => ("WarpDeskModel", "side", "I", false)
  | 24 => ("WarpDeskModel", "names", "I", false)
  | 25 => ("WarpDeskModel", "nameOf", "[J", true)
  | 26 => ("WarpDeskModel", "placesTold", "[I", true)
  | 27 => ("WarpDeskModel", "seriesTold", "[I", true)
  | 28 => ("WarpDeskModel", "queries", "[I", true)
  | 29 => ("WarpDeskModel", "queryMany", "[I", true)
  | 30 => ("WarpDeskModel", "queryAt", "[I", true)
  | 31 => ("WarpDeskModel", "bandTold", "[I", true)
  | 32 => ("WarpDeskModel", "levelTold", "[I", true)
  | 33 => ("WarpDeskModel", "costTold", "[I", true)
  | 34 => ("WarpDeskModel", "apartTold", "[I", true)
  | 35 => ("WarpDeskModel", "now", "[I", true)
  | 36 => ("WarpDeskModel", "row", "[I", true)
  | 37 => ("WarpDeskModel", "wide", "I", false)
  | 38 => ("WarpDeskModel", "firstAt", "[I", true)
  | 39 => ("WarpDeskModel", "otherAt", "[I", true)
  | 40 => ("WarpDeskModel", "tableAt", "[I", true)
  | 41 => ("WarpDeskModel", "laid", "I", false)
  | 42 => ("WarpDeskModel", "brokeAt", "I", false)
  | 43 => ("WarpDeskModel", "looksAt", "I", false)
  | 44 => ("WarpDeskModel", "undos", "I", false)
  | 45 => ("WarpDeskModel", "history", "[I", true)
  | 46 => ("WarpDeskModel", "wayAt", "[I", true)
  | 47 => ("WarpDeskModel", "wayMany", "I", false)
  | 48 => ("WarpDeskModel", "farBy", "[I", true)
  | 49 => ("WarpDeskModel", "searchBy", "[I", true)
  | 50 => ("WarpDeskModel", "matchMany", "I", false)
  | 51 => ("WarpDeskModel", "matchAt", "[I", true)
  | 52 => ("WarpDeskModel", "nearFar", "I", false)
  | 53 => ("WarpDeskModel", "isHeld", "[Z", true)
  | _ => ("WarpDeskModel", "heldRows", "[I", true)
def tyX12 : Nat → FieldType := fun k => match k with
  | 0 => .int
  | 1 => .array .byte
  | 2 => .int
  | 3 => .array .byte
  | 4 => .int
  | 5 => .array .int
  | 6 => .array .int
  | 7 => .array .int
  | 8 => .array .long
  | 9 => .array .long
  | 10 => .int
  | 11 => .int
  | 12 => .int
  | 13 => .int
  | 14 => .int
  | 15 => .int
  | 16 => .int
  | 17 => .int
  | 18 => .int
  | 19 => .int
  | 20 => .int
  | 21 => .int
  | 22 => .int
  | 23 => .int
  | 24 => .int
  | 25 => .array .long
  | 26 => .array .int
  | 27 => .array .int
  | 28 => .array .int
  | 29 => .array .int
  | 30 => .array .int
  | 31 => .array .int
  | 32 => .array .int
  | 33 => .array .int
  | 34 => .array .int
  | 35 => .array .int
  | 36 => .array .int
  | 37 => .int
  | 38 => .array .int
  | 39 => .array .int
  | 40 => .array .int
  | 41 => .int
  | 42 => .int
  | 43 => .int
  | 44 => .int
  | 45 => .array .int
  | 46 => .array .int
  | 47 => .int
  | 48 => .array .int
  | 49 => .array .int
  | 50 => .int
  | 51 => .array .int
  | 52 => .int
  | 53 => .array .boolean
  | _ => .array .int
abbrev wsX120 : List Cond := u_ws RX12 TX12 55
theorem nmX12 : ∀ a, a < 55 → ∀ b, b < 55 → a ≠ b → (TX12 a).2.1 ≠ (TX12 b).2.1 := by decide +kernel
theorem tyX12_ok : ∀ k, k < 55 → parseFieldDescriptor (TX12 k).2.2.1 = some (tyX12 k) := by decide +kernel
abbrev cX12_init : ByteArray := prog_14_method_2_code
def yX12_init : MethodName := ⟨RX12, "<init>", "()V"⟩
abbrev cX12_feed : ByteArray := prog_14_method_3_code
def yX12_feed : MethodName := ⟨RX12, "feed", "(IIIII)I"⟩
abbrev cX12_lays : ByteArray := prog_14_method_4_code
def yX12_lays : MethodName := ⟨RX12, "lays", "(I)V"⟩
abbrev cX12_back : ByteArray := prog_14_method_5_code
def yX12_back : MethodName := ⟨RX12, "back", "(I)I"⟩
abbrev cX12_byteAt : ByteArray := prog_14_method_6_code
def yX12_byteAt : MethodName := ⟨RX12, "byteAt", "(I)I"⟩
abbrev cX12_isDigit : ByteArray := prog_14_method_7_code
def yX12_isDigit : MethodName := ⟨RX12, "isDigit", "(I)Z"⟩
abbrev cX12_isLetter : ByteArray := prog_14_method_8_code
def yX12_isLetter : MethodName := ⟨RX12, "isLetter", "(I)Z"⟩
abbrev cX12_appends : ByteArray := prog_14_method_9_code
def yX12_appends : MethodName := ⟨RX12, "appends", "(JI)J"⟩
abbrev cX12_letters : ByteArray := prog_14_method_10_code
def yX12_letters : MethodName := ⟨RX12, "letters", "(IIIIIII)J"⟩
abbrev cX12_token : ByteArray := prog_14_method_11_code
def yX12_token : MethodName := ⟨RX12, "token", "(IIIJ)V"⟩
abbrev cX12_cut : ByteArray := prog_14_method_12_code
def yX12_cut : MethodName := ⟨RX12, "cut", "()V"⟩
abbrev cX12_sign : ByteArray := prog_14_method_13_code
def yX12_sign : MethodName := ⟨RX12, "sign", "(III)I"⟩
abbrev cX12_is : ByteArray := prog_14_method_14_code
def yX12_is : MethodName := ⟨RX12, "is", "(I)Z"⟩
abbrev cX12_fail : ByteArray := prog_14_method_15_code
def yX12_fail : MethodName := ⟨RX12, "fail", "(I)V"⟩
abbrev cX12_wrong : ByteArray := prog_14_method_16_code
def yX12_wrong : MethodName := ⟨RX12, "wrong", "(II)V"⟩
abbrev cX12_goesOn : ByteArray := prog_14_method_17_code
def yX12_goesOn : MethodName := ⟨RX12, "goesOn", "()V"⟩
abbrev cX12_must : ByteArray := prog_14_method_18_code
def yX12_must : MethodName := ⟨RX12, "must", "(I)V"⟩
abbrev cX12_plain : ByteArray := prog_14_method_19_code
def yX12_plain : MethodName := ⟨RX12, "plain", "(I)V"⟩
abbrev cX12_read : ByteArray := prog_14_method_20_code
def yX12_read : MethodName := ⟨RX12, "read", "()I"⟩
abbrev cX12_place : ByteArray := prog_14_method_21_code
def yX12_place : MethodName := ⟨RX12, "place", "()I"⟩
abbrev cX12_cause : ByteArray := prog_14_method_22_code
def yX12_cause : MethodName := ⟨RX12, "cause", "()I"⟩
abbrev cX12_toldInt : ByteArray := prog_14_method_23_code
def yX12_toldInt : MethodName := ⟨RX12, "toldInt", "(II)I"⟩
abbrev cX12_toldWord : ByteArray := prog_14_method_24_code
def yX12_toldWord : MethodName := ⟨RX12, "toldWord", "(II)I"⟩
abbrev cX12_tellOne : ByteArray := prog_14_method_25_code
def yX12_tellOne : MethodName := ⟨RX12, "tellOne", "()V"⟩
abbrev cX12_bounded : ByteArray := prog_14_method_26_code
def yX12_bounded : MethodName := ⟨RX12, "bounded", "(II)I"⟩
abbrev cX12_isReading : ByteArray := prog_14_method_27_code
def yX12_isReading : MethodName := ⟨RX12, "isReading", "()Z"⟩
abbrev cX12_readingTold : ByteArray := prog_14_method_28_code
def yX12_readingTold : MethodName := ⟨RX12, "readingTold", "()I"⟩
abbrev cX12_tellSeries : ByteArray := prog_14_method_29_code
def yX12_tellSeries : MethodName := ⟨RX12, "tellSeries", "()V"⟩
abbrev cX12_tellQuery : ByteArray := prog_14_method_30_code
def yX12_tellQuery : MethodName := ⟨RX12, "tellQuery", "()V"⟩
abbrev cX12_in : ByteArray := prog_14_method_31_code
def yX12_in : MethodName := ⟨RX12, "in", "(III)Z"⟩
abbrev cX12_downBy : ByteArray := prog_14_method_32_code
def yX12_downBy : MethodName := ⟨RX12, "downBy", "(II)I"⟩
abbrev cX12_begins : ByteArray := prog_14_method_33_code
def yX12_begins : MethodName := ⟨RX12, "begins", "()V"⟩
abbrev cX12_keepsRow : ByteArray := prog_14_method_34_code
def yX12_keepsRow : MethodName := ⟨RX12, "keepsRow", "()V"⟩
abbrev cX12_copies : ByteArray := prog_14_method_35_code
def yX12_copies : MethodName := ⟨RX12, "copies", "()V"⟩
abbrev cX12_isPlace : ByteArray := prog_14_method_36_code
def yX12_isPlace : MethodName := ⟨RX12, "isPlace", "(I)Z"⟩
abbrev cX12_isThere : ByteArray := prog_14_method_37_code
def yX12_isThere : MethodName := ⟨RX12, "isThere", "(I)Z"⟩
abbrev cX12_isWindow : ByteArray := prog_14_method_38_code
def yX12_isWindow : MethodName := ⟨RX12, "isWindow", "(II)Z"⟩
abbrev cX12_isQuery : ByteArray := prog_14_method_39_code
def yX12_isQuery : MethodName := ⟨RX12, "isQuery", "(I)Z"⟩
abbrev cX12_wideOf : ByteArray := prog_14_method_40_code
def yX12_wideOf : MethodName := ⟨RX12, "wideOf", "(I)I"⟩
abbrev cX12_isOf : ByteArray := prog_14_method_41_code
def yX12_isOf : MethodName := ⟨RX12, "isOf", "(II)Z"⟩
abbrev cX12_levelsFirst : ByteArray := prog_14_method_42_code
def yX12_levelsFirst : MethodName := ⟨RX12, "levelsFirst", "(I)V"⟩
abbrev cX12_changesBoth : ByteArray := prog_14_method_43_code
def yX12_changesBoth : MethodName := ⟨RX12, "changesBoth", "(I)V"⟩
abbrev cX12_laysQuery : ByteArray := prog_14_method_44_code
def yX12_laysQuery : MethodName := ⟨RX12, "laysQuery", "(I)V"⟩
abbrev cX12_laysWindow : ByteArray := prog_14_method_45_code
def yX12_laysWindow : MethodName := ⟨RX12, "laysWindow", "(II)V"⟩
abbrev cX12_laysBoth : ByteArray := prog_14_method_46_code
def yX12_laysBoth : MethodName := ⟨RX12, "laysBoth", "(II)V"⟩
abbrev cX12_laysWindows : ByteArray := prog_14_method_47_code
def yX12_laysWindows : MethodName := ⟨RX12, "laysWindows", "(III)V"⟩
abbrev cX12_costOf : ByteArray := prog_14_method_48_code
def yX12_costOf : MethodName := ⟨RX12, "costOf", "(II)I"⟩
abbrev cX12_isBand : ByteArray := prog_14_method_49_code
def yX12_isBand : MethodName := ⟨RX12, "isBand", "(II)Z"⟩
abbrev cX12_atTable : ByteArray := prog_14_method_50_code
def yX12_atTable : MethodName := ⟨RX12, "atTable", "(II)I"⟩
abbrev cX12_least : ByteArray := prog_14_method_51_code
def yX12_least : MethodName := ⟨RX12, "least", "(II)I"⟩
abbrev cX12_laysRow : ByteArray := prog_14_method_52_code
def yX12_laysRow : MethodName := ⟨RX12, "laysRow", "(I)I"⟩
abbrev cX12_laysTable : ByteArray := prog_14_method_53_code
def yX12_laysTable : MethodName := ⟨RX12, "laysTable", "(I)I"⟩
abbrev cX12_distanceOf : ByteArray := prog_14_method_54_code
def yX12_distanceOf : MethodName := ⟨RX12, "distanceOf", "(II)I"⟩
abbrev cX12_endsOf : ByteArray := prog_14_method_55_code
def yX12_endsOf : MethodName := ⟨RX12, "endsOf", "()I"⟩
abbrev cX12_overOf : ByteArray := prog_14_method_56_code
def yX12_overOf : MethodName := ⟨RX12, "overOf", "()I"⟩
abbrev cX12_backOf : ByteArray := prog_14_method_57_code
def yX12_backOf : MethodName := ⟨RX12, "backOf", "()I"⟩
abbrev cX12_passes : ByteArray := prog_14_method_58_code
def yX12_passes : MethodName := ⟨RX12, "passes", "(III)I"⟩
abbrev cX12_at : ByteArray := prog_14_method_59_code
def yX12_at : MethodName := ⟨RX12, "at", "(I)I"⟩
abbrev cX12_query : ByteArray := prog_14_method_60_code
def yX12_query : MethodName := ⟨RX12, "query", "(II)I"⟩
abbrev cX12_records : ByteArray := prog_14_method_61_code
def yX12_records : MethodName := ⟨RX12, "records", "()V"⟩
abbrev cX12_comes : ByteArray := prog_14_method_62_code
def yX12_comes : MethodName := ⟨RX12, "comes", "(I)I"⟩
abbrev cX12_push : ByteArray := prog_14_method_63_code
def yX12_push : MethodName := ⟨RX12, "push", "(I)I"⟩
abbrev cX12_gap : ByteArray := prog_14_method_64_code
def yX12_gap : MethodName := ⟨RX12, "gap", "()I"⟩
abbrev cX12_mend : ByteArray := prog_14_method_65_code
def yX12_mend : MethodName := ⟨RX12, "mend", "(I)I"⟩
abbrev cX12_drop : ByteArray := prog_14_method_66_code
def yX12_drop : MethodName := ⟨RX12, "drop", "(I)Z"⟩
abbrev cX12_set : ByteArray := prog_14_method_67_code
def yX12_set : MethodName := ⟨RX12, "set", "(II)Z"⟩
abbrev cX12_undo : ByteArray := prog_14_method_68_code
def yX12_undo : MethodName := ⟨RX12, "undo", "()Z"⟩
abbrev cX12_sumOf : ByteArray := prog_14_method_69_code
def yX12_sumOf : MethodName := ⟨RX12, "sumOf", "(II)I"⟩
abbrev cX12_leastOf : ByteArray := prog_14_method_70_code
def yX12_leastOf : MethodName := ⟨RX12, "leastOf", "(II)I"⟩
abbrev cX12_mostOf : ByteArray := prog_14_method_71_code
def yX12_mostOf : MethodName := ⟨RX12, "mostOf", "(II)I"⟩
abbrev cX12_window : ByteArray := prog_14_method_72_code
def yX12_window : MethodName := ⟨RX12, "window", "(III)I"⟩
abbrev cX12_level : ByteArray := prog_14_method_73_code
def yX12_level : MethodName := ⟨RX12, "level", "(III)I"⟩
abbrev cX12_flat : ByteArray := prog_14_method_74_code
def yX12_flat : MethodName := ⟨RX12, "flat", "(I)I"⟩
abbrev cX12_whole : ByteArray := prog_14_method_75_code
def yX12_whole : MethodName := ⟨RX12, "whole", "(I)I"⟩
abbrev cX12_distance : ByteArray := prog_14_method_76_code
def yX12_distance : MethodName := ⟨RX12, "distance", "(II)I"⟩
abbrev cX12_bound : ByteArray := prog_14_method_77_code
def yX12_bound : MethodName := ⟨RX12, "bound", "(III)I"⟩
abbrev cX12_look : ByteArray := prog_14_method_78_code
def yX12_look : MethodName := ⟨RX12, "look", "(IIII)I"⟩
abbrev cX12_alike : ByteArray := prog_14_method_79_code
def yX12_alike : MethodName := ⟨RX12, "alike", "(II)I"⟩
abbrev cX12_fillsWay : ByteArray := prog_14_method_80_code
def yX12_fillsWay : MethodName := ⟨RX12, "fillsWay", "()V"⟩
abbrev cX12_way : ByteArray := prog_14_method_81_code
def yX12_way : MethodName := ⟨RX12, "way", "(III)I"⟩
abbrev cX12_lean : ByteArray := prog_14_method_82_code
def yX12_lean : MethodName := ⟨RX12, "lean", "(III)I"⟩
abbrev cX12_fillsFar : ByteArray := prog_14_method_83_code
def yX12_fillsFar : MethodName := ⟨RX12, "fillsFar", "(I)V"⟩
abbrev cX12_bestWindow : ByteArray := prog_14_method_84_code
def yX12_bestWindow : MethodName := ⟨RX12, "bestWindow", "()I"⟩
abbrev cX12_best : ByteArray := prog_14_method_85_code
def yX12_best : MethodName := ⟨RX12, "best", "(II)I"⟩
abbrev cX12_needs : ByteArray := prog_14_method_86_code
def yX12_needs : MethodName := ⟨RX12, "needs", "(II)I"⟩
abbrev cX12_fillsSearch : ByteArray := prog_14_method_87_code
def yX12_fillsSearch : MethodName := ⟨RX12, "fillsSearch", "(I)V"⟩
abbrev cX12_search : ByteArray := prog_14_method_88_code
def yX12_search : MethodName := ⟨RX12, "search", "(II)I"⟩
abbrev cX12_isApart : ByteArray := prog_14_method_89_code
def yX12_isApart : MethodName := ⟨RX12, "isApart", "(I)Z"⟩
abbrev cX12_fillsMatches : ByteArray := prog_14_method_90_code
def yX12_fillsMatches : MethodName := ⟨RX12, "fillsMatches", "(I)V"⟩
abbrev cX12_match : ByteArray := prog_14_method_91_code
def yX12_match : MethodName := ⟨RX12, "match", "(III)I"⟩
abbrev cX12_within : ByteArray := prog_14_method_92_code
def yX12_within : MethodName := ⟨RX12, "within", "(II)I"⟩
abbrev cX12_cover : ByteArray := prog_14_method_93_code
def yX12_cover : MethodName := ⟨RX12, "cover", "(II)I"⟩
abbrev cX12_rankOf : ByteArray := prog_14_method_94_code
def yX12_rankOf : MethodName := ⟨RX12, "rankOf", "(I)I"⟩
abbrev cX12_rank : ByteArray := prog_14_method_95_code
def yX12_rank : MethodName := ⟨RX12, "rank", "(II)I"⟩
abbrev cX12_kth : ByteArray := prog_14_method_96_code
def yX12_kth : MethodName := ⟨RX12, "kth", "(III)I"⟩
abbrev cX12_greater : ByteArray := prog_14_method_97_code
def yX12_greater : MethodName := ⟨RX12, "greater", "(II)I"⟩
abbrev cX12_slack : ByteArray := prog_14_method_98_code
def yX12_slack : MethodName := ⟨RX12, "slack", "(I)I"⟩
abbrev cX12_turns : ByteArray := prog_14_method_99_code
def yX12_turns : MethodName := ⟨RX12, "turns", "(I)I"⟩
abbrev cX12_fired : ByteArray := prog_14_method_100_code
def yX12_fired : MethodName := ⟨RX12, "fired", "(I)I"⟩
abbrev cX12_whose : ByteArray := prog_14_method_101_code
def yX12_whose : MethodName := ⟨RX12, "whose", "(II)I"⟩
abbrev cX12_nearOf : ByteArray := prog_14_method_102_code
def yX12_nearOf : MethodName := ⟨RX12, "nearOf", "(II)I"⟩
abbrev cX12_near : ByteArray := prog_14_method_103_code
def yX12_near : MethodName := ⟨RX12, "near", "(III)I"⟩
abbrev cX12_pair : ByteArray := prog_14_method_104_code
def yX12_pair : MethodName := ⟨RX12, "pair", "(II)I"⟩
abbrev cX12_odd : ByteArray := prog_14_method_105_code
def yX12_odd : MethodName := ⟨RX12, "odd", "(II)I"⟩
abbrev cX12_hold : ByteArray := prog_14_method_106_code
def yX12_hold : MethodName := ⟨RX12, "hold", "(I)Z"⟩
abbrev cX12_restore : ByteArray := prog_14_method_107_code
def yX12_restore : MethodName := ⟨RX12, "restore", "(I)Z"⟩
abbrev cX12_gaps : ByteArray := prog_14_method_108_code
def yX12_gaps : MethodName := ⟨RX12, "gaps", "()I"⟩
abbrev cX12_count : ByteArray := prog_14_method_109_code
def yX12_count : MethodName := ⟨RX12, "count", "(I)I"⟩
def RJx8e188 : String := "java/lang/Cloneable"
def TJx8e188 : u_T := fun k => match k with
  | _ => ("", "", "", false)
def tyJx8e188 : Nat → FieldType := fun k => match k with
  | _ => .int
abbrev wsJx8e1880 : List Cond := u_ws RJx8e188 TJx8e188 0
theorem nmJx8e188 : ∀ a, a < 0 → ∀ b, b < 0 → a ≠ b → (TJx8e188 a).2.1 ≠ (TJx8e188 b).2.1 := by decide +kernel
theorem tyJx8e188_ok : ∀ k, k < 0 → parseFieldDescriptor (TJx8e188 k).2.2.1 = some (tyJx8e188 k) := by decide +kernel
def RJ9 : String := "java/lang/Math"
def TJ9 : u_T := fun k => match k with
  | _ => ("", "", "", false)
def tyJ9 : Nat → FieldType := fun k => match k with
  | _ => .int
abbrev wsJ90 : List Cond := u_ws RJ9 TJ9 0
theorem nmJ9 : ∀ a, a < 0 → ∀ b, b < 0 → a ≠ b → (TJ9 a).2.1 ≠ (TJ9 b).2.1 := by decide +kernel
theorem tyJ9_ok : ∀ k, k < 0 → parseFieldDescriptor (TJ9 k).2.2.1 = some (tyJ9 k) := by decide +kernel
abbrev cJ9_floorDiv_7cf53 : ByteArray := prog_16_method_47_code
def yJ9_floorDiv_7cf53 : MethodName := ⟨RJ9, "floorDiv", "(II)I"⟩
abbrev cJ9_abs_0f7a4 : ByteArray := prog_16_method_59_code
def yJ9_abs_0f7a4 : MethodName := ⟨RJ9, "abs", "(I)I"⟩
abbrev cJ9_max_7cf53 : ByteArray := prog_16_method_65_code
def yJ9_max_7cf53 : MethodName := ⟨RJ9, "max", "(II)I"⟩
abbrev cJ9_min_7cf53 : ByteArray := prog_16_method_69_code
def yJ9_min_7cf53 : MethodName := ⟨RJ9, "min", "(II)I"⟩
def RJ0 : String := "java/lang/String"
def TJ0 : u_T := fun k => match k with
  | _ => ("", "", "", false)
def tyJ0 : Nat → FieldType := fun k => match k with
  | _ => .int
abbrev wsJ00 : List Cond := u_ws RJ0 TJ0 0
theorem nmJ0 : ∀ a, a < 0 → ∀ b, b < 0 → a ≠ b → (TJ0 a).2.1 ≠ (TJ0 b).2.1 := by decide +kernel
theorem tyJ0_ok : ∀ k, k < 0 → parseFieldDescriptor (TJ0 k).2.2.1 = some (tyJ0 k) := by decide +kernel
abbrev cJ0_length_8abf5 : ByteArray := prog_17_method_54_code
def yJ0_length_8abf5 : MethodName := ⟨RJ0, "length", "()I"⟩
abbrev cJ0_charAt_5068e : ByteArray := prog_17_method_56_code
def yJ0_charAt_5068e : MethodName := ⟨RJ0, "charAt", "(I)C"⟩
abbrev cJ0_coder_7d493 : ByteArray := prog_17_method_152_code
def yJ0_coder_7d493 : MethodName := ⟨RJ0, "coder", "()B"⟩
abbrev cJ0_isLatin1_aae02 : ByteArray := prog_17_method_154_code
def yJ0_isLatin1_aae02 : MethodName := ⟨RJ0, "isLatin1", "()Z"⟩
abbrev cJ0_checkIndex_df160 : ByteArray := prog_17_method_155_code
def yJ0_checkIndex_df160 : MethodName := ⟨RJ0, "checkIndex", "(II)V"⟩
def RJ1 : String := "java/lang/StringLatin1"
def TJ1 : u_T := fun k => match k with
  | _ => ("", "", "", false)
def tyJ1 : Nat → FieldType := fun k => match k with
  | _ => .int
abbrev wsJ10 : List Cond := u_ws RJ1 TJ1 0
theorem nmJ1 : ∀ a, a < 0 → ∀ b, b < 0 → a ≠ b → (TJ1 a).2.1 ≠ (TJ1 b).2.1 := by decide +kernel
theorem tyJ1_ok : ∀ k, k < 0 → parseFieldDescriptor (TJ1 k).2.2.1 = some (tyJ1 k) := by decide +kernel
abbrev cJ1_charAt_3b067 : ByteArray := prog_18_method_2_code
def yJ1_charAt_3b067 : MethodName := ⟨RJ1, "charAt", "([BI)C"⟩
def RJ2 : String := "java/lang/StringUTF16"
def TJ2 : u_T := fun k => match k with
  | _ => ("", "", "", false)
def tyJ2 : Nat → FieldType := fun k => match k with
  | _ => .int
abbrev wsJ20 : List Cond := u_ws RJ2 TJ2 0
theorem nmJ2 : ∀ a, a < 0 → ∀ b, b < 0 → a ≠ b → (TJ2 a).2.1 ≠ (TJ2 b).2.1 := by decide +kernel
theorem tyJ2_ok : ∀ k, k < 0 → parseFieldDescriptor (TJ2 k).2.2.1 = some (tyJ2 k) := by decide +kernel
abbrev cJ2_getChar_3b067 : ByteArray := prog_19_method_5_code
def yJ2_getChar_3b067 : MethodName := ⟨RJ2, "getChar", "([BI)C"⟩
abbrev cJ2_length_9d52b : ByteArray := prog_19_method_6_code
def yJ2_length_9d52b : MethodName := ⟨RJ2, "length", "([B)I"⟩
abbrev cJ2_charAt_3b067 : ByteArray := prog_19_method_83_code
def yJ2_charAt_3b067 : MethodName := ⟨RJ2, "charAt", "([BI)C"⟩
abbrev cJ2_checkIndex_2214a : ByteArray := prog_19_method_91_code
def yJ2_checkIndex_2214a : MethodName := ⟨RJ2, "checkIndex", "(I[B)V"⟩
def RJ3 : String := "jdk/internal/util/Preconditions"
def TJ3 : u_T := fun k => match k with
  | _ => ("", "", "", false)
def tyJ3 : Nat → FieldType := fun k => match k with
  | _ => .int
abbrev wsJ30 : List Cond := u_ws RJ3 TJ3 0
theorem nmJ3 : ∀ a, a < 0 → ∀ b, b < 0 → a ≠ b → (TJ3 a).2.1 ≠ (TJ3 b).2.1 := by decide +kernel
theorem tyJ3_ok : ∀ k, k < 0 → parseFieldDescriptor (TJ3 k).2.2.1 = some (tyJ3 k) := by decide +kernel
abbrev cJ3_checkIndex_8e157 : ByteArray := prog_20_method_11_code
def yJ3_checkIndex_8e157 : MethodName := ⟨RJ3, "checkIndex", "(IILjava/util/function/BiFunction;)I"⟩
def RL : String := "WarpDeskLaw"
abbrev cL_law : ByteArray := code
def yL_law : MethodName := ⟨RL, "law", "([I)Z"⟩
abbrev vwCl : List vw_C := [(RX0, TX0, 5), (RX1, TX1, 11), (RX2, TX2, 10), (RX3, TX3, 5), (RX4, TX4, 3), (RX5, TX5, 13), (RX6, TX6, 3), (RX7, TX7, 1), (RX8, TX8, 4), (RX9, TX9, 11), (RX10, TX10, 7), (RX11, TX11, 10), (RX12, TX12, 55)]
end
section
/-! THE G LAYER: a method's walk over a pure state (world, pc, locals, stack); the machine's context is one variable κ -/
abbrev Cx : Type := Program × Launch × Env × Room × State × MethodId × Array Value × List Frame × Method × Code × va_G × (Nat → Prop) × (State → Prop)
abbrev Tys : Type := List (ClassId × FieldType)
/-- the statics: three tables of Settings -/
def zLow : Nat → Value := fun k => match k with | 0 => .int 0 | 1 => .int 0 | 2 => .int 0 | _ => .int 1
def zHigh : Nat → Value := fun k => match k with | 0 => .int 15 | 1 => .int 3 | 2 => .int 1 | _ => .int 99
def zUn : Nat → Value := fun k => match k with | 0 => .int 2 | 1 => .int 0 | 2 => .int 0 | _ => .int 8
def ZS (t0 t1 t2 : Nat) (A : Nat → Prop) (U : State) (H : Heap) : Prop :=
  (va_Z "WarpDesk$Settings" "LOWEST" "[I" (.ref t0) A U H ∧ va_T .int t0 4 zLow A U H) ∧ (va_Z "WarpDesk$Settings" "HIGHEST" "[I" (.ref t1) A U H ∧ va_T .int t1 4 zHigh A U H) ∧ (va_Z "WarpDesk$Settings" "UNTOLD" "[I" (.ref t2) A U H ∧ va_T .int t2 4 zUn A U H)
theorem ZS.go {t0 t1 t2 : Nat} {A B : Nat → Prop} {u U : State} {H H1 : Heap} (h : ZS t0 t1 t2 A u H) (hvm : u.vm.Alike U.vm) (hq : ∀ a : Nat, a < H.size → ¬ A a → H1[a]? = H[a]?) (hAB : ∀ q, B q → A q) : ZS t0 t1 t2 B U H1 :=
  ⟨⟨((h.1.1.kept hq).narrow hAB).moved hvm, ((h.1.2.kept hq).narrow hAB).moved hvm⟩, ⟨((h.2.1.1.kept hq).narrow hAB).moved hvm, ((h.2.1.2.kept hq).narrow hAB).moved hvm⟩, ⟨((h.2.2.1.kept hq).narrow hAB).moved hvm, ((h.2.2.2.kept hq).narrow hAB).moved hvm⟩⟩
def GW (κ : Cx) (nL n1 n2 : Nat) (ws : va_W) (pc : Nat) (lv : List (Nat × Value)) (st : List Value) : Prop :=
  match κ with
  | (p, l, e, R, s, m, args, below, meth, c, D, A, Q) => ∀ (H : Heap) (locs : List Loc) (ls : Array Slot), va_P D vwCl ws H → va_D A ws → va_S A s.heap H locs → lv_has ls nL lv → W p l e R s m args below meth c H locs n1 n2 Q (F0 m pc ls st)
def GC (κ : Cx) (l0 : Launch) (D0 : va_G) (zt : Nat × Nat × Nat) (cc : ByteArray) (nL : Nat) (own : String) (Ts : List Cond) (tys : Tys) (rm : Room) : Prop :=
  match κ with
  | (p, l, e, R, s, m, args, below, meth, c, D, A, Q) => p.tables.exec = Jvm.exec ∧ c.code = cc ∧ c.maxLocals = nL ∧ s.vm.findClass own = some m.cls ∧ (∀ w ∈ Ts, w.before args s = true) ∧ va_K D vwCl tys s ∧ (∀ q, s.heap.size ≤ q → A q) ∧ R = rm ∧ ZS zt.1 zt.2.1 zt.2.2 A s s.heap ∧ l = l0 ∧ D = D0
/-- a method's contract over its whole world -/
def GQ (D : va_G) (P : Option Value → Tys → va_W → Prop) (w : va_W) (sz : Nat) : Array Value → State → Outcome → State → Prop := fun _ st oc t => (∃ (v : Option Value) (tys' : Tys) (w' : va_W), oc = .returned v ∧ P v tys' w' ∧ va_P D vwCl w' t.heap ∧ va_K D vwCl tys' t ∧ va_D (va_A w sz) w') ∧ va_F (va_A w sz) st t
def GP (D : va_G) (zt : Nat × Nat × Nat) (tys : Tys) (av : List Value) (w : va_W) (sz : Nat) : Array Value → State → Prop := va_Pc av (fun U => U.heap.size = sz ∧ va_P D vwCl w U.heap ∧ va_K D vwCl tys U ∧ va_D (fun _ => True) w ∧ ZS zt.1 zt.2.1 zt.2.2 (va_A w sz) U U.heap)
def GM (l : Launch) (D : va_G) (zt : Nat × Nat × Nat) (tys : Tys) (y : MethodName) (wsy : List Cond) (rm : Room) (av : List Value) (w : va_W) (P : Option Value → Tys → va_W → Prop) (mc ms : Nat) : Prop :=
  ∀ sz : Nat, Met l y wsy rm (GP D zt tys av w sz) (GQ D P w sz) mc ms (va_A w sz)
def GR (κ : Cx) (ret : Option FieldType) (P : Option Value → Tys → va_W → Prop) (mc ms : Nat) (w : va_W) (sz : Nat) : Prop :=
  match κ with
  | (p, l, e, R, s, m, args, below, meth, c, D, A, Q) => Q = MQ below (GQ D P w sz) args s mc ms (va_A w sz) ∧ A = va_A w sz ∧ meth.sig.returnType = ret ∧ meth.locks = false
def GN (κ : Cx) : Prop := match κ with | (p, l, e, R, s, m, args, below, meth, c, D, A, Q) => meth.name = "<init>"
def GO (κ : Cx) (C : String) : Prop := match κ with | (p, l, e, R, s, m, args, below, meth, c, D, A, Q) => va_AO C s
def GNw (κ : Cx) (w : Cond) : Prop := match κ with | (p, l, e, R, s, m, args, below, meth, c, D, A, Q) => va_Nw w s
theorem GP.blind {D : va_G} {zt : Nat × Nat × Nat} {tys : Tys} {av : List Value} {w : va_W} {sz : Nat} : FrameBlind (GP D zt tys av w sz) := by
  intro a U g mk q
  obtain ⟨q0, q1, qP, qK, qD, qZ⟩ := q
  exact ⟨q0, q1, qP, va_K.moved (u := U) (U := U.calling g mk a) (Vm.Alike.refl U.vm) qK, qD, ZS.go (u := U) (U := U.calling g mk a) qZ (Vm.Alike.refl U.vm) (fun _ _ _ => rfl) (fun _ h => h)⟩
theorem GM.of {l : Launch} {D : va_G} {zt : Nat × Nat × Nat} {tys : Tys} {y : MethodName} {wsy wsy' : List Cond} {rm : Room} {av : List Value} {w : va_W} {P : Option Value → Tys → va_W → Prop} {mc ms : Nat} {cc : ByteArray} {maxL : Nat} {ret : Option FieldType} {own : String} {lv : List (Nat × Value)}
    (hy : plainName y.cls = true) (hw : wsy = Cond.code y cc maxL ret :: wsy') (ho : y.cls = own) (hav : (lg_sl av).length ≤ maxL) (hlv : lv_args 0 av = lv)
    (body : ∀ (κ : Cx) (sz : Nat), GC κ l D zt cc maxL own wsy tys rm → GR κ ret P mc ms w sz → (y.name = "<init>" → GN κ) → GW κ maxL 0 0 w 0 lv []) : GM l D zt tys y wsy rm av w P mc ms := by
  intro sz
  refine Met.ofW (cc := cc) (maxL := maxL) (ret := ret) hy hw ?_
  intro p e s m args below meth c s₁ B hml hv
  obtain ⟨rfl, hsz, hP, hK, hD0, hZ⟩ := hv
  have hts := atoms_spec (ws := wsy) B.pre
  have hown : s.vm.findClass own = some m.cls := by rw [← ho]; exact findClass_of_methodNamed B.named
  subst hsz
  have hD := hD0.self (sz := s.heap.size)
  have hl := lv_entry av (n := maxL) hav
  rw [hlv] at hl
  rw [lg_entry_eq]
  exact body (p, l, e, (headSpec wsy rm).room, s, m, _, below, meth, c, D, va_A w s.heap.size, MQ below (GQ D P w s.heap.size) _ s mc ms (va_A w s.heap.size)) s.heap.size
    ⟨B.exec, B.bytes, hml, hown, hts, hK, fun q h => Or.inr h, rfl, hZ, rfl, rfl⟩ ⟨rfl, rfl, B.returns, B.notSynchronized⟩ (fun h => (name_of_methodNamed B.named B.method).1.trans h) s.heap [] _ hP hD va_S.rf hl
section GI
variable {κ : Cx} {l0 : Launch} {D0 : va_G} {zt : Nat × Nat × Nat} {cc : ByteArray} {nL : Nat} {own : String} {Ts : List Cond} {tys : Tys} {rm : Room} {n1 n2 : Nat} {ws : va_W} {pc : Nat} {lv lv' : List (Nat × Value)} {st : List Value}
def lvg : List (Nat × Value) → Nat → Option Value
  | [], _ => none
  | q :: l, i => if q.1 = i then some q.2 else lvg l i
theorem lvg_has {ls : Array Slot} {i : Nat} {v : Value} : ∀ {lv : List (Nat × Value)}, lv_has ls nL lv → lvg lv i = some v → ls[i]? = some (.val v)
  | [], _, h => by cases h
  | q :: l, hl, h => by
    unfold lvg at h
    by_cases e : q.1 = i
    · rw [if_pos e] at h
      cases h
      rw [← e]
      exact hl.2.2 q List.mem_cons_self
    · rw [if_neg e] at h
      exact lvg_has (lv := l) ⟨hl.1, hl.2.1, fun x hx => hl.2.2 x (List.mem_cons_of_mem _ hx)⟩ h
theorem g_iconst (hk : GC κ l0 D0 zt cc nL own Ts tys rm) {n : Int} {v : Int32} (hd : decode cc pc = .ok (.iconst n, 1)) (hv : Int32.ofInt n = v) (k : GW κ nL n1 n2 ws (pc + 1) lv (.int v :: st)) : GW κ nL n1 n2 ws pc lv st := by
  obtain ⟨p, l, e, R, s, m, args, below, meth, c, D, A, Q⟩ := κ
  exact fun H locs ls hP hD hS hl => lv_iconst hk.1 hk.2.1 hd hv (k H locs ls hP hD hS hl)
theorem g_bipush (hk : GC κ l0 D0 zt cc nL own Ts tys rm) {n : Int} {v : Int32} (hd : decode cc pc = .ok (.bipush n, 2)) (hv : (Int8.ofInt n).toInt32 = v) (k : GW κ nL n1 n2 ws (pc + 2) lv (.int v :: st)) : GW κ nL n1 n2 ws pc lv st := by
  obtain ⟨p, l, e, R, s, m, args, below, meth, c, D, A, Q⟩ := κ
  exact fun H locs ls hP hD hS hl => lv_bipush hk.1 hk.2.1 hd hv (k H locs ls hP hD hS hl)
theorem g_sipush (hk : GC κ l0 D0 zt cc nL own Ts tys rm) {n : Int} {v : Int32} (hd : decode cc pc = .ok (.sipush n, 3)) (hv : (Int16.ofInt n).toInt32 = v) (k : GW κ nL n1 n2 ws (pc + 3) lv (.int v :: st)) : GW κ nL n1 n2 ws pc lv st := by
  obtain ⟨p, l, e, R, s, m, args, below, meth, c, D, A, Q⟩ := κ
  exact fun H locs ls hP hD hS hl => lv_sipush hk.1 hk.2.1 hd hv (k H locs ls hP hD hS hl)
theorem g_lconst (hk : GC κ l0 D0 zt cc nL own Ts tys rm) {n : Fin 2} {v : Int64} (hd : decode cc pc = .ok (.lconst n, 1)) (hv : Int64.ofNat (n : Nat) = v) (k : GW κ nL n1 n2 ws (pc + 1) lv (.long v :: st)) : GW κ nL n1 n2 ws pc lv st := by
  obtain ⟨p, l, e, R, s, m, args, below, meth, c, D, A, Q⟩ := κ
  exact fun H locs ls hP hD hS hl => lv_lconst hk.1 hk.2.1 hd hv (k H locs ls hP hD hS hl)
theorem g_ldc (hk : GC κ l0 D0 zt cc nL own Ts tys rm) {index : Nat} {v : Int32} (hw : Cond.constant own index v ∈ Ts) (hd : decode cc pc = .ok (.ldc index, 2)) (k : GW κ nL n1 n2 ws (pc + 2) lv (.int v :: st)) : GW κ nL n1 n2 ws pc lv st := by
  obtain ⟨p, l, e, R, s, m, args, below, meth, c, D, A, Q⟩ := κ
  exact fun H locs ls hP hD hS hl => lv_ldc hk.1 hk.2.1 hk.2.2.2.1 (hk.2.2.2.2.1 _ hw) hd (k H locs ls hP hD hS hl)
theorem g_ldcw (hk : GC κ l0 D0 zt cc nL own Ts tys rm) {index : Nat} {v : Int32} (hw : Cond.constant own index v ∈ Ts) (hd : decode cc pc = .ok (.ldc_w index, 3)) (k : GW κ nL n1 n2 ws (pc + 3) lv (.int v :: st)) : GW κ nL n1 n2 ws pc lv st := by
  obtain ⟨p, l, e, R, s, m, args, below, meth, c, D, A, Q⟩ := κ
  exact fun H locs ls hP hD hS hl => lv_ldcw hk.1 hk.2.1 hk.2.2.2.1 (hk.2.2.2.2.1 _ hw) hd (k H locs ls hP hD hS hl)
theorem g_ldc2 (hk : GC κ l0 D0 zt cc nL own Ts tys rm) {index : Nat} {v : Int64} (hw : Cond.constantLong own index v ∈ Ts) (hd : decode cc pc = .ok (.ldc2_w index, 3)) (k : GW κ nL n1 n2 ws (pc + 3) lv (.long v :: st)) : GW κ nL n1 n2 ws pc lv st := by
  obtain ⟨p, l, e, R, s, m, args, below, meth, c, D, A, Q⟩ := κ
  exact fun H locs ls hP hD hS hl => lv_ldc2 hk.1 hk.2.1 hk.2.2.2.1 (hk.2.2.2.2.1 _ hw) hd (k H locs ls hP hD hS hl)
theorem g_iload_n (hk : GC κ l0 D0 zt cc nL own Ts tys rm) {i : Fin 4} {x : Int32} (hd : decode cc pc = .ok (.iload_n i, 1)) (hg : lvg lv (i : Nat) = some (.int x)) (k : GW κ nL n1 n2 ws (pc + 1) lv (.int x :: st)) : GW κ nL n1 n2 ws pc lv st := by
  obtain ⟨p, l, e, R, s, m, args, below, meth, c, D, A, Q⟩ := κ
  exact fun H locs ls hP hD hS hl => lv_iload_n hk.1 hk.2.1 hd rfl (lvg_has hl hg) (k H locs ls hP hD hS hl)
theorem g_iload (hk : GC κ l0 D0 zt cc nL own Ts tys rm) {i : Nat} {x : Int32} (hd : decode cc pc = .ok (.iload i, 2)) (hg : lvg lv i = some (.int x)) (k : GW κ nL n1 n2 ws (pc + 2) lv (.int x :: st)) : GW κ nL n1 n2 ws pc lv st := by
  obtain ⟨p, l, e, R, s, m, args, below, meth, c, D, A, Q⟩ := κ
  exact fun H locs ls hP hD hS hl => lv_iload hk.1 hk.2.1 hd (lvg_has hl hg) (k H locs ls hP hD hS hl)
theorem g_lload_n (hk : GC κ l0 D0 zt cc nL own Ts tys rm) {i : Fin 4} {x : Int64} (hd : decode cc pc = .ok (.lload_n i, 1)) (hg : lvg lv (i : Nat) = some (.long x)) (k : GW κ nL n1 n2 ws (pc + 1) lv (.long x :: st)) : GW κ nL n1 n2 ws pc lv st := by
  obtain ⟨p, l, e, R, s, m, args, below, meth, c, D, A, Q⟩ := κ
  exact fun H locs ls hP hD hS hl => lv_lload_n hk.1 hk.2.1 hd rfl (lvg_has hl hg) (k H locs ls hP hD hS hl)
theorem g_lload (hk : GC κ l0 D0 zt cc nL own Ts tys rm) {i : Nat} {x : Int64} (hd : decode cc pc = .ok (.lload i, 2)) (hg : lvg lv i = some (.long x)) (k : GW κ nL n1 n2 ws (pc + 2) lv (.long x :: st)) : GW κ nL n1 n2 ws pc lv st := by
  obtain ⟨p, l, e, R, s, m, args, below, meth, c, D, A, Q⟩ := κ
  exact fun H locs ls hP hD hS hl => lv_lload hk.1 hk.2.1 hd (lvg_has hl hg) (k H locs ls hP hD hS hl)
theorem g_aload_n (hk : GC κ l0 D0 zt cc nL own Ts tys rm) {i : Fin 4} {x : Nat} (hd : decode cc pc = .ok (.aload_n i, 1)) (hg : lvg lv (i : Nat) = some (.ref x)) (k : GW κ nL n1 n2 ws (pc + 1) lv (.ref x :: st)) : GW κ nL n1 n2 ws pc lv st := by
  obtain ⟨p, l, e, R, s, m, args, below, meth, c, D, A, Q⟩ := κ
  exact fun H locs ls hP hD hS hl => lv_aload_n hk.1 hk.2.1 hd rfl (lvg_has hl hg) (k H locs ls hP hD hS hl)
theorem g_aload (hk : GC κ l0 D0 zt cc nL own Ts tys rm) {i : Nat} {x : Nat} (hd : decode cc pc = .ok (.aload i, 2)) (hg : lvg lv i = some (.ref x)) (k : GW κ nL n1 n2 ws (pc + 2) lv (.ref x :: st)) : GW κ nL n1 n2 ws pc lv st := by
  obtain ⟨p, l, e, R, s, m, args, below, meth, c, D, A, Q⟩ := κ
  exact fun H locs ls hP hD hS hl => lv_aload hk.1 hk.2.1 hd (lvg_has hl hg) (k H locs ls hP hD hS hl)
def lvs (lv : List (Nat × Value)) (i : Nat) (v : Value) : List (Nat × Value) := (i, v) :: lv.filter (fun q => !(q.1 == i) && !(q.1 + 1 == i && q.2.category == 2))
def lvs2 (lv : List (Nat × Value)) (i : Nat) (v : Value) : List (Nat × Value) := (i, v) :: lv.filter (fun q => !(q.1 == i) && (!(q.1 == i + 1) && !(q.1 + 1 == i && q.2.category == 2)))
theorem g_istore_n (hk : GC κ l0 D0 zt cc nL own Ts tys rm) {i : Fin 4} {x : Int32} (hd : decode cc pc = .ok (.istore_n i, 1)) (hn : (i : Nat) < nL) (hl' : lvs lv i (.int x) = lv') (k : GW κ nL n1 n2 ws (pc + 1) lv' st) : GW κ nL n1 n2 ws pc lv (.int x :: st) := by
  obtain ⟨p, l, e, R, s, m, args, below, meth, c, D, A, Q⟩ := κ
  exact fun H locs ls hP hD hS hl => lv_istore_n hk.1 hk.2.1 hd rfl hl hn hl' (fun ls' h' => k H locs ls' hP hD hS h')
theorem g_istore (hk : GC κ l0 D0 zt cc nL own Ts tys rm) {i : Nat} {x : Int32} (hd : decode cc pc = .ok (.istore i, 2)) (hn : i < nL) (hl' : lvs lv i (.int x) = lv') (k : GW κ nL n1 n2 ws (pc + 2) lv' st) : GW κ nL n1 n2 ws pc lv (.int x :: st) := by
  obtain ⟨p, l, e, R, s, m, args, below, meth, c, D, A, Q⟩ := κ
  exact fun H locs ls hP hD hS hl => lv_istore hk.1 hk.2.1 hd hl hn hl' (fun ls' h' => k H locs ls' hP hD hS h')
theorem g_astore_n (hk : GC κ l0 D0 zt cc nL own Ts tys rm) {i : Fin 4} {x : Nat} (hd : decode cc pc = .ok (.astore_n i, 1)) (hn : (i : Nat) < nL) (hl' : lvs lv i (.ref x) = lv') (k : GW κ nL n1 n2 ws (pc + 1) lv' st) : GW κ nL n1 n2 ws pc lv (.ref x :: st) := by
  obtain ⟨p, l, e, R, s, m, args, below, meth, c, D, A, Q⟩ := κ
  exact fun H locs ls hP hD hS hl => lv_astore_n hk.1 hk.2.1 hd rfl hl hn hl' (fun ls' h' => k H locs ls' hP hD hS h')
theorem g_astore (hk : GC κ l0 D0 zt cc nL own Ts tys rm) {i : Nat} {x : Nat} (hd : decode cc pc = .ok (.astore i, 2)) (hn : i < nL) (hl' : lvs lv i (.ref x) = lv') (k : GW κ nL n1 n2 ws (pc + 2) lv' st) : GW κ nL n1 n2 ws pc lv (.ref x :: st) := by
  obtain ⟨p, l, e, R, s, m, args, below, meth, c, D, A, Q⟩ := κ
  exact fun H locs ls hP hD hS hl => lv_astore hk.1 hk.2.1 hd hl hn hl' (fun ls' h' => k H locs ls' hP hD hS h')
theorem g_lstore_n (hk : GC κ l0 D0 zt cc nL own Ts tys rm) {i : Fin 4} {x : Int64} (hd : decode cc pc = .ok (.lstore_n i, 1)) (hn : (i : Nat) + 1 < nL) (hl' : lvs2 lv i (.long x) = lv') (k : GW κ nL n1 n2 ws (pc + 1) lv' st) : GW κ nL n1 n2 ws pc lv (.long x :: st) := by
  obtain ⟨p, l, e, R, s, m, args, below, meth, c, D, A, Q⟩ := κ
  exact fun H locs ls hP hD hS hl => lv_lstore_n hk.1 hk.2.1 hd rfl hl hn hl' (fun ls' h' => k H locs ls' hP hD hS h')
theorem g_lstore (hk : GC κ l0 D0 zt cc nL own Ts tys rm) {i : Nat} {x : Int64} (hd : decode cc pc = .ok (.lstore i, 2)) (hn : i + 1 < nL) (hl' : lvs2 lv i (.long x) = lv') (k : GW κ nL n1 n2 ws (pc + 2) lv' st) : GW κ nL n1 n2 ws pc lv (.long x :: st) := by
  obtain ⟨p, l, e, R, s, m, args, below, meth, c, D, A, Q⟩ := κ
  exact fun H locs ls hP hD hS hl => lv_lstore hk.1 hk.2.1 hd hl hn hl' (fun ls' h' => k H locs ls' hP hD hS h')
/-- the locals in another order, or fewer of them -/
theorem g_lv (h : ∀ q ∈ lv', q ∈ lv) (k : GW κ nL n1 n2 ws pc lv' st) : GW κ nL n1 n2 ws pc lv st := by
  obtain ⟨p, l, e, R, s, m, args, below, meth, c, D, A, Q⟩ := κ
  exact fun H locs ls hP hD hS hl => k H locs ls hP hD hS ⟨hl.1, hl.2.1, fun q hq => hl.2.2 q (h q hq)⟩
theorem g_iinc (hk : GC κ l0 D0 zt cc nL own Ts tys rm) {i : Nat} {n : Int} {x v : Int32} (j : Nat) (hd : decode cc pc = .ok (.iinc i n, 3)) (hj : lv[j]? = some (i, .int x)) (hv : x + Int32.ofInt n = v) (hn : i < nL) (hl' : lvs lv i (.int v) = lv') (k : GW κ nL n1 n2 ws (pc + 3) lv' st) : GW κ nL n1 n2 ws pc lv st := by
  obtain ⟨p, l, e, R, s, m, args, below, meth, c, D, A, Q⟩ := κ
  exact fun H locs ls hP hD hS hl => lv_iinc hk.1 hk.2.1 hd hl hj hv hn hl' (fun ls' h' => k H locs ls' hP hD hS h')
theorem g_iadd (hk : GC κ l0 D0 zt cc nL own Ts tys rm) {x y : Int32} (hd : decode cc pc = .ok (.iadd, 1)) (k : GW κ nL n1 n2 ws (pc + 1) lv (.int (x + y) :: st)) : GW κ nL n1 n2 ws pc lv (.int y :: .int x :: st) := by
  obtain ⟨p, l, e, R, s, m, args, below, meth, c, D, A, Q⟩ := κ
  exact fun H locs ls hP hD hS hl => lv_iadd hk.1 hk.2.1 hd (k H locs ls hP hD hS hl)
theorem g_isub (hk : GC κ l0 D0 zt cc nL own Ts tys rm) {x y : Int32} (hd : decode cc pc = .ok (.isub, 1)) (k : GW κ nL n1 n2 ws (pc + 1) lv (.int (x - y) :: st)) : GW κ nL n1 n2 ws pc lv (.int y :: .int x :: st) := by
  obtain ⟨p, l, e, R, s, m, args, below, meth, c, D, A, Q⟩ := κ
  exact fun H locs ls hP hD hS hl => lv_isub hk.1 hk.2.1 hd (k H locs ls hP hD hS hl)
theorem g_imul (hk : GC κ l0 D0 zt cc nL own Ts tys rm) {x y : Int32} (hd : decode cc pc = .ok (.imul, 1)) (k : GW κ nL n1 n2 ws (pc + 1) lv (.int (x * y) :: st)) : GW κ nL n1 n2 ws pc lv (.int y :: .int x :: st) := by
  obtain ⟨p, l, e, R, s, m, args, below, meth, c, D, A, Q⟩ := κ
  exact fun H locs ls hP hD hS hl => lv_imul hk.1 hk.2.1 hd (k H locs ls hP hD hS hl)
theorem g_iand (hk : GC κ l0 D0 zt cc nL own Ts tys rm) {x y : Int32} (hd : decode cc pc = .ok (.iand, 1)) (k : GW κ nL n1 n2 ws (pc + 1) lv (.int (x &&& y) :: st)) : GW κ nL n1 n2 ws pc lv (.int y :: .int x :: st) := by
  obtain ⟨p, l, e, R, s, m, args, below, meth, c, D, A, Q⟩ := κ
  exact fun H locs ls hP hD hS hl => lv_iand hk.1 hk.2.1 hd (k H locs ls hP hD hS hl)
theorem g_ior (hk : GC κ l0 D0 zt cc nL own Ts tys rm) {x y : Int32} (hd : decode cc pc = .ok (.ior, 1)) (k : GW κ nL n1 n2 ws (pc + 1) lv (.int (x ||| y) :: st)) : GW κ nL n1 n2 ws pc lv (.int y :: .int x :: st) := by
  obtain ⟨p, l, e, R, s, m, args, below, meth, c, D, A, Q⟩ := κ
  exact fun H locs ls hP hD hS hl => lv_ior hk.1 hk.2.1 hd (k H locs ls hP hD hS hl)
theorem g_ishl (hk : GC κ l0 D0 zt cc nL own Ts tys rm) {x y : Int32} (hd : decode cc pc = .ok (.ishl, 1)) (k : GW κ nL n1 n2 ws (pc + 1) lv (.int (x <<< (y &&& 31)) :: st)) : GW κ nL n1 n2 ws pc lv (.int y :: .int x :: st) := by
  obtain ⟨p, l, e, R, s, m, args, below, meth, c, D, A, Q⟩ := κ
  exact fun H locs ls hP hD hS hl => lv_ishl hk.1 hk.2.1 hd (k H locs ls hP hD hS hl)
theorem g_ishr (hk : GC κ l0 D0 zt cc nL own Ts tys rm) {x y : Int32} (hd : decode cc pc = .ok (.ishr, 1)) (k : GW κ nL n1 n2 ws (pc + 1) lv (.int (x >>> (y &&& 31)) :: st)) : GW κ nL n1 n2 ws pc lv (.int y :: .int x :: st) := by
  obtain ⟨p, l, e, R, s, m, args, below, meth, c, D, A, Q⟩ := κ
  exact fun H locs ls hP hD hS hl => lv_ishr hk.1 hk.2.1 hd (k H locs ls hP hD hS hl)
theorem g_idiv (hk : GC κ l0 D0 zt cc nL own Ts tys rm) {x y : Int32} (hd : decode cc pc = .ok (.idiv, 1)) (hne : ¬ y = 0) (k : GW κ nL n1 n2 ws (pc + 1) lv (.int (x / y) :: st)) : GW κ nL n1 n2 ws pc lv (.int y :: .int x :: st) := by
  obtain ⟨p, l, e, R, s, m, args, below, meth, c, D, A, Q⟩ := κ
  exact fun H locs ls hP hD hS hl => lv_idiv hk.1 hk.2.1 hd hne (k H locs ls hP hD hS hl)
theorem g_irem (hk : GC κ l0 D0 zt cc nL own Ts tys rm) {x y : Int32} (hd : decode cc pc = .ok (.irem, 1)) (hne : ¬ y = 0) (k : GW κ nL n1 n2 ws (pc + 1) lv (.int (x - x / y * y) :: st)) : GW κ nL n1 n2 ws pc lv (.int y :: .int x :: st) := by
  obtain ⟨p, l, e, R, s, m, args, below, meth, c, D, A, Q⟩ := κ
  exact fun H locs ls hP hD hS hl => lv_irem hk.1 hk.2.1 hd hne (k H locs ls hP hD hS hl)
theorem g_ineg (hk : GC κ l0 D0 zt cc nL own Ts tys rm) {x : Int32} (hd : decode cc pc = .ok (.ineg, 1)) (k : GW κ nL n1 n2 ws (pc + 1) lv (.int (-x) :: st)) : GW κ nL n1 n2 ws pc lv (.int x :: st) := by
  obtain ⟨p, l, e, R, s, m, args, below, meth, c, D, A, Q⟩ := κ
  exact fun H locs ls hP hD hS hl => lv_ineg hk.1 hk.2.1 hd (k H locs ls hP hD hS hl)
theorem g_iushr (hk : GC κ l0 D0 zt cc nL own Ts tys rm) {x y v : Int32} (hd : decode cc pc = .ok (.iushr, 1)) (hv : (x.toUInt32 >>> (y.toUInt32 &&& Int32.toUInt32 31)).toInt32 = v) (k : GW κ nL n1 n2 ws (pc + 1) lv (.int v :: st)) : GW κ nL n1 n2 ws pc lv (.int y :: .int x :: st) := by
  obtain ⟨p, l, e, R, s, m, args, below, meth, c, D, A, Q⟩ := κ
  exact fun H locs ls hP hD hS hl => lv_iushr hk.1 hk.2.1 hd hv (k H locs ls hP hD hS hl)
theorem g_i2b (hk : GC κ l0 D0 zt cc nL own Ts tys rm) {x v : Int32} (hd : decode cc pc = .ok (.i2b, 1)) (hv : x.toInt8.toInt32 = v) (k : GW κ nL n1 n2 ws (pc + 1) lv (.int v :: st)) : GW κ nL n1 n2 ws pc lv (.int x :: st) := by
  obtain ⟨p, l, e, R, s, m, args, below, meth, c, D, A, Q⟩ := κ
  exact fun H locs ls hP hD hS hl => lv_i2b hk.1 hk.2.1 hd hv (k H locs ls hP hD hS hl)
theorem g_i2l (hk : GC κ l0 D0 zt cc nL own Ts tys rm) {x : Int32} {v : Int64} (hd : decode cc pc = .ok (.i2l, 1)) (hv : x.toInt64 = v) (k : GW κ nL n1 n2 ws (pc + 1) lv (.long v :: st)) : GW κ nL n1 n2 ws pc lv (.int x :: st) := by
  obtain ⟨p, l, e, R, s, m, args, below, meth, c, D, A, Q⟩ := κ
  exact fun H locs ls hP hD hS hl => lv_i2l hk.1 hk.2.1 hd hv (k H locs ls hP hD hS hl)
theorem g_ladd (hk : GC κ l0 D0 zt cc nL own Ts tys rm) {x y : Int64} (hd : decode cc pc = .ok (.ladd, 1)) (k : GW κ nL n1 n2 ws (pc + 1) lv (.long (x + y) :: st)) : GW κ nL n1 n2 ws pc lv (.long y :: .long x :: st) := by
  obtain ⟨p, l, e, R, s, m, args, below, meth, c, D, A, Q⟩ := κ
  exact fun H locs ls hP hD hS hl => lv_ladd hk.1 hk.2.1 hd (k H locs ls hP hD hS hl)
theorem g_lmul (hk : GC κ l0 D0 zt cc nL own Ts tys rm) {x y : Int64} (hd : decode cc pc = .ok (.lmul, 1)) (k : GW κ nL n1 n2 ws (pc + 1) lv (.long (x * y) :: st)) : GW κ nL n1 n2 ws pc lv (.long y :: .long x :: st) := by
  obtain ⟨p, l, e, R, s, m, args, below, meth, c, D, A, Q⟩ := κ
  exact fun H locs ls hP hD hS hl => lv_lmul hk.1 hk.2.1 hd (k H locs ls hP hD hS hl)
theorem g_dup (hk : GC κ l0 D0 zt cc nL own Ts tys rm) {a : Value} (hd : decode cc pc = .ok (.dup, 1)) (ha : a.category = 1) (k : GW κ nL n1 n2 ws (pc + 1) lv (a :: a :: st)) : GW κ nL n1 n2 ws pc lv (a :: st) := by
  obtain ⟨p, l, e, R, s, m, args, below, meth, c, D, A, Q⟩ := κ
  exact fun H locs ls hP hD hS hl => lv_dup hk.1 hk.2.1 hd ha (k H locs ls hP hD hS hl)
theorem g_pop (hk : GC κ l0 D0 zt cc nL own Ts tys rm) {a : Value} (hd : decode cc pc = .ok (.pop, 1)) (ha : a.category = 1) (k : GW κ nL n1 n2 ws (pc + 1) lv (st)) : GW κ nL n1 n2 ws pc lv (a :: st) := by
  obtain ⟨p, l, e, R, s, m, args, below, meth, c, D, A, Q⟩ := κ
  exact fun H locs ls hP hD hS hl => lv_pop hk.1 hk.2.1 hd ha (k H locs ls hP hD hS hl)
theorem g_dup2 (hk : GC κ l0 D0 zt cc nL own Ts tys rm) {a b : Value} (hd : decode cc pc = .ok (.dup2, 1)) (ha : a.category = 1) (hb : b.category = 1) (k : GW κ nL n1 n2 ws (pc + 1) lv (a :: b :: a :: b :: st)) : GW κ nL n1 n2 ws pc lv (a :: b :: st) := by
  obtain ⟨p, l, e, R, s, m, args, below, meth, c, D, A, Q⟩ := κ
  exact fun H locs ls hP hD hS hl => lv_dup2_11 hk.1 hk.2.1 hd ha hb (k H locs ls hP hD hS hl)
theorem g_goto (hk : GC κ l0 D0 zt cc nL own Ts tys rm) {off : Int} {tgt : Nat} (hd : decode cc pc = .ok (.goto off, 3)) (ht : (pc : Int) + off = (tgt : Int)) (k : GW κ nL n1 n2 ws tgt lv st) : GW κ nL n1 n2 ws pc lv st := by
  obtain ⟨p, l, e, R, s, m, args, below, meth, c, D, A, Q⟩ := κ
  exact fun H locs ls hP hD hS hl => lv_goto hk.1 hk.2.1 hd ht (k H locs ls hP hD hS hl)
theorem g_if_eq (hk : GC κ l0 D0 zt cc nL own Ts tys rm) {x : Int32} {a : Int} {off : Int} {tgt : Nat} (hd : decode cc pc = .ok (.ifCond .eq off, 3)) (ht : (pc : Int) + off = (tgt : Int)) (hx : x.toInt = a) (kt : a = 0 → GW κ nL n1 n2 ws tgt lv st) (kf : ¬ (a = 0) → GW κ nL n1 n2 ws (pc + 3) lv st) : GW κ nL n1 n2 ws pc lv (.int x :: st) := by
  obtain ⟨p, l, e, R, s, m, args, below, meth, c, D, A, Q⟩ := κ
  have E0 : (0 : Int32).toInt = 0 := rfl
  subst hx
  exact fun H locs ls hP hD hS hl => lv_if_eq hk.1 hk.2.1 hd ht (fun h => kt (congrArg Int32.toInt h) H locs ls hP hD hS hl) (fun h => kf (fun q => h (Int32.toInt_inj.mp q)) H locs ls hP hD hS hl)
theorem g_icmp_eq (hk : GC κ l0 D0 zt cc nL own Ts tys rm) {x y : Int32} {a b : Int} {off : Int} {tgt : Nat} (hd : decode cc pc = .ok (.if_icmp .eq off, 3)) (ht : (pc : Int) + off = (tgt : Int)) (hx : x.toInt = a) (hy : y.toInt = b) (kt : a = b → GW κ nL n1 n2 ws tgt lv st) (kf : ¬ (a = b) → GW κ nL n1 n2 ws (pc + 3) lv st) : GW κ nL n1 n2 ws pc lv (.int y :: .int x :: st) := by
  obtain ⟨p, l, e, R, s, m, args, below, meth, c, D, A, Q⟩ := κ
  have E0 : (0 : Int32).toInt = 0 := rfl
  subst hx
  subst hy
  exact fun H locs ls hP hD hS hl => lv_icmp_eq hk.1 hk.2.1 hd ht (fun h => kt (congrArg Int32.toInt h) H locs ls hP hD hS hl) (fun h => kf (fun q => h (Int32.toInt_inj.mp q)) H locs ls hP hD hS hl)
theorem g_if_ne (hk : GC κ l0 D0 zt cc nL own Ts tys rm) {x : Int32} {a : Int} {off : Int} {tgt : Nat} (hd : decode cc pc = .ok (.ifCond .ne off, 3)) (ht : (pc : Int) + off = (tgt : Int)) (hx : x.toInt = a) (kt : a ≠ 0 → GW κ nL n1 n2 ws tgt lv st) (kf : ¬ (a ≠ 0) → GW κ nL n1 n2 ws (pc + 3) lv st) : GW κ nL n1 n2 ws pc lv (.int x :: st) := by
  obtain ⟨p, l, e, R, s, m, args, below, meth, c, D, A, Q⟩ := κ
  have E0 : (0 : Int32).toInt = 0 := rfl
  subst hx
  exact fun H locs ls hP hD hS hl => lv_if_ne hk.1 hk.2.1 hd ht (fun h => kt (fun q => h (Int32.toInt_inj.mp q)) H locs ls hP hD hS hl) (fun h => kf (fun q => q (congrArg Int32.toInt h)) H locs ls hP hD hS hl)
theorem g_icmp_ne (hk : GC κ l0 D0 zt cc nL own Ts tys rm) {x y : Int32} {a b : Int} {off : Int} {tgt : Nat} (hd : decode cc pc = .ok (.if_icmp .ne off, 3)) (ht : (pc : Int) + off = (tgt : Int)) (hx : x.toInt = a) (hy : y.toInt = b) (kt : a ≠ b → GW κ nL n1 n2 ws tgt lv st) (kf : ¬ (a ≠ b) → GW κ nL n1 n2 ws (pc + 3) lv st) : GW κ nL n1 n2 ws pc lv (.int y :: .int x :: st) := by
  obtain ⟨p, l, e, R, s, m, args, below, meth, c, D, A, Q⟩ := κ
  have E0 : (0 : Int32).toInt = 0 := rfl
  subst hx
  subst hy
  exact fun H locs ls hP hD hS hl => lv_icmp_ne hk.1 hk.2.1 hd ht (fun h => kt (fun q => h (Int32.toInt_inj.mp q)) H locs ls hP hD hS hl) (fun h => kf (fun q => q (congrArg Int32.toInt h)) H locs ls hP hD hS hl)
theorem g_if_lt (hk : GC κ l0 D0 zt cc nL own Ts tys rm) {x : Int32} {a : Int} {off : Int} {tgt : Nat} (hd : decode cc pc = .ok (.ifCond .lt off, 3)) (ht : (pc : Int) + off = (tgt : Int)) (hx : x.toInt = a) (kt : a < 0 → GW κ nL n1 n2 ws tgt lv st) (kf : ¬ (a < 0) → GW κ nL n1 n2 ws (pc + 3) lv st) : GW κ nL n1 n2 ws pc lv (.int x :: st) := by
  obtain ⟨p, l, e, R, s, m, args, below, meth, c, D, A, Q⟩ := κ
  have E0 : (0 : Int32).toInt = 0 := rfl
  subst hx
  exact fun H locs ls hP hD hS hl => lv_if_lt hk.1 hk.2.1 hd ht (fun h => kt (Int32.lt_iff_toInt_lt.mp h) H locs ls hP hD hS hl) (fun h => kf (fun q => h (Int32.lt_iff_toInt_lt.mpr q)) H locs ls hP hD hS hl)
theorem g_icmp_lt (hk : GC κ l0 D0 zt cc nL own Ts tys rm) {x y : Int32} {a b : Int} {off : Int} {tgt : Nat} (hd : decode cc pc = .ok (.if_icmp .lt off, 3)) (ht : (pc : Int) + off = (tgt : Int)) (hx : x.toInt = a) (hy : y.toInt = b) (kt : a < b → GW κ nL n1 n2 ws tgt lv st) (kf : ¬ (a < b) → GW κ nL n1 n2 ws (pc + 3) lv st) : GW κ nL n1 n2 ws pc lv (.int y :: .int x :: st) := by
  obtain ⟨p, l, e, R, s, m, args, below, meth, c, D, A, Q⟩ := κ
  have E0 : (0 : Int32).toInt = 0 := rfl
  subst hx
  subst hy
  exact fun H locs ls hP hD hS hl => lv_icmp_lt hk.1 hk.2.1 hd ht (fun h => kt (Int32.lt_iff_toInt_lt.mp h) H locs ls hP hD hS hl) (fun h => kf (fun q => h (Int32.lt_iff_toInt_lt.mpr q)) H locs ls hP hD hS hl)
theorem g_if_ge (hk : GC κ l0 D0 zt cc nL own Ts tys rm) {x : Int32} {a : Int} {off : Int} {tgt : Nat} (hd : decode cc pc = .ok (.ifCond .ge off, 3)) (ht : (pc : Int) + off = (tgt : Int)) (hx : x.toInt = a) (kt : 0 ≤ a → GW κ nL n1 n2 ws tgt lv st) (kf : ¬ (0 ≤ a) → GW κ nL n1 n2 ws (pc + 3) lv st) : GW κ nL n1 n2 ws pc lv (.int x :: st) := by
  obtain ⟨p, l, e, R, s, m, args, below, meth, c, D, A, Q⟩ := κ
  have E0 : (0 : Int32).toInt = 0 := rfl
  subst hx
  exact fun H locs ls hP hD hS hl => lv_if_ge hk.1 hk.2.1 hd ht (fun h => kt (Int32.le_iff_toInt_le.mp h) H locs ls hP hD hS hl) (fun h => kf (fun q => h (Int32.le_iff_toInt_le.mpr q)) H locs ls hP hD hS hl)
theorem g_icmp_ge (hk : GC κ l0 D0 zt cc nL own Ts tys rm) {x y : Int32} {a b : Int} {off : Int} {tgt : Nat} (hd : decode cc pc = .ok (.if_icmp .ge off, 3)) (ht : (pc : Int) + off = (tgt : Int)) (hx : x.toInt = a) (hy : y.toInt = b) (kt : b ≤ a → GW κ nL n1 n2 ws tgt lv st) (kf : ¬ (b ≤ a) → GW κ nL n1 n2 ws (pc + 3) lv st) : GW κ nL n1 n2 ws pc lv (.int y :: .int x :: st) := by
  obtain ⟨p, l, e, R, s, m, args, below, meth, c, D, A, Q⟩ := κ
  have E0 : (0 : Int32).toInt = 0 := rfl
  subst hx
  subst hy
  exact fun H locs ls hP hD hS hl => lv_icmp_ge hk.1 hk.2.1 hd ht (fun h => kt (Int32.le_iff_toInt_le.mp h) H locs ls hP hD hS hl) (fun h => kf (fun q => h (Int32.le_iff_toInt_le.mpr q)) H locs ls hP hD hS hl)
theorem g_if_gt (hk : GC κ l0 D0 zt cc nL own Ts tys rm) {x : Int32} {a : Int} {off : Int} {tgt : Nat} (hd : decode cc pc = .ok (.ifCond .gt off, 3)) (ht : (pc : Int) + off = (tgt : Int)) (hx : x.toInt = a) (kt : 0 < a → GW κ nL n1 n2 ws tgt lv st) (kf : ¬ (0 < a) → GW κ nL n1 n2 ws (pc + 3) lv st) : GW κ nL n1 n2 ws pc lv (.int x :: st) := by
  obtain ⟨p, l, e, R, s, m, args, below, meth, c, D, A, Q⟩ := κ
  have E0 : (0 : Int32).toInt = 0 := rfl
  subst hx
  exact fun H locs ls hP hD hS hl => lv_if_gt hk.1 hk.2.1 hd ht (fun h => kt (Int32.lt_iff_toInt_lt.mp h) H locs ls hP hD hS hl) (fun h => kf (fun q => h (Int32.lt_iff_toInt_lt.mpr q)) H locs ls hP hD hS hl)
theorem g_icmp_gt (hk : GC κ l0 D0 zt cc nL own Ts tys rm) {x y : Int32} {a b : Int} {off : Int} {tgt : Nat} (hd : decode cc pc = .ok (.if_icmp .gt off, 3)) (ht : (pc : Int) + off = (tgt : Int)) (hx : x.toInt = a) (hy : y.toInt = b) (kt : b < a → GW κ nL n1 n2 ws tgt lv st) (kf : ¬ (b < a) → GW κ nL n1 n2 ws (pc + 3) lv st) : GW κ nL n1 n2 ws pc lv (.int y :: .int x :: st) := by
  obtain ⟨p, l, e, R, s, m, args, below, meth, c, D, A, Q⟩ := κ
  have E0 : (0 : Int32).toInt = 0 := rfl
  subst hx
  subst hy
  exact fun H locs ls hP hD hS hl => lv_icmp_gt hk.1 hk.2.1 hd ht (fun h => kt (Int32.lt_iff_toInt_lt.mp h) H locs ls hP hD hS hl) (fun h => kf (fun q => h (Int32.lt_iff_toInt_lt.mpr q)) H locs ls hP hD hS hl)
theorem g_if_le (hk : GC κ l0 D0 zt cc nL own Ts tys rm) {x : Int32} {a : Int} {off : Int} {tgt : Nat} (hd : decode cc pc = .ok (.ifCond .le off, 3)) (ht : (pc : Int) + off = (tgt : Int)) (hx : x.toInt = a) (kt : a ≤ 0 → GW κ nL n1 n2 ws tgt lv st) (kf : ¬ (a ≤ 0) → GW κ nL n1 n2 ws (pc + 3) lv st) : GW κ nL n1 n2 ws pc lv (.int x :: st) := by
  obtain ⟨p, l, e, R, s, m, args, below, meth, c, D, A, Q⟩ := κ
  have E0 : (0 : Int32).toInt = 0 := rfl
  subst hx
  exact fun H locs ls hP hD hS hl => lv_if_le hk.1 hk.2.1 hd ht (fun h => kt (Int32.le_iff_toInt_le.mp h) H locs ls hP hD hS hl) (fun h => kf (fun q => h (Int32.le_iff_toInt_le.mpr q)) H locs ls hP hD hS hl)
theorem g_icmp_le (hk : GC κ l0 D0 zt cc nL own Ts tys rm) {x y : Int32} {a b : Int} {off : Int} {tgt : Nat} (hd : decode cc pc = .ok (.if_icmp .le off, 3)) (ht : (pc : Int) + off = (tgt : Int)) (hx : x.toInt = a) (hy : y.toInt = b) (kt : a ≤ b → GW κ nL n1 n2 ws tgt lv st) (kf : ¬ (a ≤ b) → GW κ nL n1 n2 ws (pc + 3) lv st) : GW κ nL n1 n2 ws pc lv (.int y :: .int x :: st) := by
  obtain ⟨p, l, e, R, s, m, args, below, meth, c, D, A, Q⟩ := κ
  have E0 : (0 : Int32).toInt = 0 := rfl
  subst hx
  subst hy
  exact fun H locs ls hP hD hS hl => lv_icmp_le hk.1 hk.2.1 hd ht (fun h => kt (Int32.le_iff_toInt_le.mp h) H locs ls hP hD hS hl) (fun h => kf (fun q => h (Int32.le_iff_toInt_le.mpr q)) H locs ls hP hD hS hl)
theorem g_tabIn (hk : GC κ l0 D0 zt cc nL own Ts tys rm) {dflt lo hi : Int} {offs : Array Int} {len : Nat} {x : Int32} {a off : Int} {tgt : Nat} (hd : decode cc pc = .ok (.tableswitch dflt lo hi offs, len)) (hx : x.toInt = a) (h1 : ¬ a < lo) (h2 : ¬ hi < a) (ho : offs[(a - lo).toNat]? = some off) (ht : (pc : Int) + off = (tgt : Int)) (k : GW κ nL n1 n2 ws tgt lv st) : GW κ nL n1 n2 ws pc lv (.int x :: st) := by
  obtain ⟨p, l, e, R, s, m, args, below, meth, c, D, A, Q⟩ := κ
  subst hx
  exact fun H locs ls hP hD hS hl => lv_tableIn hk.1 hk.2.1 hd h1 h2 ho ht (k H locs ls hP hD hS hl)
theorem g_tabOut (hk : GC κ l0 D0 zt cc nL own Ts tys rm) {dflt lo hi : Int} {offs : Array Int} {len : Nat} {x : Int32} {a : Int} {tgt : Nat} (hd : decode cc pc = .ok (.tableswitch dflt lo hi offs, len)) (hx : x.toInt = a) (h : a < lo ∨ hi < a) (ht : (pc : Int) + dflt = (tgt : Int)) (k : GW κ nL n1 n2 ws tgt lv st) : GW κ nL n1 n2 ws pc lv (.int x :: st) := by
  obtain ⟨p, l, e, R, s, m, args, below, meth, c, D, A, Q⟩ := κ
  subst hx
  exact fun H locs ls hP hD hS hl => lv_tableOut hk.1 hk.2.1 hd h ht (k H locs ls hP hD hS hl)
theorem g_lcmp (hk : GC κ l0 D0 zt cc nL own Ts tys rm) {x y : Int64} (hd : decode cc pc = .ok (.lcmp, 1)) (k : GW κ nL n1 n2 ws (pc + 1) lv (.int (lg_cmp x y) :: st)) : GW κ nL n1 n2 ws pc lv (.long y :: .long x :: st) := by
  obtain ⟨p, l, e, R, s, m, args, below, meth, c, D, A, Q⟩ := κ
  exact fun H locs ls hP hD hS hl => W.lcmp hk.1 hk.2.1 hd (k H locs ls hP hD hS hl)
/-- a name for the number on top -/
theorem g_topi {x : Int32} (k : ∀ y : Int32, y = x → GW κ nL n1 n2 ws pc lv (.int y :: st)) : GW κ nL n1 n2 ws pc lv (.int x :: st) := k x rfl
theorem g_get (hk : GC κ l0 D0 zt cc nL own Ts tys rm) {C ref : String} {T : u_T} {N ci index a : Nat} (hin : ∀ w ∈ u_ws C T N, w ∈ Ts) (q0 : Nat) {fs : List Value} (he : ws[q0]? = some (a, .inr (ci, fs))) (hc : vwCl[ci]? = some (C, T, N)) (k : Nat) (hkN : k < N) (hlink : Cond.fieldLink own index ref (T k).2.1 (T k).2.2.1 ∈ Ts) (hr : (T k).1 = ref) {v : Value} (hv : fs[k]? = some v) (hd : decode cc pc = .ok (.getfield index, 3)) (kk : GW κ nL n1 n2 ws (pc + 3) lv (v :: st)) : GW κ nL n1 n2 ws pc lv (.ref a :: st) := by
  obtain ⟨p, l, e, R, s, m, args, below, meth, c, D, A, Q⟩ := κ
  subst hr
  exact fun H locs ls hP hD hS hl => va_get hk.1 hk.2.1 hk.2.2.2.2.1 hin hk.2.2.2.1 hk.2.2.2.2.2.1 hP q0 he hc k hkN (hk.2.2.2.2.1 _ hlink) (fun _ h => h) hv hd (kk H locs ls hP hD hS hl)
theorem g_put (hk : GC κ l0 D0 zt cc nL own Ts tys rm) {C ref : String} {T : u_T} {N ci index a : Nat} (hin : ∀ w ∈ u_ws C T N, w ∈ Ts) (ty0 : Nat → FieldType) (hty : ∀ k, k < N → parseFieldDescriptor (T k).2.2.1 = some (ty0 k)) (hnm : ∀ a, a < N → ∀ b, b < N → a ≠ b → (T a).2.1 ≠ (T b).2.1) (q0 : Nat) {fs : List Value} (he : ws[q0]? = some (a, .inr (ci, fs))) (hc : vwCl[ci]? = some (C, T, N)) (k : Nat) (hkN : k < N) (hlink : Cond.fieldLink own index ref (T k).2.1 (T k).2.2.1 ∈ Ts) (hr : (T k).1 = ref) (hfin : (T k).2.2.2 = false) {v : Value} (hn : narrow (ty0 k) v = v) (hfit : fits (ty0 k) v = true) (hlen : k < fs.length) {ws' : va_W} (hw : ws.set q0 (a, .inr (ci, fs.set k v)) = ws') (hd : decode cc pc = .ok (.putfield index, 3)) (kk : GW κ nL n1 n2 ws' (pc + 3) lv st) : GW κ nL n1 n2 ws pc lv (v :: .ref a :: st) := by
  obtain ⟨p, l, e, R, s, m, args, below, meth, c, D, A, Q⟩ := κ
  subst hr
  subst hw
  exact fun H locs ls hP hD hS hl => va_put hk.1 hk.2.1 hk.2.2.2.2.1 hin ty0 hty hnm hk.2.2.2.1 hk.2.2.2.2.2.1 hP hD hS q0 he hc k hkN (hk.2.2.2.2.1 _ hlink) (fun _ h => h) hfin (hty k hkN) hn hfit hlen hd (fun H1 locs1 hP hD hS => kk H1 locs1 ls hP hD hS hl)
theorem g_putF (hk : GC κ l0 D0 zt cc nL own Ts tys rm) (hN : GN κ) {C ref : String} {T : u_T} {N ci index a : Nat} (hin : ∀ w ∈ u_ws C T N, w ∈ Ts) (ty0 : Nat → FieldType) (hty : ∀ k, k < N → parseFieldDescriptor (T k).2.2.1 = some (ty0 k)) (hnm : ∀ a, a < N → ∀ b, b < N → a ≠ b → (T a).2.1 ≠ (T b).2.1) (q0 : Nat) {fs : List Value} (he : ws[q0]? = some (a, .inr (ci, fs))) (hc : vwCl[ci]? = some (C, T, N)) (k : Nat) (hkN : k < N) (hlink : Cond.fieldLink own index ref (T k).2.1 (T k).2.2.1 ∈ Ts) (hr : (T k).1 = ref) (hfin : (T k).2.2.2 = true) (hro : ref = own) {v : Value} (hn : narrow (ty0 k) v = v) (hfit : fits (ty0 k) v = true) (hlen : k < fs.length) {ws' : va_W} (hw : ws.set q0 (a, .inr (ci, fs.set k v)) = ws') (hd : decode cc pc = .ok (.putfield index, 3)) (kk : GW κ nL n1 n2 ws' (pc + 3) lv st) : GW κ nL n1 n2 ws pc lv (v :: .ref a :: st) := by
  obtain ⟨p, l, e, R, s, m, args, below, meth, c, D, A, Q⟩ := κ
  subst hr
  subst hw
  exact fun H locs ls hP hD hS hl => va_putF hk.1 hk.2.1 hk.2.2.2.2.1 hin ty0 hty hnm hk.2.2.2.1 hk.2.2.2.2.2.1 hP hD hS q0 he hc k hkN (hk.2.2.2.2.1 _ hlink) (fun _ h => h) hfin hN hro (hty k hkN) hn hfit hlen hd (fun H1 locs1 hP hD hS => kk H1 locs1 ls hP hD hS hl)
theorem g_iald (hk : GC κ l0 D0 zt cc nL own Ts tys rm) {a : Nat} (q0 t0 : Nat) {cA : ClassId} {n : Nat} {f : Nat → Int32} (ha : ws[q0]? = some (a, .inl (cA, n, .inl f))) (ht : tys[t0]? = some (cA, .int)) {i v : Int32} (hin : vp_in i n) (hv : f i.toNatClampNeg = v) (hd : decode cc pc = .ok (.iaload, 1)) (kk : GW κ nL n1 n2 ws (pc + 1) lv (.int v :: st)) : GW κ nL n1 n2 ws pc lv (.int i :: .ref a :: st) := by
  obtain ⟨p, l, e, R, s, m, args, below, meth, c, D, A, Q⟩ := κ
  subst hv
  exact fun H locs ls hP hD hS hl => va_iald hk.1 hk.2.1 hk.2.2.2.2.2.1 hP q0 t0 ha ht hin hd (kk H locs ls hP hD hS hl)
theorem g_bald (hk : GC κ l0 D0 zt cc nL own Ts tys rm) {a : Nat} (q0 t0 : Nat) {cA : ClassId} {n : Nat} {f : Nat → Int32} (ha : ws[q0]? = some (a, .inl (cA, n, .inl f))) (ht : tys[t0]? = some (cA, .byte)) {i v : Int32} (hin : vp_in i n) (hv : f i.toNatClampNeg = v) (hd : decode cc pc = .ok (.baload, 1)) (kk : GW κ nL n1 n2 ws (pc + 1) lv (.int v :: st)) : GW κ nL n1 n2 ws pc lv (.int i :: .ref a :: st) := by
  obtain ⟨p, l, e, R, s, m, args, below, meth, c, D, A, Q⟩ := κ
  subst hv
  exact fun H locs ls hP hD hS hl => va_bald hk.1 hk.2.1 hk.2.2.2.2.2.1 hP q0 t0 ha ht hin hd (kk H locs ls hP hD hS hl)
theorem g_zald (hk : GC κ l0 D0 zt cc nL own Ts tys rm) {a : Nat} (q0 t0 : Nat) {cA : ClassId} {n : Nat} {f : Nat → Int32} (ha : ws[q0]? = some (a, .inl (cA, n, .inl f))) (ht : tys[t0]? = some (cA, .boolean)) {i v : Int32} (hin : vp_in i n) (hv : f i.toNatClampNeg = v) (hd : decode cc pc = .ok (.baload, 1)) (kk : GW κ nL n1 n2 ws (pc + 1) lv (.int v :: st)) : GW κ nL n1 n2 ws pc lv (.int i :: .ref a :: st) := by
  obtain ⟨p, l, e, R, s, m, args, below, meth, c, D, A, Q⟩ := κ
  subst hv
  exact fun H locs ls hP hD hS hl => va_zald hk.1 hk.2.1 hk.2.2.2.2.2.1 hP q0 t0 ha ht hin hd (kk H locs ls hP hD hS hl)
theorem g_lald (hk : GC κ l0 D0 zt cc nL own Ts tys rm) {a : Nat} (q0 t0 : Nat) {cA : ClassId} {n : Nat} {f : Nat → Int64} (ha : ws[q0]? = some (a, .inl (cA, n, .inr (.inl f)))) (ht : tys[t0]? = some (cA, .long)) {i : Int32} {v : Int64} (hin : vp_in i n) (hv : f i.toNatClampNeg = v) (hd : decode cc pc = .ok (.laload, 1)) (kk : GW κ nL n1 n2 ws (pc + 1) lv (.long v :: st)) : GW κ nL n1 n2 ws pc lv (.int i :: .ref a :: st) := by
  obtain ⟨p, l, e, R, s, m, args, below, meth, c, D, A, Q⟩ := κ
  subst hv
  exact fun H locs ls hP hD hS hl => va_lald hk.1 hk.2.1 hk.2.2.2.2.2.1 hP q0 t0 ha ht hin hd (kk H locs ls hP hD hS hl)
theorem g_aald (hk : GC κ l0 D0 zt cc nL own Ts tys rm) {a : Nat} (q0 t0 : Nat) {cA : ClassId} {C : String} {n : Nat} {f : Nat → Option Nat} (ha : ws[q0]? = some (a, .inl (cA, n, .inr (.inr (.inr (.inr f)))))) (ht : tys[t0]? = some (cA, .object C)) {i : Int32} {r : Nat} (hin : vp_in i n) (hv : f i.toNatClampNeg = some r) (hd : decode cc pc = .ok (.aaload, 1)) (kk : GW κ nL n1 n2 ws (pc + 1) lv (.ref r :: st)) : GW κ nL n1 n2 ws pc lv (.int i :: .ref a :: st) := by
  obtain ⟨p, l, e, R, s, m, args, below, meth, c, D, A, Q⟩ := κ
  refine fun H locs ls hP hD hS hl => va_aldq hk.1 hk.2.1 hk.2.2.2.2.2.1 hP q0 t0 ha ht hin hd ?_
  rw [hv]
  exact kk H locs ls hP hD hS hl
theorem g_iast (hk : GC κ l0 D0 zt cc nL own Ts tys rm) {a : Nat} (q0 t0 : Nat) {cA : ClassId} {n : Nat} {f : Nat → Int32} (ha : ws[q0]? = some (a, .inl (cA, n, .inl f))) (ht : tys[t0]? = some (cA, .int)) {i x : Int32} (hin : vp_in i n) {j : Nat} (hj : i.toNatClampNeg = j) {ws' : va_W} (hw : ws.set q0 (a, .inl (cA, n, .inl (upd f j x))) = ws') (hd : decode cc pc = .ok (.iastore, 1)) (kk : GW κ nL n1 n2 ws' (pc + 1) lv st) : GW κ nL n1 n2 ws pc lv (.int x :: .int i :: .ref a :: st) := by
  obtain ⟨p, l, e, R, s, m, args, below, meth, c, D, A, Q⟩ := κ
  subst hj
  subst hw
  exact fun H locs ls hP hD hS hl => va_iast hk.1 hk.2.1 hk.2.2.2.2.2.1 hP hD hS q0 t0 ha ht hin hd (fun H1 locs1 hP hD hS => kk H1 locs1 ls hP hD hS hl)
theorem g_zast (hk : GC κ l0 D0 zt cc nL own Ts tys rm) {a : Nat} (q0 t0 : Nat) {cA : ClassId} {n : Nat} {f : Nat → Int32} (ha : ws[q0]? = some (a, .inl (cA, n, .inl f))) (ht : tys[t0]? = some (cA, .boolean)) {i x y : Int32} (hin : vp_in i n) {j : Nat} (hj : i.toNatClampNeg = j) (hx : vp_nar .boolean x = y) {ws' : va_W} (hw : ws.set q0 (a, .inl (cA, n, .inl (upd f j y))) = ws') (hd : decode cc pc = .ok (.bastore, 1)) (kk : GW κ nL n1 n2 ws' (pc + 1) lv st) : GW κ nL n1 n2 ws pc lv (.int x :: .int i :: .ref a :: st) := by
  obtain ⟨p, l, e, R, s, m, args, below, meth, c, D, A, Q⟩ := κ
  subst hj
  subst hx
  subst hw
  exact fun H locs ls hP hD hS hl => va_zast hk.1 hk.2.1 hk.2.2.2.2.2.1 hP hD hS q0 t0 ha ht hin hd (fun H1 locs1 hP hD hS => kk H1 locs1 ls hP hD hS hl)
theorem g_bast (hk : GC κ l0 D0 zt cc nL own Ts tys rm) {a : Nat} (q0 t0 : Nat) {cA : ClassId} {n : Nat} {f : Nat → Int32} (ha : ws[q0]? = some (a, .inl (cA, n, .inl f))) (ht : tys[t0]? = some (cA, .byte)) {i x y : Int32} (hin : vp_in i n) {j : Nat} (hj : i.toNatClampNeg = j) (hx : vp_nar .byte x = y) {ws' : va_W} (hw : ws.set q0 (a, .inl (cA, n, .inl (upd f j y))) = ws') (hd : decode cc pc = .ok (.bastore, 1)) (kk : GW κ nL n1 n2 ws' (pc + 1) lv st) : GW κ nL n1 n2 ws pc lv (.int x :: .int i :: .ref a :: st) := by
  obtain ⟨p, l, e, R, s, m, args, below, meth, c, D, A, Q⟩ := κ
  subst hj
  subst hx
  subst hw
  exact fun H locs ls hP hD hS hl => va_bast hk.1 hk.2.1 hk.2.2.2.2.2.1 hP hD hS q0 t0 ha ht hin hd (fun H1 locs1 hP hD hS => kk H1 locs1 ls hP hD hS hl)
theorem g_last (hk : GC κ l0 D0 zt cc nL own Ts tys rm) {a : Nat} (q0 t0 : Nat) {cA : ClassId} {n : Nat} {f : Nat → Int64} (ha : ws[q0]? = some (a, .inl (cA, n, .inr (.inl f)))) (ht : tys[t0]? = some (cA, .long)) {i : Int32} {x : Int64} (hin : vp_in i n) {j : Nat} (hj : i.toNatClampNeg = j) {ws' : va_W} (hw : ws.set q0 (a, .inl (cA, n, .inr (.inl (vp_updL f j x)))) = ws') (hd : decode cc pc = .ok (.lastore, 1)) (kk : GW κ nL n1 n2 ws' (pc + 1) lv st) : GW κ nL n1 n2 ws pc lv (.long x :: .int i :: .ref a :: st) := by
  obtain ⟨p, l, e, R, s, m, args, below, meth, c, D, A, Q⟩ := κ
  subst hj
  subst hw
  exact fun H locs ls hP hD hS hl => va_last hk.1 hk.2.1 hk.2.2.2.2.2.1 hP hD hS q0 t0 ha ht hin hd (fun H1 locs1 hP hD hS => kk H1 locs1 ls hP hD hS hl)
theorem g_alen (hk : GC κ l0 D0 zt cc nL own Ts tys rm) {a : Nat} (q0 t0 : Nat) {cA : ClassId} {x : vp_A} (ha : ws[q0]? = some (a, .inl (cA, x))) {ty : FieldType} (ht : tys[t0]? = some (cA, ty)) {v : Int32} (hv : Int32.ofNat x.1 = v) (hd : decode cc pc = .ok (.arraylength, 1)) (kk : GW κ nL n1 n2 ws (pc + 1) lv (.int v :: st)) : GW κ nL n1 n2 ws pc lv (.ref a :: st) := by
  obtain ⟨p, l, e, R, s, m, args, below, meth, c, D, A, Q⟩ := κ
  exact fun H locs ls hP hD hS hl => va_alen hk.1 hk.2.1 hk.2.2.2.2.2.1 hP q0 t0 ha ht hv hd (kk H locs ls hP hD hS hl)
/-! returns -/
theorem g_iret (hk : GC κ l0 D0 zt cc nL own Ts tys rm) {ty : FieldType} {P : Option Value → Tys → va_W → Prop} {mc ms sz : Nat} {w : va_W} (hR : GR κ (some ty) P mc ms w sz) {x : Int32} (hn : narrow ty (.int x) = .int x) (hP : P (some (.int x)) tys ws) (hd : decode cc pc = .ok (.ireturn, 1)) : GW κ nL mc ms ws pc lv [.int x] := by
  obtain ⟨p, l, e, R, s, m, args, below, meth, c, D, A, Q⟩ := κ
  obtain ⟨rfl, rfl, hr, hlk⟩ := hR
  intro H locs ls hPw hD hS hl
  exact W.zret hk.1 hk.2.1 hr hn (fun t ht hW => ⟨⟨_, tys, ws, rfl, hP, by rw [ht]; exact hPw, va_K.moved hW.alike hk.2.2.2.2.2.1, hD⟩, hS.F ht⟩) hS.2.2 hd hlk
theorem g_vret (hk : GC κ l0 D0 zt cc nL own Ts tys rm) {P : Option Value → Tys → va_W → Prop} {mc ms sz : Nat} {w : va_W} (hR : GR κ none P mc ms w sz) (hP : P none tys ws) (hd : decode cc pc = .ok (.return_, 1)) : GW κ nL mc ms ws pc lv [] := by
  obtain ⟨p, l, e, R, s, m, args, below, meth, c, D, A, Q⟩ := κ
  obtain ⟨rfl, rfl, hr, hlk⟩ := hR
  intro H locs ls hPw hD hS hl
  exact W.vret hk.1 hk.2.1 hr (fun t ht hW => ⟨⟨_, tys, ws, rfl, hP, by rw [ht]; exact hPw, va_K.moved hW.alike hk.2.2.2.2.2.1, hD⟩, hS.F ht⟩) hS.2.2 hd hlk
theorem g_lret (hk : GC κ l0 D0 zt cc nL own Ts tys rm) {P : Option Value → Tys → va_W → Prop} {mc ms sz : Nat} {w : va_W} (hR : GR κ (some .long) P mc ms w sz) {x : Int64} (hP : P (some (.long x)) tys ws) (hd : decode cc pc = .ok (.lreturn, 1)) : GW κ nL mc ms ws pc lv [.long x] := by
  obtain ⟨p, l, e, R, s, m, args, below, meth, c, D, A, Q⟩ := κ
  obtain ⟨rfl, rfl, hr, hlk⟩ := hR
  intro H locs ls hPw hD hS hl
  exact W.lret hk.1 hk.2.1 hr (fun t ht hW => ⟨⟨_, tys, ws, rfl, hP, by rw [ht]; exact hPw, va_K.moved hW.alike hk.2.2.2.2.2.1, hD⟩, hS.F ht⟩) hS.2.2 hd hlk
/-! Math -/
theorem g_mmax (hk : GC κ l0 D0 zt cc nL own Ts tys rm) {index : Nat} (h1 : Cond.methodLink own index Lib.Math.max.name ∈ Ts) (h2 : Cond.static Lib.Math.max.name ∈ Ts) (h3 : Cond.initialized "java/lang/Math" ∈ Ts) (h4 : Cond.code Lib.Math.max.name Lib.Math.max.code 2 (some .int) ∈ Ts) (hf : 1 ≤ rm.frames) (hlo : (st.map fun v => v.category).sum + 13 ≤ rm.locals) (hc : n1 ≤ rm.cells) (hs : n2 ≤ rm.slots) {x y : Int32} (hd : decode cc pc = .ok (.invokestatic index, 3)) (kk : GW κ nL n1 n2 ws (pc + 3) lv (.int (if x < y then y else x) :: st)) : GW κ nL n1 n2 ws pc lv (.int y :: .int x :: st) := by
  obtain ⟨p, l, e, R, s, m, args, below, meth, c, D, A, Q⟩ := κ
  obtain ⟨hx, hb, hml, hown, hts, hK, hA, rfl, hz⟩ := hk
  exact fun H locs ls hP hD hS hl => va_mmax hx hb (hml.trans hl.1.symm) hown (hts _ h1) (hts _ h2) (hts _ h3) (hts _ h4) hf hlo hc hs hd (kk H locs ls hP hD hS hl)
theorem g_mmin (hk : GC κ l0 D0 zt cc nL own Ts tys rm) {index : Nat} (h1 : Cond.methodLink own index Lib.Math.min.name ∈ Ts) (h2 : Cond.static Lib.Math.min.name ∈ Ts) (h3 : Cond.initialized "java/lang/Math" ∈ Ts) (h4 : Cond.code Lib.Math.min.name Lib.Math.min.code 2 (some .int) ∈ Ts) (hf : 1 ≤ rm.frames) (hlo : (st.map fun v => v.category).sum + 13 ≤ rm.locals) (hc : n1 ≤ rm.cells) (hs : n2 ≤ rm.slots) {x y : Int32} (hd : decode cc pc = .ok (.invokestatic index, 3)) (kk : GW κ nL n1 n2 ws (pc + 3) lv (.int (if y < x then y else x) :: st)) : GW κ nL n1 n2 ws pc lv (.int y :: .int x :: st) := by
  obtain ⟨p, l, e, R, s, m, args, below, meth, c, D, A, Q⟩ := κ
  obtain ⟨hx, hb, hml, hown, hts, hK, hA, rfl, hz⟩ := hk
  exact fun H locs ls hP hD hS hl => va_mmin hx hb (hml.trans hl.1.symm) hown (hts _ h1) (hts _ h2) (hts _ h3) (hts _ h4) hf hlo hc hs hd (kk H locs ls hP hD hS hl)
/-! Object.<init>, new, newarray -/
theorem g_objInit (hk : GC κ l0 D0 zt cc nL own Ts tys rm) {idx a : Nat} (h1 : Cond.methodLink own idx Lib.objectInit ∈ Ts) (h2 : Cond.instanceMethod Lib.objectInit ∈ Ts) (h3 : Cond.code Lib.objectInit ⟨#[0xb1]⟩ 1 none ∈ Ts) (hf : 1 ≤ rm.frames) (hlo : (st.map fun v => v.category).sum + 12 ≤ rm.locals) (hd : decode cc pc = .ok (.invokespecial idx, 3)) (kk : GW κ nL n1 n2 ws (pc + 3) lv st) : GW κ nL n1 n2 ws pc lv (.ref a :: st) := by
  obtain ⟨p, l, e, R, s, m, args, below, meth, c, D, A, Q⟩ := κ
  obtain ⟨hx, hb, hml, hown, hts, hK, hA, rfl, hz⟩ := hk
  exact fun H locs ls hP hD hS hl => W.objInit hx hb hown (hts _ h1) (hts _ h2) (hts _ h3) rfl (by rw [hml]; exact hl.1) rfl hd hf (by show 2 * 0 + _ + 12 ≤ _; omega) (kk H locs ls hP hD hS hl)
theorem g_new (hk : GC κ l0 D0 zt cc nL own Ts tys rm) {C : String} {T : u_T} {N ci index : Nat} (hin : ∀ w ∈ u_ws C T N, w ∈ Ts) (ty : Nat → FieldType) (hty : ∀ k, k < N → parseFieldDescriptor (T k).2.2.1 = some (ty k)) (h1 : Cond.classLink own index C ∈ Ts) (h2 : Cond.instantiable C N ∈ Ts) (h3 : Cond.initialized C ∈ Ts) (hc : vwCl[ci]? = some (C, T, N)) {fs : List Value} (hfs : ∀ j, j < N → defaultValue (ty j) = vp_V fs j) (hcells : n1 + 1 ≤ rm.cells) (hslots : n2 + N ≤ rm.slots) (hd : decode cc pc = .ok (.new index, 3))
    (kk : ∀ q : Nat, GW κ nL (n1 + 1) (n2 + N) (ws ++ [(q, .inr (ci, fs))]) (pc + 3) lv (.ref q :: st)) : GW κ nL n1 n2 ws pc lv st := by
  obtain ⟨p, l, e, R, s, m, args, below, meth, c, D, A, Q⟩ := κ
  obtain ⟨hx, hb, hml, hown, hts, hK, hA, rfl, hz⟩ := hk
  exact fun H locs ls hP hD hS hl => va_new hx hb hts hin ty hty hown (hts _ h1) (hts _ h2) (hts _ h3) hK hP hD hS hA hc hfs hcells hslots hd (fun q H1 hP hD hS => kk q H1 locs ls hP hD hS hl)
theorem g_newa (hk : GC κ l0 D0 zt cc nL own Ts tys rm) {atype : ArrayType} {ty : FieldType} (h1 : Cond.arrayClass (newarray.typeOf atype) ∈ Ts) (hty : newarray.typeOf atype = ty) {n : Int32} {N' : Nat} {a0 : vp_A} (ha : ∀ cA : ClassId, vp_cell cA a0 = arrV cA N' (fun _ => defaultValue ty)) (hn : ¬ n < 0) (hN : n.toNatClampNeg = N') (hbytes : N' * componentBytes ty ≤ 536870912) (hcells : n1 + 1 ≤ rm.cells) (hslots : n2 + N' ≤ rm.slots) (hd : decode cc pc = .ok (.newarray atype, 2))
    (kk : ∀ (q : Nat) (cA : ClassId), GC κ l0 D0 zt cc nL own Ts (tys ++ [(cA, ty)]) rm → GW κ nL (n1 + 1) (n2 + N') (ws ++ [(q, .inl (cA, a0))]) (pc + 2) lv (.ref q :: st)) : GW κ nL n1 n2 ws pc lv (.int n :: st) := by
  obtain ⟨p, l, e, R, s, m, args, below, meth, c, D, A, Q⟩ := κ
  obtain ⟨hx, hb, hml, hown, hts, hK, hA, rfl, hz⟩ := hk
  exact fun H locs ls hP hD hS hl => va_newa hx hb (hts _ h1) hty hK hP hD hS hA ha hn hN hbytes hcells hslots hd (fun q cA H1 hK hP hD hS => kk q cA ⟨hx, hb, hml, hown, hts, hK, hA, rfl, hz⟩ H1 locs ls hP hD hS hl)
theorem g_newq (hk : GC κ l0 D0 zt cc nL own Ts tys rm) {C : String} {index : Nat} (h1 : Cond.classLink own index C ∈ Ts) (hov : GO κ C) {n : Int32} {N' : Nat} (hn : ¬ n < 0) (hN : n.toNatClampNeg = N') (hbytes : N' * 4 ≤ 536870912) (hcells : n1 + 1 ≤ rm.cells) (hslots : n2 + N' ≤ rm.slots) (hd : decode cc pc = .ok (.anewarray index, 3))
    (kk : ∀ (q : Nat) (cA : ClassId), GC κ l0 D0 zt cc nL own Ts (tys ++ [(cA, .object C)]) rm → GW κ nL (n1 + 1) (n2 + N') (ws ++ [(q, .inl (cA, N', .inr (.inr (.inr (.inr (fun _ => none))))))]) (pc + 3) lv (.ref q :: st)) : GW κ nL n1 n2 ws pc lv (.int n :: st) := by
  obtain ⟨p, l, e, R, s, m, args, below, meth, c, D, A, Q⟩ := κ
  obtain ⟨hx, hb, hml, hown, hts, hK, hA, rfl, hz⟩ := hk
  exact fun H locs ls hP hD hS hl => va_newq hx hb hown (hts _ h1) hov hK hP hD hS hA hn hN hbytes hcells hslots hd (fun q cA H1 hK hP hD hS => kk q cA ⟨hx, hb, hml, hown, hts, hK, hA, rfl, hz⟩ H1 locs ls hP hD hS hl)
theorem g_aast (hk : GC κ l0 D0 zt cc nL own Ts tys rm) {a : Nat} (q0 t0 qk ci : Nat) {cA : ClassId} {r : vw_C} {n v : Nat} {vs : List Value} {f : Nat → Option Nat} (ha : ws[q0]? = some (a, .inl (cA, n, .inr (.inr (.inr (.inr f)))))) (ht : tys[t0]? = some (cA, .object r.1)) (hv : ws[qk]? = some (v, .inr (ci, vs))) (hc : vwCl[ci]? = some r) {i : Int32} (hin : vp_in i n) {j : Nat} (hj : i.toNatClampNeg = j) {ws' : va_W} (hw : ws.set q0 (a, .inl (cA, n, .inr (.inr (.inr (.inr (va_up f j (some v))))))) = ws') (hd : decode cc pc = .ok (.aastore, 1)) (kk : GW κ nL n1 n2 ws' (pc + 1) lv st) : GW κ nL n1 n2 ws pc lv (.ref v :: .int i :: .ref a :: st) := by
  obtain ⟨p, l, e, R, s, m, args, below, meth, c, D, A, Q⟩ := κ
  subst hj
  subst hw
  exact fun H locs ls hP hD hS hl => va_astq hk.1 hk.2.1 hk.2.2.2.2.2.1 hP hD hS q0 t0 qk ci ha ht hv hc hin hd (fun H1 locs1 hP hD hS => kk H1 locs1 ls hP hD hS hl)
end GI
end
