-- ===== PART A: goes FIRST, ahead of the names: the tables' words, and 'selects' of the private methods out of them =====
/-- a private method of a class that the tables say can be made, by its rows of tables_1 -/
def lw_okq (q : MethodName × Nat) : Prop := (q.1.cls ≠ "java/lang/invoke/MethodHandle" ∧ q.1.cls ≠ "java/lang/invoke/VarHandle") ∧ Cond.instantiable q.1.cls q.2 ∈ tables_1 ∧ Cond.privateMethod q.1 ∈ tables_1 ∧ Cond.instanceMethod q.1 ∈ tables_1
theorem lw_p0 : lw_okq (⟨"PotatoPrints", "refuseBad", "(I)I"⟩, 10) := ⟨⟨by decide +kernel, by decide +kernel⟩, List.mem_of_getElem? (i := 16) (by decide +kernel), List.mem_of_getElem? (i := 145) (by decide +kernel), List.mem_of_getElem? (i := 146) (by decide +kernel)⟩
theorem lw_p1 : lw_okq (⟨"PotatoPrints$Table", "darkCells", "()J"⟩, 11) := ⟨⟨by decide +kernel, by decide +kernel⟩, List.mem_of_getElem? (i := 24) (by decide +kernel), List.mem_of_getElem? (i := 149) (by decide +kernel), List.mem_of_getElem? (i := 150) (by decide +kernel)⟩
theorem lw_p2 : lw_okq (⟨"PotatoPrints$Table", "beginAnew", "(I)V"⟩, 11) := ⟨⟨by decide +kernel, by decide +kernel⟩, List.mem_of_getElem? (i := 24) (by decide +kernel), List.mem_of_getElem? (i := 159) (by decide +kernel), List.mem_of_getElem? (i := 160) (by decide +kernel)⟩
theorem lw_p3 : lw_okq (⟨"PotatoPrints$Table", "remember", "()V"⟩, 11) := ⟨⟨by decide +kernel, by decide +kernel⟩, List.mem_of_getElem? (i := 24) (by decide +kernel), List.mem_of_getElem? (i := 175) (by decide +kernel), List.mem_of_getElem? (i := 176) (by decide +kernel)⟩
theorem lw_p4 : lw_okq (⟨"PotatoPrints", "refuseNo", "()I"⟩, 10) := ⟨⟨by decide +kernel, by decide +kernel⟩, List.mem_of_getElem? (i := 16) (by decide +kernel), List.mem_of_getElem? (i := 192) (by decide +kernel), List.mem_of_getElem? (i := 193) (by decide +kernel)⟩
theorem lw_p5 : lw_okq (⟨"PotatoPrints$Table", "putPrint", "(IIIII)I"⟩, 11) := ⟨⟨by decide +kernel, by decide +kernel⟩, List.mem_of_getElem? (i := 24) (by decide +kernel), List.mem_of_getElem? (i := 196) (by decide +kernel), List.mem_of_getElem? (i := 197) (by decide +kernel)⟩
theorem lw_p6 : lw_okq (⟨"PotatoPrints$Table", "darken", "(JI)I"⟩, 11) := ⟨⟨by decide +kernel, by decide +kernel⟩, List.mem_of_getElem? (i := 24) (by decide +kernel), List.mem_of_getElem? (i := 237) (by decide +kernel), List.mem_of_getElem? (i := 238) (by decide +kernel)⟩
theorem lw_p7 : lw_okq (⟨"PotatoPrints$Table", "stepBack", "()V"⟩, 11) := ⟨⟨by decide +kernel, by decide +kernel⟩, List.mem_of_getElem? (i := 24) (by decide +kernel), List.mem_of_getElem? (i := 246) (by decide +kernel), List.mem_of_getElem? (i := 247) (by decide +kernel)⟩
theorem lw_p8 : lw_okq (⟨"PotatoPrints", "refuseFull", "()I"⟩, 10) := ⟨⟨by decide +kernel, by decide +kernel⟩, List.mem_of_getElem? (i := 16) (by decide +kernel), List.mem_of_getElem? (i := 254) (by decide +kernel), List.mem_of_getElem? (i := 255) (by decide +kernel)⟩
theorem lw_p9 : lw_okq (⟨"PotatoPrints$Text", "addByte", "(I)V"⟩, 7) := ⟨⟨by decide +kernel, by decide +kernel⟩, List.mem_of_getElem? (i := 76) (by decide +kernel), List.mem_of_getElem? (i := 258) (by decide +kernel), List.mem_of_getElem? (i := 259) (by decide +kernel)⟩
theorem lw_p10 : lw_okq (⟨"PotatoPrints$Text", "readInto", "(LPotatoPrints$Table;)I"⟩, 7) := ⟨⟨by decide +kernel, by decide +kernel⟩, List.mem_of_getElem? (i := 76) (by decide +kernel), List.mem_of_getElem? (i := 270) (by decide +kernel), List.mem_of_getElem? (i := 271) (by decide +kernel)⟩
theorem lw_p11 : lw_okq (⟨"PotatoPrints$Text", "nextToken", "()V"⟩, 7) := ⟨⟨by decide +kernel, by decide +kernel⟩, List.mem_of_getElem? (i := 76) (by decide +kernel), List.mem_of_getElem? (i := 274) (by decide +kernel), List.mem_of_getElem? (i := 275) (by decide +kernel)⟩
theorem lw_p12 : lw_okq (⟨"PotatoPrints$Text", "isWithin", "(ICC)Z"⟩, 7) := ⟨⟨by decide +kernel, by decide +kernel⟩, List.mem_of_getElem? (i := 76) (by decide +kernel), List.mem_of_getElem? (i := 278) (by decide +kernel), List.mem_of_getElem? (i := 279) (by decide +kernel)⟩
theorem lw_p13 : lw_okq (⟨"PotatoPrints$Text", "takeWord", "()V"⟩, 7) := ⟨⟨by decide +kernel, by decide +kernel⟩, List.mem_of_getElem? (i := 76) (by decide +kernel), List.mem_of_getElem? (i := 282) (by decide +kernel), List.mem_of_getElem? (i := 283) (by decide +kernel)⟩
theorem lw_p14 : lw_okq (⟨"PotatoPrints$Text", "isTheWord", "(Ljava/lang/String;)Z"⟩, 7) := ⟨⟨by decide +kernel, by decide +kernel⟩, List.mem_of_getElem? (i := 76) (by decide +kernel), List.mem_of_getElem? (i := 287) (by decide +kernel), List.mem_of_getElem? (i := 288) (by decide +kernel)⟩
theorem lw_p15 : lw_okq (⟨"PotatoPrints$Text", "takeNumber", "()V"⟩, 7) := ⟨⟨by decide +kernel, by decide +kernel⟩, List.mem_of_getElem? (i := 76) (by decide +kernel), List.mem_of_getElem? (i := 341) (by decide +kernel), List.mem_of_getElem? (i := 342) (by decide +kernel)⟩
def lw_privs_1 : List (MethodName × Nat) := [(⟨"PotatoPrints", "refuseBad", "(I)I"⟩, 10), (⟨"PotatoPrints$Table", "darkCells", "()J"⟩, 11), (⟨"PotatoPrints$Table", "beginAnew", "(I)V"⟩, 11), (⟨"PotatoPrints$Table", "remember", "()V"⟩, 11), (⟨"PotatoPrints", "refuseNo", "()I"⟩, 10), (⟨"PotatoPrints$Table", "putPrint", "(IIIII)I"⟩, 11), (⟨"PotatoPrints$Table", "darken", "(JI)I"⟩, 11), (⟨"PotatoPrints$Table", "stepBack", "()V"⟩, 11), (⟨"PotatoPrints", "refuseFull", "()I"⟩, 10), (⟨"PotatoPrints$Text", "addByte", "(I)V"⟩, 7), (⟨"PotatoPrints$Text", "readInto", "(LPotatoPrints$Table;)I"⟩, 7), (⟨"PotatoPrints$Text", "nextToken", "()V"⟩, 7), (⟨"PotatoPrints$Text", "isWithin", "(ICC)Z"⟩, 7), (⟨"PotatoPrints$Text", "takeWord", "()V"⟩, 7), (⟨"PotatoPrints$Text", "isTheWord", "(Ljava/lang/String;)Z"⟩, 7), (⟨"PotatoPrints$Text", "takeNumber", "()V"⟩, 7)]
theorem lw_r1 : ∀ q ∈ lw_privs_1, lw_okq q := List.forall_mem_cons.mpr ⟨lw_p0, List.forall_mem_cons.mpr ⟨lw_p1, List.forall_mem_cons.mpr ⟨lw_p2, List.forall_mem_cons.mpr ⟨lw_p3, List.forall_mem_cons.mpr ⟨lw_p4, List.forall_mem_cons.mpr ⟨lw_p5, List.forall_mem_cons.mpr ⟨lw_p6, List.forall_mem_cons.mpr ⟨lw_p7, List.forall_mem_cons.mpr ⟨lw_p8, List.forall_mem_cons.mpr ⟨lw_p9, List.forall_mem_cons.mpr ⟨lw_p10, List.forall_mem_cons.mpr ⟨lw_p11, List.forall_mem_cons.mpr ⟨lw_p12, List.forall_mem_cons.mpr ⟨lw_p13, List.forall_mem_cons.mpr ⟨lw_p14, List.forall_mem_cons.mpr ⟨lw_p15, fun _ h => absurd h List.not_mem_nil⟩⟩⟩⟩⟩⟩⟩⟩⟩⟩⟩⟩⟩⟩⟩⟩
theorem lw_p16 : lw_okq (⟨"PotatoPrints$Text", "numbersStand", "([I)Z"⟩, 7) := ⟨⟨by decide +kernel, by decide +kernel⟩, List.mem_of_getElem? (i := 76) (by decide +kernel), List.mem_of_getElem? (i := 354) (by decide +kernel), List.mem_of_getElem? (i := 355) (by decide +kernel)⟩
theorem lw_p17 : lw_okq (⟨"PotatoPrints$Text", "putItem", "(ILPotatoPrints$Table;)V"⟩, 7) := ⟨⟨by decide +kernel, by decide +kernel⟩, List.mem_of_getElem? (i := 76) (by decide +kernel), List.mem_of_getElem? (i := 358) (by decide +kernel), List.mem_of_getElem? (i := 359) (by decide +kernel)⟩
theorem lw_p18 : lw_okq (⟨"PotatoPrints$Table", "takeOver", "(LPotatoPrints$Table;)V"⟩, 11) := ⟨⟨by decide +kernel, by decide +kernel⟩, List.mem_of_getElem? (i := 24) (by decide +kernel), List.mem_of_getElem? (i := 364) (by decide +kernel), List.mem_of_getElem? (i := 365) (by decide +kernel)⟩
theorem lw_p19 : lw_okq (⟨"PotatoPrints$Table", "takeOverPrints", "(LPotatoPrints$Table;)V"⟩, 11) := ⟨⟨by decide +kernel, by decide +kernel⟩, List.mem_of_getElem? (i := 24) (by decide +kernel), List.mem_of_getElem? (i := 368) (by decide +kernel), List.mem_of_getElem? (i := 369) (by decide +kernel)⟩
theorem lw_p20 : lw_okq (⟨"PotatoPrints", "placeEverywhere", "(I)V"⟩, 10) := ⟨⟨by decide +kernel, by decide +kernel⟩, List.mem_of_getElem? (i := 16) (by decide +kernel), List.mem_of_getElem? (i := 430) (by decide +kernel), List.mem_of_getElem? (i := 431) (by decide +kernel)⟩
theorem lw_p21 : lw_okq (⟨"PotatoPrints$Table", "wantedCells", "()J"⟩, 11) := ⟨⟨by decide +kernel, by decide +kernel⟩, List.mem_of_getElem? (i := 24) (by decide +kernel), List.mem_of_getElem? (i := 449) (by decide +kernel), List.mem_of_getElem? (i := 450) (by decide +kernel)⟩
theorem lw_p22 : lw_okq (⟨"PotatoPrints", "firstCovering", "(J)I"⟩, 10) := ⟨⟨by decide +kernel, by decide +kernel⟩, List.mem_of_getElem? (i := 16) (by decide +kernel), List.mem_of_getElem? (i := 453) (by decide +kernel), List.mem_of_getElem? (i := 454) (by decide +kernel)⟩
theorem lw_p23 : lw_okq (⟨"PotatoPrints", "firstOfTwoCovering", "(J)I"⟩, 10) := ⟨⟨by decide +kernel, by decide +kernel⟩, List.mem_of_getElem? (i := 16) (by decide +kernel), List.mem_of_getElem? (i := 458) (by decide +kernel), List.mem_of_getElem? (i := 459) (by decide +kernel)⟩
theorem lw_p24 : lw_okq (⟨"PotatoPrints$Table", "seenCellsOf", "(I)J"⟩, 11) := ⟨⟨by decide +kernel, by decide +kernel⟩, List.mem_of_getElem? (i := 24) (by decide +kernel), List.mem_of_getElem? (i := 489) (by decide +kernel), List.mem_of_getElem? (i := 490) (by decide +kernel)⟩
theorem lw_p25 : lw_okq (⟨"PotatoPrints", "keepFitting", "()I"⟩, 10) := ⟨⟨by decide +kernel, by decide +kernel⟩, List.mem_of_getElem? (i := 16) (by decide +kernel), List.mem_of_getElem? (i := 500) (by decide +kernel), List.mem_of_getElem? (i := 501) (by decide +kernel)⟩
theorem lw_p26 : lw_okq (⟨"PotatoPrints", "howManyInk", "(II)I"⟩, 10) := ⟨⟨by decide +kernel, by decide +kernel⟩, List.mem_of_getElem? (i := 16) (by decide +kernel), List.mem_of_getElem? (i := 504) (by decide +kernel), List.mem_of_getElem? (i := 505) (by decide +kernel)⟩
theorem lw_p27 : lw_okq (⟨"PotatoPrints", "cutAway", "(IIII)I"⟩, 10) := ⟨⟨by decide +kernel, by decide +kernel⟩, List.mem_of_getElem? (i := 16) (by decide +kernel), List.mem_of_getElem? (i := 515) (by decide +kernel), List.mem_of_getElem? (i := 516) (by decide +kernel)⟩
theorem lw_p28 : lw_okq (⟨"PotatoPrints", "setFraction", "(JJ)V"⟩, 10) := ⟨⟨by decide +kernel, by decide +kernel⟩, List.mem_of_getElem? (i := 16) (by decide +kernel), List.mem_of_getElem? (i := 529) (by decide +kernel), List.mem_of_getElem? (i := 530) (by decide +kernel)⟩
theorem lw_p29 : lw_okq (⟨"PotatoPrints$Table", "darknessInAll", "()I"⟩, 11) := ⟨⟨by decide +kernel, by decide +kernel⟩, List.mem_of_getElem? (i := 24) (by decide +kernel), List.mem_of_getElem? (i := 548) (by decide +kernel), List.mem_of_getElem? (i := 549) (by decide +kernel)⟩
theorem lw_p30 : lw_okq (⟨"PotatoPrints", "howMany", "(I)I"⟩, 10) := ⟨⟨by decide +kernel, by decide +kernel⟩, List.mem_of_getElem? (i := 16) (by decide +kernel), List.mem_of_getElem? (i := 572) (by decide +kernel), List.mem_of_getElem? (i := 573) (by decide +kernel)⟩
theorem lw_p31 : lw_okq (⟨"PotatoPrintsModel", "bad", "()I"⟩, 22) := ⟨⟨by decide +kernel, by decide +kernel⟩, List.mem_of_getElem? (i := 582) (by decide +kernel), List.mem_of_getElem? (i := 664) (by decide +kernel), List.mem_of_getElem? (i := 665) (by decide +kernel)⟩
def lw_privs_2 : List (MethodName × Nat) := [(⟨"PotatoPrints$Text", "numbersStand", "([I)Z"⟩, 7), (⟨"PotatoPrints$Text", "putItem", "(ILPotatoPrints$Table;)V"⟩, 7), (⟨"PotatoPrints$Table", "takeOver", "(LPotatoPrints$Table;)V"⟩, 11), (⟨"PotatoPrints$Table", "takeOverPrints", "(LPotatoPrints$Table;)V"⟩, 11), (⟨"PotatoPrints", "placeEverywhere", "(I)V"⟩, 10), (⟨"PotatoPrints$Table", "wantedCells", "()J"⟩, 11), (⟨"PotatoPrints", "firstCovering", "(J)I"⟩, 10), (⟨"PotatoPrints", "firstOfTwoCovering", "(J)I"⟩, 10), (⟨"PotatoPrints$Table", "seenCellsOf", "(I)J"⟩, 11), (⟨"PotatoPrints", "keepFitting", "()I"⟩, 10), (⟨"PotatoPrints", "howManyInk", "(II)I"⟩, 10), (⟨"PotatoPrints", "cutAway", "(IIII)I"⟩, 10), (⟨"PotatoPrints", "setFraction", "(JJ)V"⟩, 10), (⟨"PotatoPrints$Table", "darknessInAll", "()I"⟩, 11), (⟨"PotatoPrints", "howMany", "(I)I"⟩, 10), (⟨"PotatoPrintsModel", "bad", "()I"⟩, 22)]
theorem lw_r2 : ∀ q ∈ lw_privs_2, lw_okq q := List.forall_mem_cons.mpr ⟨lw_p16, List.forall_mem_cons.mpr ⟨lw_p17, List.forall_mem_cons.mpr ⟨lw_p18, List.forall_mem_cons.mpr ⟨lw_p19, List.forall_mem_cons.mpr ⟨lw_p20, List.forall_mem_cons.mpr ⟨lw_p21, List.forall_mem_cons.mpr ⟨lw_p22, List.forall_mem_cons.mpr ⟨lw_p23, List.forall_mem_cons.mpr ⟨lw_p24, List.forall_mem_cons.mpr ⟨lw_p25, List.forall_mem_cons.mpr ⟨lw_p26, List.forall_mem_cons.mpr ⟨lw_p27, List.forall_mem_cons.mpr ⟨lw_p28, List.forall_mem_cons.mpr ⟨lw_p29, List.forall_mem_cons.mpr ⟨lw_p30, List.forall_mem_cons.mpr ⟨lw_p31, fun _ h => absurd h List.not_mem_nil⟩⟩⟩⟩⟩⟩⟩⟩⟩⟩⟩⟩⟩⟩⟩⟩
theorem lw_p32 : lw_okq (⟨"PotatoPrintsModel", "darkMany", "()I"⟩, 22) := ⟨⟨by decide +kernel, by decide +kernel⟩, List.mem_of_getElem? (i := 582) (by decide +kernel), List.mem_of_getElem? (i := 668) (by decide +kernel), List.mem_of_getElem? (i := 669) (by decide +kernel)⟩
theorem lw_p33 : lw_okq (⟨"PotatoPrintsModel", "anew", "(I)V"⟩, 22) := ⟨⟨by decide +kernel, by decide +kernel⟩, List.mem_of_getElem? (i := 582) (by decide +kernel), List.mem_of_getElem? (i := 672) (by decide +kernel), List.mem_of_getElem? (i := 673) (by decide +kernel)⟩
theorem lw_p34 : lw_okq (⟨"PotatoPrintsModel", "note", "()V"⟩, 22) := ⟨⟨by decide +kernel, by decide +kernel⟩, List.mem_of_getElem? (i := 582) (by decide +kernel), List.mem_of_getElem? (i := 688) (by decide +kernel), List.mem_of_getElem? (i := 689) (by decide +kernel)⟩
theorem lw_p35 : lw_okq (⟨"PotatoPrintsModel", "no", "()I"⟩, 22) := ⟨⟨by decide +kernel, by decide +kernel⟩, List.mem_of_getElem? (i := 582) (by decide +kernel), List.mem_of_getElem? (i := 705) (by decide +kernel), List.mem_of_getElem? (i := 706) (by decide +kernel)⟩
theorem lw_p36 : lw_okq (⟨"PotatoPrintsModel", "printOne", "(IIIII)I"⟩, 22) := ⟨⟨by decide +kernel, by decide +kernel⟩, List.mem_of_getElem? (i := 582) (by decide +kernel), List.mem_of_getElem? (i := 709) (by decide +kernel), List.mem_of_getElem? (i := 710) (by decide +kernel)⟩
theorem lw_p37 : lw_okq (⟨"PotatoPrintsModel", "looksOf", "(II)I"⟩, 22) := ⟨⟨by decide +kernel, by decide +kernel⟩, List.mem_of_getElem? (i := 582) (by decide +kernel), List.mem_of_getElem? (i := 713) (by decide +kernel), List.mem_of_getElem? (i := 714) (by decide +kernel)⟩
theorem lw_p38 : lw_okq (⟨"PotatoPrintsModel", "inkBy", "(IIIII)V"⟩, 22) := ⟨⟨by decide +kernel, by decide +kernel⟩, List.mem_of_getElem? (i := 582) (by decide +kernel), List.mem_of_getElem? (i := 723) (by decide +kernel), List.mem_of_getElem? (i := 724) (by decide +kernel)⟩
theorem lw_p39 : lw_okq (⟨"PotatoPrintsModel", "layLooks", "(IIIIZ)V"⟩, 22) := ⟨⟨by decide +kernel, by decide +kernel⟩, List.mem_of_getElem? (i := 582) (by decide +kernel), List.mem_of_getElem? (i := 733) (by decide +kernel), List.mem_of_getElem? (i := 734) (by decide +kernel)⟩
theorem lw_p40 : lw_okq (⟨"PotatoPrintsModel", "darker", "()I"⟩, 22) := ⟨⟨by decide +kernel, by decide +kernel⟩, List.mem_of_getElem? (i := 582) (by decide +kernel), List.mem_of_getElem? (i := 737) (by decide +kernel), List.mem_of_getElem? (i := 738) (by decide +kernel)⟩
theorem lw_p41 : lw_okq (⟨"PotatoPrintsModel", "full", "()I"⟩, 22) := ⟨⟨by decide +kernel, by decide +kernel⟩, List.mem_of_getElem? (i := 582) (by decide +kernel), List.mem_of_getElem? (i := 753) (by decide +kernel), List.mem_of_getElem? (i := 754) (by decide +kernel)⟩
theorem lw_p42 : lw_okq (⟨"PotatoPrintsModel", "readText", "(Z)I"⟩, 22) := ⟨⟨by decide +kernel, by decide +kernel⟩, List.mem_of_getElem? (i := 582) (by decide +kernel), List.mem_of_getElem? (i := 765) (by decide +kernel), List.mem_of_getElem? (i := 766) (by decide +kernel)⟩
theorem lw_p43 : lw_okq (⟨"PotatoPrintsModel", "nextToken", "()V"⟩, 22) := ⟨⟨by decide +kernel, by decide +kernel⟩, List.mem_of_getElem? (i := 582) (by decide +kernel), List.mem_of_getElem? (i := 769) (by decide +kernel), List.mem_of_getElem? (i := 770) (by decide +kernel)⟩
theorem lw_p44 : lw_okq (⟨"PotatoPrintsModel", "byteAt", "(I)I"⟩, 22) := ⟨⟨by decide +kernel, by decide +kernel⟩, List.mem_of_getElem? (i := 582) (by decide +kernel), List.mem_of_getElem? (i := 773) (by decide +kernel), List.mem_of_getElem? (i := 774) (by decide +kernel)⟩
theorem lw_p45 : lw_okq (⟨"PotatoPrintsModel", "readItem", "(ZZ)Z"⟩, 22) := ⟨⟨by decide +kernel, by decide +kernel⟩, List.mem_of_getElem? (i := 582) (by decide +kernel), List.mem_of_getElem? (i := 781) (by decide +kernel), List.mem_of_getElem? (i := 782) (by decide +kernel)⟩
theorem lw_p46 : lw_okq (⟨"PotatoPrintsModel", "isWord", "(IIIIII)Z"⟩, 22) := ⟨⟨by decide +kernel, by decide +kernel⟩, List.mem_of_getElem? (i := 582) (by decide +kernel), List.mem_of_getElem? (i := 785) (by decide +kernel), List.mem_of_getElem? (i := 786) (by decide +kernel)⟩
theorem lw_p47 : lw_okq (⟨"PotatoPrintsModel", "reads", "(II)Z"⟩, 22) := ⟨⟨by decide +kernel, by decide +kernel⟩, List.mem_of_getElem? (i := 582) (by decide +kernel), List.mem_of_getElem? (i := 789) (by decide +kernel), List.mem_of_getElem? (i := 790) (by decide +kernel)⟩
def lw_privs_3 : List (MethodName × Nat) := [(⟨"PotatoPrintsModel", "darkMany", "()I"⟩, 22), (⟨"PotatoPrintsModel", "anew", "(I)V"⟩, 22), (⟨"PotatoPrintsModel", "note", "()V"⟩, 22), (⟨"PotatoPrintsModel", "no", "()I"⟩, 22), (⟨"PotatoPrintsModel", "printOne", "(IIIII)I"⟩, 22), (⟨"PotatoPrintsModel", "looksOf", "(II)I"⟩, 22), (⟨"PotatoPrintsModel", "inkBy", "(IIIII)V"⟩, 22), (⟨"PotatoPrintsModel", "layLooks", "(IIIIZ)V"⟩, 22), (⟨"PotatoPrintsModel", "darker", "()I"⟩, 22), (⟨"PotatoPrintsModel", "full", "()I"⟩, 22), (⟨"PotatoPrintsModel", "readText", "(Z)I"⟩, 22), (⟨"PotatoPrintsModel", "nextToken", "()V"⟩, 22), (⟨"PotatoPrintsModel", "byteAt", "(I)I"⟩, 22), (⟨"PotatoPrintsModel", "readItem", "(ZZ)Z"⟩, 22), (⟨"PotatoPrintsModel", "isWord", "(IIIIII)Z"⟩, 22), (⟨"PotatoPrintsModel", "reads", "(II)Z"⟩, 22)]
theorem lw_r3 : ∀ q ∈ lw_privs_3, lw_okq q := List.forall_mem_cons.mpr ⟨lw_p32, List.forall_mem_cons.mpr ⟨lw_p33, List.forall_mem_cons.mpr ⟨lw_p34, List.forall_mem_cons.mpr ⟨lw_p35, List.forall_mem_cons.mpr ⟨lw_p36, List.forall_mem_cons.mpr ⟨lw_p37, List.forall_mem_cons.mpr ⟨lw_p38, List.forall_mem_cons.mpr ⟨lw_p39, List.forall_mem_cons.mpr ⟨lw_p40, List.forall_mem_cons.mpr ⟨lw_p41, List.forall_mem_cons.mpr ⟨lw_p42, List.forall_mem_cons.mpr ⟨lw_p43, List.forall_mem_cons.mpr ⟨lw_p44, List.forall_mem_cons.mpr ⟨lw_p45, List.forall_mem_cons.mpr ⟨lw_p46, List.forall_mem_cons.mpr ⟨lw_p47, fun _ h => absurd h List.not_mem_nil⟩⟩⟩⟩⟩⟩⟩⟩⟩⟩⟩⟩⟩⟩⟩⟩
theorem lw_p48 : lw_okq (⟨"PotatoPrintsModel", "findWanted", "(I)V"⟩, 22) := ⟨⟨by decide +kernel, by decide +kernel⟩, List.mem_of_getElem? (i := 582) (by decide +kernel), List.mem_of_getElem? (i := 857) (by decide +kernel), List.mem_of_getElem? (i := 858) (by decide +kernel)⟩
theorem lw_p49 : lw_okq (⟨"PotatoPrintsModel", "canBe", "(II)Z"⟩, 22) := ⟨⟨by decide +kernel, by decide +kernel⟩, List.mem_of_getElem? (i := 582) (by decide +kernel), List.mem_of_getElem? (i := 887) (by decide +kernel), List.mem_of_getElem? (i := 888) (by decide +kernel)⟩
theorem lw_p50 : lw_okq (⟨"PotatoPrintsModel", "setFraction", "(JJ)V"⟩, 22) := ⟨⟨by decide +kernel, by decide +kernel⟩, List.mem_of_getElem? (i := 582) (by decide +kernel), List.mem_of_getElem? (i := 905) (by decide +kernel), List.mem_of_getElem? (i := 906) (by decide +kernel)⟩
theorem lw_p51 : lw_okq (⟨"PotatoPrintsModel", "draw", "(I)I"⟩, 22) := ⟨⟨by decide +kernel, by decide +kernel⟩, List.mem_of_getElem? (i := 582) (by decide +kernel), List.mem_of_getElem? (i := 915) (by decide +kernel), List.mem_of_getElem? (i := 916) (by decide +kernel)⟩
theorem lw_p52 : lw_okq (⟨"PotatoPrintsModel", "countOf", "(I)I"⟩, 22) := ⟨⟨by decide +kernel, by decide +kernel⟩, List.mem_of_getElem? (i := 582) (by decide +kernel), List.mem_of_getElem? (i := 944) (by decide +kernel), List.mem_of_getElem? (i := 945) (by decide +kernel)⟩
def lw_privs_4 : List (MethodName × Nat) := [(⟨"PotatoPrintsModel", "findWanted", "(I)V"⟩, 22), (⟨"PotatoPrintsModel", "canBe", "(II)Z"⟩, 22), (⟨"PotatoPrintsModel", "setFraction", "(JJ)V"⟩, 22), (⟨"PotatoPrintsModel", "draw", "(I)I"⟩, 22), (⟨"PotatoPrintsModel", "countOf", "(I)I"⟩, 22)]
theorem lw_r4 : ∀ q ∈ lw_privs_4, lw_okq q := List.forall_mem_cons.mpr ⟨lw_p48, List.forall_mem_cons.mpr ⟨lw_p49, List.forall_mem_cons.mpr ⟨lw_p50, List.forall_mem_cons.mpr ⟨lw_p51, List.forall_mem_cons.mpr ⟨lw_p52, fun _ h => absurd h List.not_mem_nil⟩⟩⟩⟩⟩
def lw_privs : List (MethodName × Nat) := lw_privs_1 ++ (lw_privs_2 ++ (lw_privs_3 ++ (lw_privs_4)))
def lw_tbl : List Cond := k2_sels lw_privs ++ tables_1
theorem lw_privs_ok : ∀ q ∈ lw_privs, lw_okq q := by
  show ∀ q ∈ lw_privs_1 ++ (lw_privs_2 ++ (lw_privs_3 ++ (lw_privs_4))), lw_okq q
  exact List.forall_mem_append.mpr ⟨lw_r1, List.forall_mem_append.mpr ⟨lw_r2, List.forall_mem_append.mpr ⟨lw_r3, lw_r4⟩⟩⟩

def RX0 : String := "PotatoPrints$Kind"
def TX0 : u_T := fun k => match k with
  | _ => ("", "", "", false)
def tyX0 : Nat → FieldType := fun k => match k with
  | _ => .int
theorem nmX0 : ∀ a, a < 0 → ∀ b, b < 0 → a ≠ b → (TX0 a).2.1 ≠ (TX0 b).2.1 := by decide +kernel
theorem tyX0_ok : ∀ k, k < 0 → parseFieldDescriptor (TX0 k).2.2.1 = some (tyX0 k) := by decide +kernel
abbrev cX0_darkness : ByteArray := prog_2_method_2_code
def yX0_darkness : MethodName := ⟨RX0, "darkness", "(II)I"⟩
abbrev cX0_isHard : ByteArray := prog_2_method_3_code
def yX0_isHard : MethodName := ⟨RX0, "isHard", "(I)Z"⟩
abbrev cX0_paintTaken : ByteArray := prog_2_method_4_code
def yX0_paintTaken : MethodName := ⟨RX0, "paintTaken", "(II)I"⟩
abbrev cX0_printsOfOneDip : ByteArray := prog_2_method_5_code
def yX0_printsOfOneDip : MethodName := ⟨RX0, "printsOfOneDip", "(III)I"⟩
abbrev cX0_slidColumn : ByteArray := prog_2_method_6_code
def yX0_slidColumn : MethodName := ⟨RX0, "slidColumn", "(III)I"⟩
abbrev cX0_fullCells : ByteArray := prog_2_method_7_code
def yX0_fullCells : MethodName := ⟨RX0, "fullCells", "(IIIII)J"⟩
abbrev cX0_halfCells : ByteArray := prog_2_method_8_code
def yX0_halfCells : MethodName := ⟨RX0, "halfCells", "(IIIII)J"⟩
abbrev cX0_inks : ByteArray := prog_2_method_9_code
def yX0_inks : MethodName := ⟨RX0, "inks", "(IIIIII)Z"⟩
def RX1 : String := "PotatoPrints$Shape"
def TX1 : u_T := fun k => match k with
  | _ => ("", "", "", false)
def tyX1 : Nat → FieldType := fun k => match k with
  | _ => .int
theorem nmX1 : ∀ a, a < 0 → ∀ b, b < 0 → a ≠ b → (TX1 a).2.1 ≠ (TX1 b).2.1 := by decide +kernel
theorem tyX1_ok : ∀ k, k < 0 → parseFieldDescriptor (TX1 k).2.2.1 = some (tyX1 k) := by decide +kernel
abbrev cX1_printed : ByteArray := prog_3_method_2_code
def yX1_printed : MethodName := ⟨RX1, "printed", "(II)I"⟩
abbrev cX1_mirrored : ByteArray := prog_3_method_3_code
def yX1_mirrored : MethodName := ⟨RX1, "mirrored", "(I)I"⟩
abbrev cX1_turnedOnce : ByteArray := prog_3_method_4_code
def yX1_turnedOnce : MethodName := ⟨RX1, "turnedOnce", "(I)I"⟩
abbrev cX1_shrunk : ByteArray := prog_3_method_5_code
def yX1_shrunk : MethodName := ⟨RX1, "shrunk", "(I)I"⟩
abbrev cX1_placed : ByteArray := prog_3_method_6_code
def yX1_placed : MethodName := ⟨RX1, "placed", "(III)J"⟩
abbrev cX1_isUp : ByteArray := prog_3_method_7_code
def yX1_isUp : MethodName := ⟨RX1, "isUp", "(III)Z"⟩
abbrev cX1_bitOf : ByteArray := prog_3_method_8_code
def yX1_bitOf : MethodName := ⟨RX1, "bitOf", "(II)I"⟩
def RX2 : String := "PotatoPrints$Table"
def TX2 : u_T := fun k => match k with
  | 0 => ("PotatoPrints$Table", "potatoes", "[I", true)
  | 1 => ("PotatoPrints$Table", "sheet", "[I", true)
  | 2 => ("PotatoPrints$Table", "paint", "I", false)
  | 3 => ("PotatoPrints$Table", "wanted", "[I", true)
  | 4 => ("PotatoPrints$Table", "wantedCount", "I", false)
  | 5 => ("PotatoPrints$Table", "seenCells", "[I", true)
  | 6 => ("PotatoPrints$Table", "seenInked", "[I", true)
  | 7 => ("PotatoPrints$Table", "seenCount", "I", false)
  | 8 => ("PotatoPrints$Table", "undoSheets", "[I", true)
  | 9 => ("PotatoPrints$Table", "undoPaints", "[I", true)
  | _ => ("PotatoPrints$Table", "undoCount", "I", false)
def tyX2 : Nat → FieldType := fun k => match k with
  | 0 => .array .int
  | 1 => .array .int
  | 2 => .int
  | 3 => .array .int
  | 4 => .int
  | 5 => .array .int
  | 6 => .array .int
  | 7 => .int
  | 8 => .array .int
  | 9 => .array .int
  | _ => .int
theorem nmX2 : ∀ a, a < 11 → ∀ b, b < 11 → a ≠ b → (TX2 a).2.1 ≠ (TX2 b).2.1 := by decide +kernel
theorem tyX2_ok : ∀ k, k < 11 → parseFieldDescriptor (TX2 k).2.2.1 = some (tyX2 k) := by decide +kernel
abbrev cX2_init : ByteArray := prog_4_method_1_code
def yX2_init : MethodName := ⟨RX2, "<init>", "()V"⟩
abbrev cX2_beginAnew : ByteArray := prog_4_method_2_code
def yX2_beginAnew : MethodName := ⟨RX2, "beginAnew", "(I)V"⟩
abbrev cX2_takeOver : ByteArray := prog_4_method_3_code
def yX2_takeOver : MethodName := ⟨RX2, "takeOver", "(LPotatoPrints$Table;)V"⟩
abbrev cX2_takeOverPrints : ByteArray := prog_4_method_4_code
def yX2_takeOverPrints : MethodName := ⟨RX2, "takeOverPrints", "(LPotatoPrints$Table;)V"⟩
abbrev cX2_remember : ByteArray := prog_4_method_5_code
def yX2_remember : MethodName := ⟨RX2, "remember", "()V"⟩
abbrev cX2_stepBack : ByteArray := prog_4_method_6_code
def yX2_stepBack : MethodName := ⟨RX2, "stepBack", "()V"⟩
abbrev cX2_putPrint : ByteArray := prog_4_method_7_code
def yX2_putPrint : MethodName := ⟨RX2, "putPrint", "(IIIII)I"⟩
abbrev cX2_darken : ByteArray := prog_4_method_8_code
def yX2_darken : MethodName := ⟨RX2, "darken", "(JI)I"⟩
abbrev cX2_darkCells : ByteArray := prog_4_method_9_code
def yX2_darkCells : MethodName := ⟨RX2, "darkCells", "()J"⟩
abbrev cX2_darknessInAll : ByteArray := prog_4_method_10_code
def yX2_darknessInAll : MethodName := ⟨RX2, "darknessInAll", "()I"⟩
abbrev cX2_wantedCells : ByteArray := prog_4_method_11_code
def yX2_wantedCells : MethodName := ⟨RX2, "wantedCells", "()J"⟩
abbrev cX2_seenCellsOf : ByteArray := prog_4_method_12_code
def yX2_seenCellsOf : MethodName := ⟨RX2, "seenCellsOf", "(I)J"⟩
def RX3 : String := "PotatoPrints$Text"
def TX3 : u_T := fun k => match k with
  | 0 => ("PotatoPrints$Text", "bytes", "[B", true)
  | 1 => ("PotatoPrints$Text", "length", "I", false)
  | 2 => ("PotatoPrints$Text", "start", "I", false)
  | 3 => ("PotatoPrints$Text", "end", "I", false)
  | 4 => ("PotatoPrints$Text", "token", "I", false)
  | 5 => ("PotatoPrints$Text", "value", "I", false)
  | _ => ("PotatoPrints$Text", "numbers", "[I", true)
def tyX3 : Nat → FieldType := fun k => match k with
  | 0 => .array .byte
  | 1 => .int
  | 2 => .int
  | 3 => .int
  | 4 => .int
  | 5 => .int
  | _ => .array .int
theorem nmX3 : ∀ a, a < 7 → ∀ b, b < 7 → a ≠ b → (TX3 a).2.1 ≠ (TX3 b).2.1 := by decide +kernel
theorem tyX3_ok : ∀ k, k < 7 → parseFieldDescriptor (TX3 k).2.2.1 = some (tyX3 k) := by decide +kernel
abbrev cX3_init : ByteArray := prog_5_method_1_code
def yX3_init : MethodName := ⟨RX3, "<init>", "()V"⟩
abbrev cX3_addByte : ByteArray := prog_5_method_2_code
def yX3_addByte : MethodName := ⟨RX3, "addByte", "(I)V"⟩
abbrev cX3_readInto : ByteArray := prog_5_method_3_code
def yX3_readInto : MethodName := ⟨RX3, "readInto", "(LPotatoPrints$Table;)I"⟩
abbrev cX3_limitsOf : ByteArray := prog_5_method_4_code
def yX3_limitsOf : MethodName := ⟨RX3, "limitsOf", "(I)[I"⟩
abbrev cX3_numbersStand : ByteArray := prog_5_method_5_code
def yX3_numbersStand : MethodName := ⟨RX3, "numbersStand", "([I)Z"⟩
abbrev cX3_putItem : ByteArray := prog_5_method_6_code
def yX3_putItem : MethodName := ⟨RX3, "putItem", "(ILPotatoPrints$Table;)V"⟩
abbrev cX3_nextToken : ByteArray := prog_5_method_7_code
def yX3_nextToken : MethodName := ⟨RX3, "nextToken", "()V"⟩
abbrev cX3_isWithin : ByteArray := prog_5_method_8_code
def yX3_isWithin : MethodName := ⟨RX3, "isWithin", "(ICC)Z"⟩
abbrev cX3_takeWord : ByteArray := prog_5_method_9_code
def yX3_takeWord : MethodName := ⟨RX3, "takeWord", "()V"⟩
abbrev cX3_isTheWord : ByteArray := prog_5_method_10_code
def yX3_isTheWord : MethodName := ⟨RX3, "isTheWord", "(Ljava/lang/String;)Z"⟩
abbrev cX3_takeNumber : ByteArray := prog_5_method_11_code
def yX3_takeNumber : MethodName := ⟨RX3, "takeNumber", "()V"⟩
def RX4 : String := "PotatoPrints"
def TX4 : u_T := fun k => match k with
  | 0 => ("PotatoPrints", "now", "LPotatoPrints$Table;", true)
  | 1 => ("PotatoPrints", "draft", "LPotatoPrints$Table;", true)
  | 2 => ("PotatoPrints", "images", "[LPotatoPrints$Table;", true)
  | 3 => ("PotatoPrints", "text", "LPotatoPrints$Text;", true)
  | 4 => ("PotatoPrints", "placed", "[J", true)
  | 5 => ("PotatoPrints", "above", "J", false)
  | 6 => ("PotatoPrints", "below", "J", false)
  | 7 => ("PotatoPrints", "badCalls", "I", false)
  | 8 => ("PotatoPrints", "noCalls", "I", false)
  | _ => ("PotatoPrints", "fullCalls", "I", false)
def tyX4 : Nat → FieldType := fun k => match k with
  | 0 => .object "PotatoPrints$Table"
  | 1 => .object "PotatoPrints$Table"
  | 2 => .array (.object "PotatoPrints$Table")
  | 3 => .object "PotatoPrints$Text"
  | 4 => .array .long
  | 5 => .long
  | 6 => .long
  | 7 => .int
  | 8 => .int
  | _ => .int
theorem nmX4 : ∀ a, a < 10 → ∀ b, b < 10 → a ≠ b → (TX4 a).2.1 ≠ (TX4 b).2.1 := by decide +kernel
theorem tyX4_ok : ∀ k, k < 10 → parseFieldDescriptor (TX4 k).2.2.1 = some (tyX4 k) := by decide +kernel
abbrev cX4_init : ByteArray := prog_1_method_1_code
def yX4_init : MethodName := ⟨RX4, "<init>", "()V"⟩
abbrev cX4_table : ByteArray := prog_1_method_2_code
def yX4_table : MethodName := ⟨RX4, "table", "(I)I"⟩
abbrev cX4_cut : ByteArray := prog_1_method_3_code
def yX4_cut : MethodName := ⟨RX4, "cut", "(II)I"⟩
abbrev cX4_dip : ByteArray := prog_1_method_4_code
def yX4_dip : MethodName := ⟨RX4, "dip", "(I)I"⟩
abbrev cX4_print : ByteArray := prog_1_method_5_code
def yX4_print : MethodName := ⟨RX4, "print", "(IIIII)I"⟩
abbrev cX4_undo : ByteArray := prog_1_method_6_code
def yX4_undo : MethodName := ⟨RX4, "undo", "()I"⟩
abbrev cX4_type : ByteArray := prog_1_method_7_code
def yX4_type : MethodName := ⟨RX4, "type", "(I)I"⟩
abbrev cX4_clear : ByteArray := prog_1_method_8_code
def yX4_clear : MethodName := ⟨RX4, "clear", "()I"⟩
abbrev cX4_read : ByteArray := prog_1_method_9_code
def yX4_read : MethodName := ⟨RX4, "read", "()I"⟩
abbrev cX4_dark : ByteArray := prog_1_method_10_code
def yX4_dark : MethodName := ⟨RX4, "dark", "(II)I"⟩
abbrev cX4_looks : ByteArray := prog_1_method_11_code
def yX4_looks : MethodName := ⟨RX4, "looks", "(II)I"⟩
abbrev cX4_alike : ByteArray := prog_1_method_12_code
def yX4_alike : MethodName := ⟨RX4, "alike", "(I)I"⟩
abbrev cX4_adds : ByteArray := prog_1_method_13_code
def yX4_adds : MethodName := ⟨RX4, "adds", "(IIIII)I"⟩
abbrev cX4_force : ByteArray := prog_1_method_14_code
def yX4_force : MethodName := ⟨RX4, "force", "(III)I"⟩
abbrev cX4_fromOne : ByteArray := prog_1_method_15_code
def yX4_fromOne : MethodName := ⟨RX4, "fromOne", "(III)I"⟩
abbrev cX4_dips : ByteArray := prog_1_method_16_code
def yX4_dips : MethodName := ⟨RX4, "dips", "(IIII)I"⟩
abbrev cX4_edge : ByteArray := prog_1_method_17_code
def yX4_edge : MethodName := ⟨RX4, "edge", "(III)I"⟩
abbrev cX4_gap : ByteArray := prog_1_method_18_code
def yX4_gap : MethodName := ⟨RX4, "gap", "(I)I"⟩
abbrev cX4_hit : ByteArray := prog_1_method_19_code
def yX4_hit : MethodName := ⟨RX4, "hit", "(II)I"⟩
abbrev cX4_want : ByteArray := prog_1_method_20_code
def yX4_want : MethodName := ⟨RX4, "want", "(II)I"⟩
abbrev cX4_cover : ByteArray := prog_1_method_21_code
def yX4_cover : MethodName := ⟨RX4, "cover", "(II)I"⟩
abbrev cX4_shrinks : ByteArray := prog_1_method_22_code
def yX4_shrinks : MethodName := ⟨RX4, "shrinks", "(II)I"⟩
abbrev cX4_gone : ByteArray := prog_1_method_23_code
def yX4_gone : MethodName := ⟨RX4, "gone", "(I)I"⟩
abbrev cX4_seen : ByteArray := prog_1_method_24_code
def yX4_seen : MethodName := ⟨RX4, "seen", "(III)I"⟩
abbrev cX4_forget : ByteArray := prog_1_method_25_code
def yX4_forget : MethodName := ⟨RX4, "forget", "(I)I"⟩
abbrev cX4_which : ByteArray := prog_1_method_26_code
def yX4_which : MethodName := ⟨RX4, "which", "(II)I"⟩
abbrev cX4_look : ByteArray := prog_1_method_27_code
def yX4_look : MethodName := ⟨RX4, "look", "(I)I"⟩
abbrev cX4_bitten : ByteArray := prog_1_method_28_code
def yX4_bitten : MethodName := ⟨RX4, "bitten", "(IIIII)I"⟩
abbrev cX4_slips : ByteArray := prog_1_method_29_code
def yX4_slips : MethodName := ⟨RX4, "slips", "(IIIIIII)I"⟩
abbrev cX4_sheets : ByteArray := prog_1_method_30_code
def yX4_sheets : MethodName := ⟨RX4, "sheets", "(II)I"⟩
abbrev cX4_part : ByteArray := prog_1_method_31_code
def yX4_part : MethodName := ⟨RX4, "part", "(I)J"⟩
abbrev cX4_image : ByteArray := prog_1_method_32_code
def yX4_image : MethodName := ⟨RX4, "image", "(I)I"⟩
abbrev cX4_from : ByteArray := prog_1_method_33_code
def yX4_from : MethodName := ⟨RX4, "from", "(I)I"⟩
abbrev cX4_status : ByteArray := prog_1_method_34_code
def yX4_status : MethodName := ⟨RX4, "status", "(I)I"⟩
abbrev cX4_count : ByteArray := prog_1_method_35_code
def yX4_count : MethodName := ⟨RX4, "count", "(I)I"⟩
abbrev cX4_digest : ByteArray := prog_1_method_36_code
def yX4_digest : MethodName := ⟨RX4, "digest", "()J"⟩
abbrev cX4_refuseBad : ByteArray := prog_1_method_37_code
def yX4_refuseBad : MethodName := ⟨RX4, "refuseBad", "(I)I"⟩
abbrev cX4_refuseNo : ByteArray := prog_1_method_38_code
def yX4_refuseNo : MethodName := ⟨RX4, "refuseNo", "()I"⟩
abbrev cX4_refuseFull : ByteArray := prog_1_method_39_code
def yX4_refuseFull : MethodName := ⟨RX4, "refuseFull", "()I"⟩
abbrev cX4_within : ByteArray := prog_1_method_40_code
def yX4_within : MethodName := ⟨RX4, "within", "(III)Z"⟩
abbrev cX4_isPlace : ByteArray := prog_1_method_41_code
def yX4_isPlace : MethodName := ⟨RX4, "isPlace", "(II)Z"⟩
abbrev cX4_isPrint : ByteArray := prog_1_method_42_code
def yX4_isPrint : MethodName := ⟨RX4, "isPrint", "(IIIII)Z"⟩
abbrev cX4_isDip : ByteArray := prog_1_method_43_code
def yX4_isDip : MethodName := ⟨RX4, "isDip", "(II)Z"⟩
abbrev cX4_wholePrints : ByteArray := prog_1_method_44_code
def yX4_wholePrints : MethodName := ⟨RX4, "wholePrints", "(II)I"⟩
abbrev cX4_leftOfEdge : ByteArray := prog_1_method_45_code
def yX4_leftOfEdge : MethodName := ⟨RX4, "leftOfEdge", "(II)I"⟩
abbrev cX4_placeEverywhere : ByteArray := prog_1_method_46_code
def yX4_placeEverywhere : MethodName := ⟨RX4, "placeEverywhere", "(I)V"⟩
abbrev cX4_placingNumber : ByteArray := prog_1_method_47_code
def yX4_placingNumber : MethodName := ⟨RX4, "placingNumber", "(I)I"⟩
abbrev cX4_isWhollyOnSheet : ByteArray := prog_1_method_48_code
def yX4_isWhollyOnSheet : MethodName := ⟨RX4, "isWhollyOnSheet", "(I)Z"⟩
abbrev cX4_firstCovering : ByteArray := prog_1_method_49_code
def yX4_firstCovering : MethodName := ⟨RX4, "firstCovering", "(J)I"⟩
abbrev cX4_firstOfTwoCovering : ByteArray := prog_1_method_50_code
def yX4_firstOfTwoCovering : MethodName := ⟨RX4, "firstOfTwoCovering", "(J)I"⟩
abbrev cX4_fits : ByteArray := prog_1_method_51_code
def yX4_fits : MethodName := ⟨RX4, "fits", "(JJJ)Z"⟩
abbrev cX4_keepFitting : ByteArray := prog_1_method_52_code
def yX4_keepFitting : MethodName := ⟨RX4, "keepFitting", "()I"⟩
abbrev cX4_howManyInk : ByteArray := prog_1_method_53_code
def yX4_howManyInk : MethodName := ⟨RX4, "howManyInk", "(II)I"⟩
abbrev cX4_cutAway : ByteArray := prog_1_method_54_code
def yX4_cutAway : MethodName := ⟨RX4, "cutAway", "(IIII)I"⟩
abbrev cX4_setFraction : ByteArray := prog_1_method_55_code
def yX4_setFraction : MethodName := ⟨RX4, "setFraction", "(JJ)V"⟩
abbrev cX4_nextNumber : ByteArray := prog_1_method_56_code
def yX4_nextNumber : MethodName := ⟨RX4, "nextNumber", "(J)J"⟩
abbrev cX4_drawn : ByteArray := prog_1_method_57_code
def yX4_drawn : MethodName := ⟨RX4, "drawn", "(JI)I"⟩
abbrev cX4_howMany : ByteArray := prog_1_method_58_code
def yX4_howMany : MethodName := ⟨RX4, "howMany", "(I)I"⟩
def RX5 : String := "PotatoPrintsModel"
def TX5 : u_T := fun k => match k with
  | 0 => ("PotatoPrintsModel", "st", "[I", true)
  | 1 => ("PotatoPrintsModel", "above", "J", false)
  | 2 => ("PotatoPrintsModel", "below", "J", false)
  | 3 => ("PotatoPrintsModel", "refused", "[I", true)
  | 4 => ("PotatoPrintsModel", "inks", "[I", true)
  | 5 => ("PotatoPrintsModel", "ahead", "[I", true)
  | 6 => ("PotatoPrintsModel", "undoMany", "I", false)
  | 7 => ("PotatoPrintsModel", "text", "[I", true)
  | 8 => ("PotatoPrintsModel", "bytes", "I", false)
  | 9 => ("PotatoPrintsModel", "place", "I", false)
  | 10 => ("PotatoPrintsModel", "token", "I", false)
  | 11 => ("PotatoPrintsModel", "value", "I", false)
  | 12 => ("PotatoPrintsModel", "begins", "I", false)
  | 13 => ("PotatoPrintsModel", "rows", "[I", true)
  | 14 => ("PotatoPrintsModel", "wanted", "[I", true)
  | 15 => ("PotatoPrintsModel", "inked", "[I", true)
  | 16 => ("PotatoPrintsModel", "aside", "[I", true)
  | 17 => ("PotatoPrintsModel", "drawn", "J", false)
  | 18 => ("PotatoPrintsModel", "isKept", "[Z", true)
  | 19 => ("PotatoPrintsModel", "kept", "[I", true)
  | 20 => ("PotatoPrintsModel", "keptAhead", "[I", true)
  | _ => ("PotatoPrintsModel", "keptMany", "[I", true)
def tyX5 : Nat → FieldType := fun k => match k with
  | 0 => .array .int
  | 1 => .long
  | 2 => .long
  | 3 => .array .int
  | 4 => .array .int
  | 5 => .array .int
  | 6 => .int
  | 7 => .array .int
  | 8 => .int
  | 9 => .int
  | 10 => .int
  | 11 => .int
  | 12 => .int
  | 13 => .array .int
  | 14 => .array .int
  | 15 => .array .int
  | 16 => .array .int
  | 17 => .long
  | 18 => .array .boolean
  | 19 => .array .int
  | 20 => .array .int
  | _ => .array .int
theorem nmX5 : ∀ a, a < 22 → ∀ b, b < 22 → a ≠ b → (TX5 a).2.1 ≠ (TX5 b).2.1 := by decide +kernel
theorem tyX5_ok : ∀ k, k < 22 → parseFieldDescriptor (TX5 k).2.2.1 = some (tyX5 k) := by decide +kernel
abbrev cX5_init : ByteArray := prog_7_method_1_code
def yX5_init : MethodName := ⟨RX5, "<init>", "()V"⟩
abbrev cX5_in : ByteArray := prog_7_method_2_code
def yX5_in : MethodName := ⟨RX5, "in", "(JJJ)Z"⟩
abbrev cX5_has : ByteArray := prog_7_method_3_code
def yX5_has : MethodName := ⟨RX5, "has", "(II)Z"⟩
abbrev cX5_bad : ByteArray := prog_7_method_5_code
def yX5_bad : MethodName := ⟨RX5, "bad", "()I"⟩
abbrev cX5_no : ByteArray := prog_7_method_6_code
def yX5_no : MethodName := ⟨RX5, "no", "()I"⟩
abbrev cX5_full : ByteArray := prog_7_method_7_code
def yX5_full : MethodName := ⟨RX5, "full", "()I"⟩
abbrev cX5_isWhat : ByteArray := prog_7_method_8_code
def yX5_isWhat : MethodName := ⟨RX5, "isWhat", "(I)Z"⟩
abbrev cX5_isPlace : ByteArray := prog_7_method_9_code
def yX5_isPlace : MethodName := ⟨RX5, "isPlace", "(II)Z"⟩
abbrev cX5_isPrint : ByteArray := prog_7_method_10_code
def yX5_isPrint : MethodName := ⟨RX5, "isPrint", "(IIIII)Z"⟩
abbrev cX5_lands : ByteArray := prog_7_method_11_code
def yX5_lands : MethodName := ⟨RX5, "lands", "(II)I"⟩
abbrev cX5_looksOf : ByteArray := prog_7_method_12_code
def yX5_looksOf : MethodName := ⟨RX5, "looksOf", "(II)I"⟩
abbrev cX5_plain : ByteArray := prog_7_method_13_code
def yX5_plain : MethodName := ⟨RX5, "plain", "(I)I"⟩
abbrev cX5_darkBy : ByteArray := prog_7_method_14_code
def yX5_darkBy : MethodName := ⟨RX5, "darkBy", "(II)I"⟩
abbrev cX5_takesBy : ByteArray := prog_7_method_15_code
def yX5_takesBy : MethodName := ⟨RX5, "takesBy", "(II)I"⟩
abbrev cX5_layLooks : ByteArray := prog_7_method_16_code
def yX5_layLooks : MethodName := ⟨RX5, "layLooks", "(IIIIZ)V"⟩
abbrev cX5_inkBy : ByteArray := prog_7_method_17_code
def yX5_inkBy : MethodName := ⟨RX5, "inkBy", "(IIIII)V"⟩
abbrev cX5_darker : ByteArray := prog_7_method_18_code
def yX5_darker : MethodName := ⟨RX5, "darker", "()I"⟩
abbrev cX5_printOne : ByteArray := prog_7_method_19_code
def yX5_printOne : MethodName := ⟨RX5, "printOne", "(IIIII)I"⟩
abbrev cX5_darkMany : ByteArray := prog_7_method_20_code
def yX5_darkMany : MethodName := ⟨RX5, "darkMany", "()I"⟩
abbrev cX5_anew : ByteArray := prog_7_method_21_code
def yX5_anew : MethodName := ⟨RX5, "anew", "(I)V"⟩
abbrev cX5_table : ByteArray := prog_7_method_22_code
def yX5_table : MethodName := ⟨RX5, "table", "(I)I"⟩
abbrev cX5_cut : ByteArray := prog_7_method_23_code
def yX5_cut : MethodName := ⟨RX5, "cut", "(II)I"⟩
abbrev cX5_note : ByteArray := prog_7_method_24_code
def yX5_note : MethodName := ⟨RX5, "note", "()V"⟩
abbrev cX5_dip : ByteArray := prog_7_method_25_code
def yX5_dip : MethodName := ⟨RX5, "dip", "(I)I"⟩
abbrev cX5_print : ByteArray := prog_7_method_26_code
def yX5_print : MethodName := ⟨RX5, "print", "(IIIII)I"⟩
abbrev cX5_undo : ByteArray := prog_7_method_27_code
def yX5_undo : MethodName := ⟨RX5, "undo", "()I"⟩
abbrev cX5_type : ByteArray := prog_7_method_28_code
def yX5_type : MethodName := ⟨RX5, "type", "(I)I"⟩
abbrev cX5_clear : ByteArray := prog_7_method_29_code
def yX5_clear : MethodName := ⟨RX5, "clear", "()I"⟩
abbrev cX5_byteAt : ByteArray := prog_7_method_30_code
def yX5_byteAt : MethodName := ⟨RX5, "byteAt", "(I)I"⟩
abbrev cX5_nextToken : ByteArray := prog_7_method_31_code
def yX5_nextToken : MethodName := ⟨RX5, "nextToken", "()V"⟩
abbrev cX5_isWord : ByteArray := prog_7_method_32_code
def yX5_isWord : MethodName := ⟨RX5, "isWord", "(IIIIII)Z"⟩
abbrev cX5_reads : ByteArray := prog_7_method_33_code
def yX5_reads : MethodName := ⟨RX5, "reads", "(II)Z"⟩
abbrev cX5_readItem : ByteArray := prog_7_method_34_code
def yX5_readItem : MethodName := ⟨RX5, "readItem", "(ZZ)Z"⟩
abbrev cX5_readText : ByteArray := prog_7_method_35_code
def yX5_readText : MethodName := ⟨RX5, "readText", "(Z)I"⟩
abbrev cX5_read : ByteArray := prog_7_method_36_code
def yX5_read : MethodName := ⟨RX5, "read", "()I"⟩
abbrev cX5_dark : ByteArray := prog_7_method_37_code
def yX5_dark : MethodName := ⟨RX5, "dark", "(II)I"⟩
abbrev cX5_looks : ByteArray := prog_7_method_38_code
def yX5_looks : MethodName := ⟨RX5, "looks", "(II)I"⟩
abbrev cX5_alike : ByteArray := prog_7_method_39_code
def yX5_alike : MethodName := ⟨RX5, "alike", "(I)I"⟩
abbrev cX5_adds : ByteArray := prog_7_method_40_code
def yX5_adds : MethodName := ⟨RX5, "adds", "(IIIII)I"⟩
abbrev cX5_force : ByteArray := prog_7_method_41_code
def yX5_force : MethodName := ⟨RX5, "force", "(III)I"⟩
abbrev cX5_printsOf : ByteArray := prog_7_method_42_code
def yX5_printsOf : MethodName := ⟨RX5, "printsOf", "(III)I"⟩
abbrev cX5_fromOne : ByteArray := prog_7_method_43_code
def yX5_fromOne : MethodName := ⟨RX5, "fromOne", "(III)I"⟩
abbrev cX5_dips : ByteArray := prog_7_method_44_code
def yX5_dips : MethodName := ⟨RX5, "dips", "(IIII)I"⟩
abbrev cX5_leftOf : ByteArray := prog_7_method_45_code
def yX5_leftOf : MethodName := ⟨RX5, "leftOf", "(II)I"⟩
abbrev cX5_edge : ByteArray := prog_7_method_46_code
def yX5_edge : MethodName := ⟨RX5, "edge", "(III)I"⟩
abbrev cX5_gap : ByteArray := prog_7_method_47_code
def yX5_gap : MethodName := ⟨RX5, "gap", "(I)I"⟩
abbrev cX5_covers : ByteArray := prog_7_method_48_code
def yX5_covers : MethodName := ⟨RX5, "covers", "(IIII)Z"⟩
abbrev cX5_numberOf : ByteArray := prog_7_method_49_code
def yX5_numberOf : MethodName := ⟨RX5, "numberOf", "(III)I"⟩
abbrev cX5_hit : ByteArray := prog_7_method_50_code
def yX5_hit : MethodName := ⟨RX5, "hit", "(II)I"⟩
abbrev cX5_want : ByteArray := prog_7_method_51_code
def yX5_want : MethodName := ⟨RX5, "want", "(II)I"⟩
abbrev cX5_findWanted : ByteArray := prog_7_method_52_code
def yX5_findWanted : MethodName := ⟨RX5, "findWanted", "(I)V"⟩
abbrev cX5_numberBy : ByteArray := prog_7_method_53_code
def yX5_numberBy : MethodName := ⟨RX5, "numberBy", "(I)I"⟩
abbrev cX5_cover : ByteArray := prog_7_method_54_code
def yX5_cover : MethodName := ⟨RX5, "cover", "(II)I"⟩
abbrev cX5_shrunk : ByteArray := prog_7_method_55_code
def yX5_shrunk : MethodName := ⟨RX5, "shrunk", "(I)I"⟩
abbrev cX5_shrinks : ByteArray := prog_7_method_56_code
def yX5_shrinks : MethodName := ⟨RX5, "shrinks", "(II)I"⟩
abbrev cX5_gone : ByteArray := prog_7_method_57_code
def yX5_gone : MethodName := ⟨RX5, "gone", "(I)I"⟩
abbrev cX5_seen : ByteArray := prog_7_method_58_code
def yX5_seen : MethodName := ⟨RX5, "seen", "(III)I"⟩
abbrev cX5_forget : ByteArray := prog_7_method_59_code
def yX5_forget : MethodName := ⟨RX5, "forget", "(I)I"⟩
abbrev cX5_canBe : ByteArray := prog_7_method_60_code
def yX5_canBe : MethodName := ⟨RX5, "canBe", "(II)Z"⟩
abbrev cX5_which : ByteArray := prog_7_method_61_code
def yX5_which : MethodName := ⟨RX5, "which", "(II)I"⟩
abbrev cX5_look : ByteArray := prog_7_method_62_code
def yX5_look : MethodName := ⟨RX5, "look", "(I)I"⟩
abbrev cX5_bitten : ByteArray := prog_7_method_63_code
def yX5_bitten : MethodName := ⟨RX5, "bitten", "(IIIII)I"⟩
abbrev cX5_setFraction : ByteArray := prog_7_method_64_code
def yX5_setFraction : MethodName := ⟨RX5, "setFraction", "(JJ)V"⟩
abbrev cX5_slips : ByteArray := prog_7_method_65_code
def yX5_slips : MethodName := ⟨RX5, "slips", "(IIIIIII)I"⟩
abbrev cX5_draw : ByteArray := prog_7_method_66_code
def yX5_draw : MethodName := ⟨RX5, "draw", "(I)I"⟩
abbrev cX5_sheets : ByteArray := prog_7_method_67_code
def yX5_sheets : MethodName := ⟨RX5, "sheets", "(II)I"⟩
abbrev cX5_part : ByteArray := prog_7_method_68_code
def yX5_part : MethodName := ⟨RX5, "part", "(I)J"⟩
abbrev cX5_image : ByteArray := prog_7_method_69_code
def yX5_image : MethodName := ⟨RX5, "image", "(I)I"⟩
abbrev cX5_from : ByteArray := prog_7_method_70_code
def yX5_from : MethodName := ⟨RX5, "from", "(I)I"⟩
abbrev cX5_status : ByteArray := prog_7_method_71_code
def yX5_status : MethodName := ⟨RX5, "status", "(I)I"⟩
abbrev cX5_countOf : ByteArray := prog_7_method_72_code
def yX5_countOf : MethodName := ⟨RX5, "countOf", "(I)I"⟩
abbrev cX5_count : ByteArray := prog_7_method_73_code
def yX5_count : MethodName := ⟨RX5, "count", "(I)I"⟩
abbrev cX5_digest : ByteArray := prog_7_method_74_code
def yX5_digest : MethodName := ⟨RX5, "digest", "()J"⟩
def RJx145de : String := "java/io/Serializable"
def TJx145de : u_T := fun k => match k with
  | _ => ("", "", "", false)
def tyJx145de : Nat → FieldType := fun k => match k with
  | _ => .int
theorem nmJx145de : ∀ a, a < 0 → ∀ b, b < 0 → a ≠ b → (TJx145de a).2.1 ≠ (TJx145de b).2.1 := by decide +kernel
theorem tyJx145de_ok : ∀ k, k < 0 → parseFieldDescriptor (TJx145de k).2.2.1 = some (tyJx145de k) := by decide +kernel
def RJx9f9b0 : String := "java/lang/CharSequence"
def TJx9f9b0 : u_T := fun k => match k with
  | _ => ("", "", "", false)
def tyJx9f9b0 : Nat → FieldType := fun k => match k with
  | _ => .int
theorem nmJx9f9b0 : ∀ a, a < 0 → ∀ b, b < 0 → a ≠ b → (TJx9f9b0 a).2.1 ≠ (TJx9f9b0 b).2.1 := by decide +kernel
theorem tyJx9f9b0_ok : ∀ k, k < 0 → parseFieldDescriptor (TJx9f9b0 k).2.2.1 = some (tyJx9f9b0 k) := by decide +kernel
def RJxb160c : String := "java/lang/Comparable"
def TJxb160c : u_T := fun k => match k with
  | _ => ("", "", "", false)
def tyJxb160c : Nat → FieldType := fun k => match k with
  | _ => .int
theorem nmJxb160c : ∀ a, a < 0 → ∀ b, b < 0 → a ≠ b → (TJxb160c a).2.1 ≠ (TJxb160c b).2.1 := by decide +kernel
theorem tyJxb160c_ok : ∀ k, k < 0 → parseFieldDescriptor (TJxb160c k).2.2.1 = some (tyJxb160c k) := by decide +kernel
def RJ13 : String := "java/lang/Long"
def TJ13 : u_T := fun k => match k with
  | _ => ("", "", "", false)
def tyJ13 : Nat → FieldType := fun k => match k with
  | _ => .int
theorem nmJ13 : ∀ a, a < 0 → ∀ b, b < 0 → a ≠ b → (TJ13 a).2.1 ≠ (TJ13 b).2.1 := by decide +kernel
theorem tyJ13_ok : ∀ k, k < 0 → parseFieldDescriptor (TJ13 k).2.2.1 = some (tyJ13 k) := by decide +kernel
abbrev cJ13_bitCount_95d88 : ByteArray := prog_8_method_50_code
def yJ13_bitCount_95d88 : MethodName := ⟨RJ13, "bitCount", "(J)I"⟩
def RJ9 : String := "java/lang/Math"
def TJ9 : u_T := fun k => match k with
  | _ => ("", "", "", false)
def tyJ9 : Nat → FieldType := fun k => match k with
  | _ => .int
theorem nmJ9 : ∀ a, a < 0 → ∀ b, b < 0 → a ≠ b → (TJ9 a).2.1 ≠ (TJ9 b).2.1 := by decide +kernel
theorem tyJ9_ok : ∀ k, k < 0 → parseFieldDescriptor (TJ9 k).2.2.1 = some (tyJ9 k) := by decide +kernel
abbrev cJ9_max_7cf53 : ByteArray := prog_9_method_65_code
def yJ9_max_7cf53 : MethodName := ⟨RJ9, "max", "(II)I"⟩
abbrev cJ9_min_7cf53 : ByteArray := prog_9_method_69_code
def yJ9_min_7cf53 : MethodName := ⟨RJ9, "min", "(II)I"⟩
def RJ0 : String := "java/lang/String"
def TJ0 : u_T := fun k => match k with
  | _ => ("", "", "", false)
def tyJ0 : Nat → FieldType := fun k => match k with
  | _ => .int
theorem nmJ0 : ∀ a, a < 0 → ∀ b, b < 0 → a ≠ b → (TJ0 a).2.1 ≠ (TJ0 b).2.1 := by decide +kernel
theorem tyJ0_ok : ∀ k, k < 0 → parseFieldDescriptor (TJ0 k).2.2.1 = some (tyJ0 k) := by decide +kernel
abbrev cJ0_length_8abf5 : ByteArray := prog_10_method_54_code
def yJ0_length_8abf5 : MethodName := ⟨RJ0, "length", "()I"⟩
abbrev cJ0_charAt_5068e : ByteArray := prog_10_method_56_code
def yJ0_charAt_5068e : MethodName := ⟨RJ0, "charAt", "(I)C"⟩
abbrev cJ0_coder_7d493 : ByteArray := prog_10_method_152_code
def yJ0_coder_7d493 : MethodName := ⟨RJ0, "coder", "()B"⟩
abbrev cJ0_isLatin1_aae02 : ByteArray := prog_10_method_154_code
def yJ0_isLatin1_aae02 : MethodName := ⟨RJ0, "isLatin1", "()Z"⟩
abbrev cJ0_checkIndex_df160 : ByteArray := prog_10_method_155_code
def yJ0_checkIndex_df160 : MethodName := ⟨RJ0, "checkIndex", "(II)V"⟩
def RJ1 : String := "java/lang/StringLatin1"
def TJ1 : u_T := fun k => match k with
  | _ => ("", "", "", false)
def tyJ1 : Nat → FieldType := fun k => match k with
  | _ => .int
theorem nmJ1 : ∀ a, a < 0 → ∀ b, b < 0 → a ≠ b → (TJ1 a).2.1 ≠ (TJ1 b).2.1 := by decide +kernel
theorem tyJ1_ok : ∀ k, k < 0 → parseFieldDescriptor (TJ1 k).2.2.1 = some (tyJ1 k) := by decide +kernel
abbrev cJ1_charAt_3b067 : ByteArray := prog_11_method_2_code
def yJ1_charAt_3b067 : MethodName := ⟨RJ1, "charAt", "([BI)C"⟩
def RJ2 : String := "java/lang/StringUTF16"
def TJ2 : u_T := fun k => match k with
  | _ => ("", "", "", false)
def tyJ2 : Nat → FieldType := fun k => match k with
  | _ => .int
theorem nmJ2 : ∀ a, a < 0 → ∀ b, b < 0 → a ≠ b → (TJ2 a).2.1 ≠ (TJ2 b).2.1 := by decide +kernel
theorem tyJ2_ok : ∀ k, k < 0 → parseFieldDescriptor (TJ2 k).2.2.1 = some (tyJ2 k) := by decide +kernel
abbrev cJ2_getChar_3b067 : ByteArray := prog_12_method_5_code
def yJ2_getChar_3b067 : MethodName := ⟨RJ2, "getChar", "([BI)C"⟩
abbrev cJ2_length_9d52b : ByteArray := prog_12_method_6_code
def yJ2_length_9d52b : MethodName := ⟨RJ2, "length", "([B)I"⟩
abbrev cJ2_charAt_3b067 : ByteArray := prog_12_method_83_code
def yJ2_charAt_3b067 : MethodName := ⟨RJ2, "charAt", "([BI)C"⟩
abbrev cJ2_checkIndex_2214a : ByteArray := prog_12_method_91_code
def yJ2_checkIndex_2214a : MethodName := ⟨RJ2, "checkIndex", "(I[B)V"⟩
def RJ10 : String := "java/lang/System"
def TJ10 : u_T := fun k => match k with
  | _ => ("", "", "", false)
def tyJ10 : Nat → FieldType := fun k => match k with
  | _ => .int
theorem nmJ10 : ∀ a, a < 0 → ∀ b, b < 0 → a ≠ b → (TJ10 a).2.1 ≠ (TJ10 b).2.1 := by decide +kernel
theorem tyJ10_ok : ∀ k, k < 0 → parseFieldDescriptor (TJ10 k).2.2.1 = some (tyJ10 k) := by decide +kernel
def RJxfd54e : String := "java/lang/constant/Constable"
def TJxfd54e : u_T := fun k => match k with
  | _ => ("", "", "", false)
def tyJxfd54e : Nat → FieldType := fun k => match k with
  | _ => .int
theorem nmJxfd54e : ∀ a, a < 0 → ∀ b, b < 0 → a ≠ b → (TJxfd54e a).2.1 ≠ (TJxfd54e b).2.1 := by decide +kernel
theorem tyJxfd54e_ok : ∀ k, k < 0 → parseFieldDescriptor (TJxfd54e k).2.2.1 = some (tyJxfd54e k) := by decide +kernel
def RJx3cf43 : String := "java/lang/constant/ConstantDesc"
def TJx3cf43 : u_T := fun k => match k with
  | _ => ("", "", "", false)
def tyJx3cf43 : Nat → FieldType := fun k => match k with
  | _ => .int
theorem nmJx3cf43 : ∀ a, a < 0 → ∀ b, b < 0 → a ≠ b → (TJx3cf43 a).2.1 ≠ (TJx3cf43 b).2.1 := by decide +kernel
theorem tyJx3cf43_ok : ∀ k, k < 0 → parseFieldDescriptor (TJx3cf43 k).2.2.1 = some (tyJx3cf43 k) := by decide +kernel
def RJ7 : String := "java/util/Arrays"
def TJ7 : u_T := fun k => match k with
  | _ => ("", "", "", false)
def tyJ7 : Nat → FieldType := fun k => match k with
  | _ => .int
theorem nmJ7 : ∀ a, a < 0 → ∀ b, b < 0 → a ≠ b → (TJ7 a).2.1 ≠ (TJ7 b).2.1 := by decide +kernel
theorem tyJ7_ok : ∀ k, k < 0 → parseFieldDescriptor (TJ7 k).2.2.1 = some (tyJ7 k) := by decide +kernel
abbrev cJ7_fill_53178 : ByteArray := prog_14_method_103_code
def yJ7_fill_53178 : MethodName := ⟨RJ7, "fill", "([II)V"⟩
def RJ3 : String := "jdk/internal/util/Preconditions"
def TJ3 : u_T := fun k => match k with
  | _ => ("", "", "", false)
def tyJ3 : Nat → FieldType := fun k => match k with
  | _ => .int
theorem nmJ3 : ∀ a, a < 0 → ∀ b, b < 0 → a ≠ b → (TJ3 a).2.1 ≠ (TJ3 b).2.1 := by decide +kernel
theorem tyJ3_ok : ∀ k, k < 0 → parseFieldDescriptor (TJ3 k).2.2.1 = some (tyJ3 k) := by decide +kernel
abbrev cJ3_checkIndex_8e157 : ByteArray := prog_15_method_11_code
def yJ3_checkIndex_8e157 : MethodName := ⟨RJ3, "checkIndex", "(IILjava/util/function/BiFunction;)I"⟩
def RL : String := "PotatoPrintsLaw"
abbrev cL_law : ByteArray := code
def yL_law : MethodName := ⟨RL, "law", "([I)Z"⟩
abbrev vwCl : List vw_C := [(RX2, TX2, 11), (RX3, TX3, 7), (RX4, TX4, 10), (RX5, TX5, 22)]
