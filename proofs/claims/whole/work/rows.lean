section
-- ===== PART A: goes FIRST, ahead of the names: the tables' words, and 'selects' of the private methods out of them =====
/-- a private method of a class that the tables say can be made, by its rows of tables_1 -/
def lw_okq (q : MethodName × Nat) : Prop := (q.1.cls ≠ "java/lang/invoke/MethodHandle" ∧ q.1.cls ≠ "java/lang/invoke/VarHandle") ∧ Cond.instantiable q.1.cls q.2 ∈ tables_1 ∧ Cond.privateMethod q.1 ∈ tables_1 ∧ Cond.instanceMethod q.1 ∈ tables_1
theorem lw_p0 : lw_okq (⟨"PotatoPrints", "refuseBad", "(I)I"⟩, 10) := ⟨⟨by decide +kernel, by decide +kernel⟩, List.mem_of_getElem? (i := 16) (by decide +kernel), List.mem_of_getElem? (i := 145) (by decide +kernel), List.mem_of_getElem? (i := 146) (by decide +kernel)⟩
theorem lw_p1 : lw_okq (⟨"PotatoPrints$Table", "darkCells", "()J"⟩, 11) := ⟨⟨by decide +kernel, by decide +kernel⟩, List.mem_of_getElem? (i := 24) (by decide +kernel), List.mem_of_getElem? (i := 149) (by decide +kernel), List.mem_of_getElem? (i := 150) (by decide +kernel)⟩
theorem lw_p2 : lw_okq (⟨"PotatoPrints$Table", "beginAnew", "(I)V"⟩, 11) := ⟨⟨by decide +kernel, by decide +kernel⟩, List.mem_of_getElem? (i := 24) (by decide +kernel), List.mem_of_getElem? (i := 159) (by decide +kernel), List.mem_of_getElem? (i := 160) (by decide +kernel)⟩
theorem lw_p3 : lw_okq (⟨"PotatoPrints$Table", "remember", "()V"⟩, 11) := ⟨⟨by decide +kernel, by decide +kernel⟩, List.mem_of_getElem? (i := 24) (by decide +kernel), List.mem_of_getElem? (i := 175) (by decide +kernel), List.mem_of_getElem? (i := 176) (by decide +kernel)⟩
theorem lw_p4 : lw_okq (⟨"PotatoPrints", "refuseNo", "()I"⟩, 10) := ⟨⟨by decide +kernel, by decide +kernel⟩, List.mem_of_getElem? (i := 16) (by decide +kernel), List.mem_of_getElem? (i := 192) (by decide +kernel), List.mem_of_getElem? (i := 193) (by decide +kernel)⟩
theorem lw_p5 : lw_okq (⟨"PotatoPrints$Table", "putPrint", "(IIIII)I"⟩, 11) := ⟨⟨by decide +kernel, by decide +kernel⟩, List.mem_of_getElem? (i := 24) (by decide +kernel), List.mem_of_getElem? (i := 196) (by decide +kernel), List.mem_of_getElem? (i := 197) (by decide +kernel)⟩
theorem lw_p6 : lw_okq (⟨"PotatoPrints$Table", "darken", "(JI)I"⟩, 11) := ⟨⟨by decide +kernel, by decide +kernel⟩, List.mem_of_getElem? (i := 24) (by decide +kernel), List.mem_of_getElem? (i := 237) (by decide +kernel), List.mem_of_getElem? (i := 238) (by decide +kernel)⟩
theorem lw_p7 : lw_okq (⟨"PotatoPrints$Table", "stepBack", "()V"⟩, 11) := ⟨⟨by decide +kernel, by decide +kernel⟩, List.mem_of_getElem? (i := 24) (by decide +kernel), List.mem_of_getElem? (i := 246) (by decide +kernel), List.mem_of_getElem? (i := 247) (by decide +kernel)⟩
theorem lw_p8 : lw_okq (⟨"PotatoPrints", "refuseFull", "()I"⟩, 10) := ⟨⟨by decide +kernel, by decide +kernel⟩, List.mem_of_getElem? (i := 16) (by decide +kernel), List.mem_of_getElem? (i := 254) (by decide +kernel), List.mem_of_getElem? (i := 255) (by decide +kernel)⟩
theorem lw_p9 : lw_okq (⟨"PotatoPrints$Text", "addByte", "(I)V"⟩, 7) := ⟨⟨by decide +kernel, by decide +kernel⟩, List.mem_of_getElem? (i := 76) (by decide +kernel), List.mem_of_getElem? (i := 258) (by decide +kernel), List.mem_of_getElem? (i := 259) (by decide +kernel)⟩
theorem lw_p10 : lw_okq (⟨"PotatoPrints$Text", "readInto", "(LPotatoPrints$Table;)I"⟩, 7) := ⟨⟨by decide +kernel, by decide +kernel⟩, List.mem_of_getElem? (i := 76) (by decide +kernel), List.mem_of_getElem? (i := 270) (by decide +kernel), List.mem_of_getElem? (i := 271) (by decide +kernel)⟩
theorem lw_p11 : lw_okq (⟨"PotatoPrints$Text", "nextToken", "()V"⟩, 7) := ⟨⟨by decide +kernel, by decide +kernel⟩, List.mem_of_getElem? (i := 76) (by decide +kernel), List.mem_of_getElem? (i := 274) (by decide +kernel), List.mem_of_getElem? (i := 275) (by decide +kernel)⟩
theorem lw_p12 : lw_okq (⟨"PotatoPrints$Text", "isWithin", "(ICC)Z"⟩, 7) := ⟨⟨by decide +kernel, by decide +kernel⟩, List.mem_of_getElem? (i := 76) (by decide +kernel), List.mem_of_getElem? (i := 278) (by decide +kernel), List.mem_of_getElem? (i := 279) (by decide +kernel)⟩
theorem lw_p13 : lw_okq (⟨"PotatoPrints$Text", "takeWord", "()V"⟩, 7) := ⟨⟨by decide +kernel, by decide +kernel⟩, List.mem_of_getElem? (i := 76) (by decide +kernel), List.mem_of_getElem? (i := 282) (by decide +kernel), List.mem_of_getElem? (i := 283) (by decide +kernel)⟩
theorem lw_p14 : lw_okq (⟨"PotatoPrints$Text", "isTheWord", "(Ljava/lang/String;)Z"⟩, 7) := ⟨⟨by decide +kernel, by decide +kernel⟩, List.mem_of_getElem? (i := 76) (by decide +kernel), List.mem_of_getElem? (i := 287) (by decide +kernel), List.mem_of_getElem? (i := 288) (by decide +kernel)⟩
theorem lw_p15 : lw_okq (⟨"PotatoPrints$Text", "takeNumber", "()V"⟩, 7) := ⟨⟨by decide +kernel, by decide +kernel⟩, List.mem_of_getElem? (i := 76) (by decide +kernel), List.mem_of_getElem? (i := 341) (by decide +kernel), List.mem_of_getElem? (i := 342) (by decide +kernel)⟩
def lw_privs_1 : List (MethodName × Nat) := [(⟨"PotatoPrints", "refuseBad", "(I)I"⟩, 10), (⟨"PotatoPrints$Table", "darkCells", "()J"⟩, 11), (⟨"PotatoPrints$Table", "beginAnew", "(I)V"⟩, 11), (⟨"PotatoPrints$Table", "remember", "()V"⟩, 11), (⟨"PotatoPrints", "refuseNo", "()I"⟩, 10), (⟨"PotatoPrints$Table", "putPrint", "(IIIII)I"⟩, 11), (⟨"PotatoPrints$Table", "darken", "(JI)I"⟩, 11), (⟨"PotatoPrints$Table", "stepBack", "()V"⟩, 11), (⟨"PotatoPrints", "refuseFull", "()I"⟩, 10), (⟨"PotatoPrints$Text", "addByte", "(I)V"⟩, 7), (⟨"PotatoPrints$Text", "readInto", "(LPotatoPrints$Table;)I"⟩, 7), (⟨"PotatoPrints$Text", "nextToken", "()V"⟩, 7), (⟨"PotatoPrints$Text", "isWithin", "(ICC)Z"⟩, 7), (⟨"PotatoPrints$Text", "takeWord", "()V"⟩, 7), (⟨"PotatoPrints$Text", "isTheWord", "(Ljava/lang/String;)Z"⟩, 7), (⟨"PotatoPrints$Text", "takeNumber", "()V"⟩, 7)]
theorem lw_r1 : ∀ q ∈ lw_privs_1, lw_okq q := List.forall_mem_cons.mpr ⟨lw_p0, List.forall_mem_cons.mpr ⟨lw_p1, List.forall_mem_cons.mpr ⟨lw_p2, List.forall_mem_cons.mpr ⟨lw_p3, List.forall_mem_cons.mpr ⟨lw_p4, List.forall_mem_cons.mpr ⟨lw_p5, List.forall_mem_cons.mpr ⟨lw_p6, List.forall_mem_cons.mpr ⟨lw_p7, List.forall_mem_cons.mpr ⟨lw_p8, List.forall_mem_cons.mpr ⟨lw_p9, List.forall_mem_cons.mpr ⟨lw_p10, List.forall_mem_cons.mpr ⟨lw_p11, List.forall_mem_cons.mpr ⟨lw_p12, List.forall_mem_cons.mpr ⟨lw_p13, List.forall_mem_cons.mpr ⟨lw_p14, List.forall_mem_cons.mpr ⟨lw_p15, fun _ h => absurd h List.not_mem_nil⟩⟩⟩⟩⟩⟩⟩⟩⟩⟩⟩⟩⟩⟩⟩⟩
theorem lw_p16 : lw_okq (⟨"PotatoPrints$Text", "numbersStand", "([I)Z"⟩, 7) := ⟨⟨by decide +kernel, by decide +kernel⟩, List.mem_of_getElem? (i := 76) (by decide +kernel), List.mem_of_getElem? (i := 354) (by decide +kernel), List.mem_of_getElem? (i := 355) (by decide +kernel)⟩
theorem lw_p17 : lw_okq (⟨"PotatoPrints$Text", "putItem", "(ILPotatoPrints$Table;)V"⟩, 7) := ⟨⟨by decide +kernel, by decide +kernel⟩, List.mem_of_getElem? (i := 76) (by decide +kernel), List.mem_of_getElem? (i := 358) (by decide +kernel), List.mem_of_getElem? (i := 359) (by decide +kernel)⟩
theorem lw_p18 : lw_okq (⟨"PotatoPrints$Table", "takeOver", "(LPotatoPrints$Table;)V"⟩, 11) := ⟨⟨by decide +kernel, by decide +kernel⟩, List.mem_of_getElem? (i := 24) (by decide +kernel), List.mem_of_getElem? (i := 364) (by decide +kernel), List.mem_of_getElem? (i := 365) (by decide +kernel)⟩
theorem lw_p19 : lw_okq (⟨"PotatoPrints$Table", "takeOverPrints", "(LPotatoPrints$Table;)V"⟩, 11) := ⟨⟨by decide +kernel, by decide +kernel⟩, List.mem_of_getElem? (i := 24) (by decide +kernel), List.mem_of_getElem? (i := 368) (by decide +kernel), List.mem_of_getElem? (i := 369) (by decide +kernel)⟩
theorem lw_p20 : lw_okq (⟨"PotatoPrints", "placeEverywhere", "(I)V"⟩, 10) := ⟨⟨by decide +kernel, by decide +kernel⟩, List.mem_of_getElem? (i := 16) (by decide +kernel), List.mem_of_getElem? (i := 430) (by decide +kernel), List.mem_of_getElem? (i := 431) (by decide +kernel)⟩
theorem lw_p21 : lw_okq (⟨"PotatoPrints$Table", "wantedCells", "()J"⟩, 11) := ⟨⟨by decide +kernel, by decide +kernel⟩, List.mem_of_getElem? (i := 24) (by decide +kernel), List.mem_of_getElem? (i := 449) (by decide +kernel), List.mem_of_getElem? (i := 450) (by decide +kernel)⟩
theorem lw_p22 : lw_okq (⟨"PotatoPrints", "firstCovering", "(J)I"⟩, 10) := ⟨⟨by decide +kernel, by decide +kernel⟩, List.mem_of_getElem? (i := 16) (by decide +kernel), List.mem_of_getElem? (i := 453) (by decide +kernel), List.mem_of_getElem? (i := 454) (by decide +kernel)⟩
theorem lw_p23 : lw_okq (⟨"PotatoPrints", "firstOfTwoCovering", "(J)I"⟩, 10) := ⟨⟨by decide +kernel, by decide +kernel⟩, List.mem_of_getElem? (i := 16) (by decide +kernel), List.mem_of_getElem? (i := 458) (by decide +kernel), List.mem_of_getElem? (i := 459) (by decide +kernel)⟩
theorem lw_p24 : lw_okq (⟨"PotatoPrints$Table", "seenCellsOf", "(I)J"⟩, 11) := ⟨⟨by decide +kernel, by decide +kernel⟩, List.mem_of_getElem? (i := 24) (by decide +kernel), List.mem_of_getElem? (i := 489) (by decide +kernel), List.mem_of_getElem? (i := 490) (by decide +kernel)⟩
theorem lw_p25 : lw_okq (⟨"PotatoPrints", "keepFitting", "()I"⟩, 10) := ⟨⟨by decide +kernel, by decide +kernel⟩, List.mem_of_getElem? (i := 16) (by decide +kernel), List.mem_of_getElem? (i := 500) (by decide +kernel), List.mem_of_getElem? (i := 501) (by decide +kernel)⟩
theorem lw_p26 : lw_okq (⟨"PotatoPrints", "howManyInk", "(II)I"⟩, 10) := ⟨⟨by decide +kernel, by decide +kernel⟩, List.mem_of_getElem? (i := 16) (by decide +kernel), List.mem_of_getElem? (i := 504) (by decide +kernel), List.mem_of_getElem? (i := 505) (by decide +kernel)⟩
theorem lw_p27 : lw_okq (⟨"PotatoPrints", "cutAway", "(IIII)I"⟩, 10) := ⟨⟨by decide +kernel, by decide +kernel⟩, List.mem_of_getElem? (i := 16) (by decide +kernel), List.mem_of_getElem? (i := 515) (by decide +kernel), List.mem_of_getElem? (i := 516) (by decide +kernel)⟩
theorem lw_p28 : lw_okq (⟨"PotatoPrints", "setFraction", "(JJ)V"⟩, 10) := ⟨⟨by decide +kernel, by decide +kernel⟩, List.mem_of_getElem? (i := 16) (by decide +kernel), List.mem_of_getElem? (i := 529) (by decide +kernel), List.mem_of_getElem? (i := 530) (by decide +kernel)⟩
theorem lw_p29 : lw_okq (⟨"PotatoPrints$Table", "darknessInAll", "()I"⟩, 11) := ⟨⟨by decide +kernel, by decide +kernel⟩, List.mem_of_getElem? (i := 24) (by decide +kernel), List.mem_of_getElem? (i := 548) (by decide +kernel), List.mem_of_getElem? (i := 549) (by decide +kernel)⟩
theorem lw_p30 : lw_okq (⟨"PotatoPrints", "howMany", "(I)I"⟩, 10) := ⟨⟨by decide +kernel, by decide +kernel⟩, List.mem_of_getElem? (i := 16) (by decide +kernel), List.mem_of_getElem? (i := 572) (by decide +kernel), List.mem_of_getElem? (i := 573) (by decide +kernel)⟩
theorem lw_p31 : lw_okq (⟨"PotatoPrintsModel", "bad", "()I"⟩, 22) := ⟨⟨by decide +kernel, by decide +kernel⟩, List.mem_of_getElem? (i := 582) (by decide +kernel), List.mem_of_getElem? (i := 664) (by decide +kernel), List.mem_of_getElem? (i := 665) (by decide +kernel)⟩
def lw_privs_2 : List (MethodName × Nat) := [(⟨"PotatoPrints$Text", "numbersStand", "([I)Z"⟩, 7), (⟨"PotatoPrints$Text", "putItem", "(ILPotatoPrints$Table;)V"⟩, 7), (⟨"PotatoPrints$Table", "takeOver", "(LPotatoPrints$Table;)V"⟩, 11), (⟨"PotatoPrints$Table", "takeOverPrints", "(LPotatoPrints$Table;)V"⟩, 11), (⟨"PotatoPrints", "placeEverywhere", "(I)V"⟩, 10), (⟨"PotatoPrints$Table", "wantedCells", "()J"⟩, 11), (⟨"PotatoPrints", "firstCovering", "(J)I"⟩, 10), (⟨"PotatoPrints", "firstOfTwoCovering", "(J)I"⟩, 10), (⟨"PotatoPrints$Table", "seenCellsOf", "(I)J"⟩, 11), (⟨"PotatoPrints", "keepFitting", "()I"⟩, 10), (⟨"PotatoPrints", "howManyInk", "(II)I"⟩, 10), (⟨"PotatoPrints", "cutAway", "(IIII)I"⟩, 10), (⟨"PotatoPrints", "setFraction", "(JJ)V"⟩, 10), (⟨"PotatoPrints$Table", "darknessInAll", "()I"⟩, 11), (⟨"PotatoPrints", "howMany", "(I)I"⟩, 10), (⟨"PotatoPrintsModel", "bad", "()I"⟩, 22)]
theorem lw_r2 : ∀ q ∈ lw_privs_2, lw_okq q := List.forall_mem_cons.mpr ⟨lw_p16, List.forall_mem_cons.mpr ⟨lw_p17, List.forall_mem_cons.mpr ⟨lw_p18, List.forall_mem_cons.mpr ⟨lw_p19, List.forall_mem_cons.mpr ⟨lw_p20, List.forall_mem_cons.mpr ⟨lw_p21, List.forall_mem_cons.mpr ⟨lw_p22, List.forall_mem_cons.mpr ⟨lw_p23, List.forall_mem_cons.mpr ⟨lw_p24, List.forall_mem_cons.mpr ⟨lw_p25, List.forall_mem_cons.mpr ⟨lw_p26, List.forall_mem_cons.mpr ⟨lw_p27, List.forall_mem_cons.mpr ⟨lw_p28, List.forall_mem_cons.mpr ⟨lw_p29, List.forall_mem_cons.mpr ⟨lw_p30, List.forall_mem_cons.mpr ⟨lw_p31, fun _ h => absurd h List.not_mem_nil⟩⟩⟩⟩⟩⟩⟩⟩⟩⟩⟩⟩⟩⟩⟩⟩
theorem lw_p32 : lw_okq (⟨"PotatoPrintsModel", "darkMany", "()I"⟩, 22) := ⟨⟨by decide +kernel, by decide +kernel⟩, List.mem_of_getElem? (i := 582) (by decide +kernel), List.mem_of_getElem? (i := 668) (by decide +kernel), List.mem_of_getElem? (i := 669) (by decide +kernel)⟩
theorem lw_p33 : lw_okq (⟨"PotatoPrintsModel", "anew", "(I)V"⟩, 22) := ⟨⟨by decide +kernel, by decide +kernel⟩, List.mem_of_getElem? (i := 582) (by decide +kernel), List.mem_of_getElem? (i := 672) (by decide +kernel), List.mem_of_getElem? (i := 673) (by decide +kernel)⟩
theorem lw_p34 : lw_okq (⟨"PotatoPrintsModel", "note", "()V"⟩, 22) := ⟨⟨by decide +kernel, by decide +kernel⟩, List.mem_of_getElem? (i := 582) (by decide +kernel), List.mem_of_getElem? (i := 688) (by decide +kernel), List.mem_of_getElem? (i := 689) (by decide +kernel)⟩
theorem lw_p35 : lw_okq (⟨"PotatoPrintsModel", "no", "()I"⟩, 22) := ⟨⟨by decide +kernel, by decide +kernel⟩, List.mem_of_getElem? (i := 582) (by decide +kernel), List.mem_of_getElem? (i := 705) (by decide +kernel), List.mem_of_getElem? (i := 706) (by decide +kernel)⟩
theorem lw_p36 : lw_okq (⟨"PotatoPrintsModel", "printOne", "(IIIII)I"⟩, 22) := ⟨⟨by decide +kernel, by decide +kernel⟩, List.mem_of_getElem? (i := 582) (by decide +kernel), List.mem_of_getElem? (i := 709) (by decide +kernel), List.mem_of_getElem? (i := 710) (by decide +kernel)⟩
theorem lw_p37 : lw_okq (⟨"PotatoPrintsModel", "looksOf", "(II)I"⟩, 22) := ⟨⟨by decide +kernel, by decide +kernel⟩, List.mem_of_getElem? (i := 582) (by decide +kernel), List.mem_of_getElem? (i := 713) (by decide +kernel), List.mem_of_getElem? (i := 714) (by decide +kernel)⟩
theorem lw_p38 : lw_okq (⟨"PotatoPrintsModel", "inkBy", "(IIIII)V"⟩, 22) := ⟨⟨by decide +kernel, by decide +kernel⟩, List.mem_of_getElem? (i := 582) (by decide +kernel), List.mem_of_getElem? (i := 723) (by decide +kernel), List.mem_of_getElem? (i := 724) (by decide +kernel)⟩
theorem lw_p39 : lw_okq (⟨"PotatoPrintsModel", "layLooks", "(IIIIZ)V"⟩, 22) := ⟨⟨by decide +kernel, by decide +kernel⟩, List.mem_of_getElem? (i := 582) (by decide +kernel), List.mem_of_getElem? (i := 733) (by decide +kernel), List.mem_of_getElem? (i := 734) (by decide +kernel)⟩
theorem lw_p40 : lw_okq (⟨"PotatoPrintsModel", "darker", "()I"⟩, 22) := ⟨⟨by decide +kernel, by decide +kernel⟩, List.mem_of_getElem? (i := 582) (by decide +kernel), List.mem_of_getElem? (i := 737) (by decide +kernel), List.mem_of_getElem? (i := 738) (by decide +kernel)⟩
theorem lw_p41 : lw_okq (⟨"PotatoPrintsModel", "full", "()I"⟩, 22) := ⟨⟨by decide +kernel, by decide +kernel⟩, List.mem_of_getElem? (i := 582) (by decide +kernel), List.mem_of_getElem? (i := 753) (by decide +kernel), List.mem_of_getElem? (i := 754) (by decide +kernel)⟩
theorem lw_p42 : lw_okq (⟨"PotatoPrintsModel", "readText", "(Z)I"⟩, 22) := ⟨⟨by decide +kernel, by decide +kernel⟩, List.mem_of_getElem? (i := 582) (by decide +kernel), List.mem_of_getElem? (i := 765) (by decide +kernel), List.mem_of_getElem? (i := 766) (by decide +kernel)⟩
theorem lw_p43 : lw_okq (⟨"PotatoPrintsModel", "nextToken", "()V"⟩, 22) := ⟨⟨by decide +kernel, by decide +kernel⟩, List.mem_of_getElem? (i := 582) (by decide +kernel), List.mem_of_getElem? (i := 769) (by decide +kernel), List.mem_of_getElem? (i := 770) (by decide +kernel)⟩
theorem lw_p44 : lw_okq (⟨"PotatoPrintsModel", "byteAt", "(I)I"⟩, 22) := ⟨⟨by decide +kernel, by decide +kernel⟩, List.mem_of_getElem? (i := 582) (by decide +kernel), List.mem_of_getElem? (i := 773) (by decide +kernel), List.mem_of_getElem? (i := 774) (by decide +kernel)⟩
theorem lw_p45 : lw_okq (⟨"PotatoPrintsModel", "readItem", "(ZZ)Z"⟩, 22) := ⟨⟨by decide +kernel, by decide +kernel⟩, List.mem_of_getElem? (i := 582) (by decide +kernel), List.mem_of_getElem? (i := 781) (by decide +kernel), List.mem_of_getElem? (i := 782) (by decide +kernel)⟩
theorem lw_p46 : lw_okq (⟨"PotatoPrintsModel", "isWord", "(IIIIII)Z"⟩, 22) := ⟨⟨by decide +kernel, by decide +kernel⟩, List.mem_of_getElem? (i := 582) (by decide +kernel), List.mem_of_getElem? (i := 785) (by decide +kernel), List.mem_of_getElem? (i := 786) (by decide +kernel)⟩
theorem lw_p47 : lw_okq (⟨"PotatoPrintsModel", "reads", "(II)Z"⟩, 22) := ⟨⟨by decide +kernel, by decide +kernel⟩, List.mem_of_getElem? (i := 582) (by decide +kernel), List.mem_of_getElem? (i := 789) (by decide +kernel), List.mem_of_getElem? (i := 790) (by decide +kernel)⟩
def lw_privs_3 : List (MethodName × Nat) := [(⟨"PotatoPrintsModel", "darkMany", "()I"⟩, 22), (⟨"PotatoPrintsModel", "anew", "(I)V"⟩, 22), (⟨"PotatoPrintsModel", "note", "()V"⟩, 22), (⟨"PotatoPrintsModel", "no", "()I"⟩, 22), (⟨"PotatoPrintsModel", "printOne", "(IIIII)I"⟩, 22), (⟨"PotatoPrintsModel", "looksOf", "(II)I"⟩, 22), (⟨"PotatoPrintsModel", "inkBy", "(IIIII)V"⟩, 22), (⟨"PotatoPrintsModel", "layLooks", "(IIIIZ)V"⟩, 22), (⟨"PotatoPrintsModel", "darker", "()I"⟩, 22), (⟨"PotatoPrintsModel", "full", "()I"⟩, 22), (⟨"PotatoPrintsModel", "readText", "(Z)I"⟩, 22), (⟨"PotatoPrintsModel", "nextToken", "()V"⟩, 22), (⟨"PotatoPrintsModel", "byteAt", "(I)I"⟩, 22), (⟨"PotatoPrintsModel", "readItem", "(ZZ)Z"⟩, 22), (⟨"PotatoPrintsModel", "isWord", "(IIIIII)Z"⟩, 22), (⟨"PotatoPrintsModel", "reads", "(II)Z"⟩, 22)]
theorem lw_r3 : ∀ q ∈ lw_privs_3, lw_okq q := List.forall_mem_cons.mpr ⟨lw_p32, List.forall_mem_cons.mpr ⟨lw_p33, List.forall_mem_cons.mpr ⟨lw_p34, List.forall_mem_cons.mpr ⟨lw_p35, List.forall_mem_cons.mpr ⟨lw_p36, List.forall_mem_cons.mpr ⟨lw_p37, List.forall_mem_cons.mpr ⟨lw_p38, List.forall_mem_cons.mpr ⟨lw_p39, List.forall_mem_cons.mpr ⟨lw_p40, List.forall_mem_cons.mpr ⟨lw_p41, List.forall_mem_cons.mpr ⟨lw_p42, List.forall_mem_cons.mpr ⟨lw_p43, List.forall_mem_cons.mpr ⟨lw_p44, List.forall_mem_cons.mpr ⟨lw_p45, List.forall_mem_cons.mpr ⟨lw_p46, List.forall_mem_cons.mpr ⟨lw_p47, fun _ h => absurd h List.not_mem_nil⟩⟩⟩⟩⟩⟩⟩⟩⟩⟩⟩⟩⟩⟩⟩⟩
theorem lw_p48 : lw_okq (⟨"PotatoPrintsModel", "findWanted", "(I)V"⟩, 22) := ⟨⟨by decide +kernel, by decide +kernel⟩, List.mem_of_getElem? (i := 582) (by decide +kernel), List.mem_of_getElem? (i := 857) (by decide +kernel), List.mem_of_getElem? (i := 858) (by decide +kernel)⟩
theorem lw_p49 : lw_okq (⟨"PotatoPrintsModel", "canBe", "(II)Z"⟩, 22) := ⟨⟨by decide +kernel, by decide +kernel⟩, List.mem_of_getElem? (i := 582) (by decide +kernel), List.mem_of_getElem? (i := 887) (by decide +kernel), List.mem_of_getElem? (i := 888) (by decide +kernel)⟩
theorem lw_p50 : lw_okq (⟨"PotatoPrintsModel", "setFraction", "(JJ)V"⟩, 22) := ⟨⟨by decide +kernel, by decide +kernel⟩, List.mem_of_getElem? (i := 582) (by decide +kernel), List.mem_of_getElem? (i := 905) (by decide +kernel), List.mem_of_getElem? (i := 906) (by decide +kernel)⟩
theorem lw_p51 : lw_okq (⟨"PotatoPrintsModel", "draw", "(I)I"⟩, 22) := ⟨⟨by decide +kernel, by decide +kernel⟩, List.mem_of_getElem? (i := 582) (by decide +kernel), List.mem_of_getElem? (i := 915) (by decide +kernel), List.mem_of_getElem? (i := 916) (by decide +kernel)⟩
theorem lw_p52 : lw_okq (⟨"PotatoPrintsModel", "countOf", "(I)I"⟩, 22) := ⟨⟨by decide +kernel, by decide +kernel⟩, List.mem_of_getElem? (i := 582) (by decide +kernel), List.mem_of_getElem? (i := 944) (by decide +kernel), List.mem_of_getElem? (i := 945) (by decide +kernel)⟩
def lw_privs_4 : List (MethodName × Nat) := [(⟨"PotatoPrintsModel", "findWanted", "(I)V"⟩, 22), (⟨"PotatoPrintsModel", "canBe", "(II)Z"⟩, 22), (⟨"PotatoPrintsModel", "setFraction", "(JJ)V"⟩, 22), (⟨"PotatoPrintsModel", "draw", "(I)I"⟩, 22), (⟨"PotatoPrintsModel", "countOf", "(I)I"⟩, 22)]
theorem lw_r4 : ∀ q ∈ lw_privs_4, lw_okq q := List.forall_mem_cons.mpr ⟨lw_p48, List.forall_mem_cons.mpr ⟨lw_p49, List.forall_mem_cons.mpr ⟨lw_p50, List.forall_mem_cons.mpr ⟨lw_p51, List.forall_mem_cons.mpr ⟨lw_p52, fun _ h => absurd h List.not_mem_nil⟩⟩⟩⟩⟩
def lw_privs : List (MethodName × Nat) := lw_privs_1 ++ (lw_privs_2 ++ (lw_privs_3 ++ (lw_privs_4)))
def lw_tbl : List Cond := k2_sels lw_privs ++ tables_1
theorem lw_privs_ok : ∀ q ∈ lw_privs, lw_okq q := by
  show ∀ q ∈ lw_privs_1 ++ (lw_privs_2 ++ (lw_privs_3 ++ (lw_privs_4))), lw_okq q
  exact List.forall_mem_append.mpr ⟨lw_r1, List.forall_mem_append.mpr ⟨lw_r2, List.forall_mem_append.mpr ⟨lw_r3, lw_r4⟩⟩⟩

def RX0 : String := "PotatoPrints$Kind"
def TX0 : u_T := fun k => match k with
  | _ => ("", "", "", false)
def tyX0 : Nat → FieldType := fun k => match k with
  | _ => .int
theorem nmX0 : ∀ a, a < 0 → ∀ b, b < 0 → a ≠ b → (TX0 a).2.1 ≠ (TX0 b).2.1 := by decide +kernel
theorem tyX0_ok : ∀ k, k < 0 → parseFieldDescriptor (TX0 k).2.2.1 = some (tyX0 k) := by decide +kernel
abbrev cX0_darkness : ByteArray := prog_2_method_2_code
def yX0_darkness : MethodName := ⟨RX0, "darkness", "(II)I"⟩
abbrev cX0_isHard : ByteArray := prog_2_method_3_code
def yX0_isHard : MethodName := ⟨RX0, "isHard", "(I)Z"⟩
abbrev cX0_paintTaken : ByteArray := prog_2_method_4_code
def yX0_paintTaken : MethodName := ⟨RX0, "paintTaken", "(II)I"⟩
abbrev cX0_printsOfOneDip : ByteArray := prog_2_method_5_code
def yX0_printsOfOneDip : MethodName := ⟨RX0, "printsOfOneDip", "(III)I"⟩
abbrev cX0_slidColumn : ByteArray := prog_2_method_6_code
def yX0_slidColumn : MethodName := ⟨RX0, "slidColumn", "(III)I"⟩
abbrev cX0_fullCells : ByteArray := prog_2_method_7_code
def yX0_fullCells : MethodName := ⟨RX0, "fullCells", "(IIIII)J"⟩
abbrev cX0_halfCells : ByteArray := prog_2_method_8_code
def yX0_halfCells : MethodName := ⟨RX0, "halfCells", "(IIIII)J"⟩
abbrev cX0_inks : ByteArray := prog_2_method_9_code
def yX0_inks : MethodName := ⟨RX0, "inks", "(IIIIII)Z"⟩
def RX1 : String := "PotatoPrints$Shape"
def TX1 : u_T := fun k => match k with
  | _ => ("", "", "", false)
def tyX1 : Nat → FieldType := fun k => match k with
  | _ => .int
theorem nmX1 : ∀ a, a < 0 → ∀ b, b < 0 → a ≠ b → (TX1 a).2.1 ≠ (TX1 b).2.1 := by decide +kernel
theorem tyX1_ok : ∀ k, k < 0 → parseFieldDescriptor (TX1 k).2.2.1 = some (tyX1 k) := by decide +kernel
abbrev cX1_printed : ByteArray := prog_3_method_2_code
def yX1_printed : MethodName := ⟨RX1, "printed", "(II)I"⟩
abbrev cX1_mirrored : ByteArray := prog_3_method_3_code
def yX1_mirrored : MethodName := ⟨RX1, "mirrored", "(I)I"⟩
abbrev cX1_turnedOnce : ByteArray := prog_3_method_4_code
def yX1_turnedOnce : MethodName := ⟨RX1, "turnedOnce", "(I)I"⟩
abbrev cX1_shrunk : ByteArray := prog_3_method_5_code
def yX1_shrunk : MethodName := ⟨RX1, "shrunk", "(I)I"⟩
abbrev cX1_placed : ByteArray := prog_3_method_6_code
def yX1_placed : MethodName := ⟨RX1, "placed", "(III)J"⟩
abbrev cX1_isUp : ByteArray := prog_3_method_7_code
def yX1_isUp : MethodName := ⟨RX1, "isUp", "(III)Z"⟩
abbrev cX1_bitOf : ByteArray := prog_3_method_8_code
def yX1_bitOf : MethodName := ⟨RX1, "bitOf", "(II)I"⟩
def RX2 : String := "PotatoPrints$Table"
def TX2 : u_T := fun k => match k with
  | 0 => ("PotatoPrints$Table", "potatoes", "[I", true)
  | 1 => ("PotatoPrints$Table", "sheet", "[I", true)
  | 2 => ("PotatoPrints$Table", "paint", "I", false)
  | 3 => ("PotatoPrints$Table", "wanted", "[I", true)
  | 4 => ("PotatoPrints$Table", "wantedCount", "I", false)
  | 5 => ("PotatoPrints$Table", "seenCells", "[I", true)
  | 6 => ("PotatoPrints$Table", "seenInked", "[I", true)
  | 7 => ("PotatoPrints$Table", "seenCount", "I", false)
  | 8 => ("PotatoPrints$Table", "undoSheets", "[I", true)
  | 9 => ("PotatoPrints$Table", "undoPaints", "[I", true)
  | _ => ("PotatoPrints$Table", "undoCount", "I", false)
def tyX2 : Nat → FieldType := fun k => match k with
  | 0 => .array .int
  | 1 => .array .int
  | 2 => .int
  | 3 => .array .int
  | 4 => .int
  | 5 => .array .int
  | 6 => .array .int
  | 7 => .int
  | 8 => .array .int
  | 9 => .array .int
  | _ => .int
theorem nmX2 : ∀ a, a < 11 → ∀ b, b < 11 → a ≠ b → (TX2 a).2.1 ≠ (TX2 b).2.1 := by decide +kernel
theorem tyX2_ok : ∀ k, k < 11 → parseFieldDescriptor (TX2 k).2.2.1 = some (tyX2 k) := by decide +kernel
abbrev cX2_init : ByteArray := prog_4_method_1_code
def yX2_init : MethodName := ⟨RX2, "<init>", "()V"⟩
abbrev cX2_beginAnew : ByteArray := prog_4_method_2_code
def yX2_beginAnew : MethodName := ⟨RX2, "beginAnew", "(I)V"⟩
abbrev cX2_takeOver : ByteArray := prog_4_method_3_code
def yX2_takeOver : MethodName := ⟨RX2, "takeOver", "(LPotatoPrints$Table;)V"⟩
abbrev cX2_takeOverPrints : ByteArray := prog_4_method_4_code
def yX2_takeOverPrints : MethodName := ⟨RX2, "takeOverPrints", "(LPotatoPrints$Table;)V"⟩
abbrev cX2_remember : ByteArray := prog_4_method_5_code
def yX2_remember : MethodName := ⟨RX2, "remember", "()V"⟩
abbrev cX2_stepBack : ByteArray := prog_4_method_6_code
def yX2_stepBack : MethodName := ⟨RX2, "stepBack", "()V"⟩
abbrev cX2_putPrint : ByteArray := prog_4_method_7_code
def yX2_putPrint : MethodName := ⟨RX2, "putPrint", "(IIIII)I"⟩
abbrev cX2_darken : ByteArray := prog_4_method_8_code
def yX2_darken : MethodName := ⟨RX2, "darken", "(JI)I"⟩
abbrev cX2_darkCells : ByteArray := prog_4_method_9_code
def yX2_darkCells : MethodName := ⟨RX2, "darkCells", "()J"⟩
abbrev cX2_darknessInAll : ByteArray := prog_4_method_10_code
def yX2_darknessInAll : MethodName := ⟨RX2, "darknessInAll", "()I"⟩
abbrev cX2_wantedCells : ByteArray := prog_4_method_11_code
def yX2_wantedCells : MethodName := ⟨RX2, "wantedCells", "()J"⟩
abbrev cX2_seenCellsOf : ByteArray := prog_4_method_12_code
def yX2_seenCellsOf : MethodName := ⟨RX2, "seenCellsOf", "(I)J"⟩
def RX3 : String := "PotatoPrints$Text"
def TX3 : u_T := fun k => match k with
  | 0 => ("PotatoPrints$Text", "bytes", "[B", true)
  | 1 => ("PotatoPrints$Text", "length", "I", false)
  | 2 => ("PotatoPrints$Text", "start", "I", false)
  | 3 => ("PotatoPrints$Text", "end", "I", false)
  | 4 => ("PotatoPrints$Text", "token", "I", false)
  | 5 => ("PotatoPrints$Text", "value", "I", false)
  | _ => ("PotatoPrints$Text", "numbers", "[I", true)
def tyX3 : Nat → FieldType := fun k => match k with
  | 0 => .array .byte
  | 1 => .int
  | 2 => .int
  | 3 => .int
  | 4 => .int
  | 5 => .int
  | _ => .array .int
theorem nmX3 : ∀ a, a < 7 → ∀ b, b < 7 → a ≠ b → (TX3 a).2.1 ≠ (TX3 b).2.1 := by decide +kernel
theorem tyX3_ok : ∀ k, k < 7 → parseFieldDescriptor (TX3 k).2.2.1 = some (tyX3 k) := by decide +kernel
abbrev cX3_init : ByteArray := prog_5_method_1_code
def yX3_init : MethodName := ⟨RX3, "<init>", "()V"⟩
abbrev cX3_addByte : ByteArray := prog_5_method_2_code
def yX3_addByte : MethodName := ⟨RX3, "addByte", "(I)V"⟩
abbrev cX3_readInto : ByteArray := prog_5_method_3_code
def yX3_readInto : MethodName := ⟨RX3, "readInto", "(LPotatoPrints$Table;)I"⟩
abbrev cX3_limitsOf : ByteArray := prog_5_method_4_code
def yX3_limitsOf : MethodName := ⟨RX3, "limitsOf", "(I)[I"⟩
abbrev cX3_numbersStand : ByteArray := prog_5_method_5_code
def yX3_numbersStand : MethodName := ⟨RX3, "numbersStand", "([I)Z"⟩
abbrev cX3_putItem : ByteArray := prog_5_method_6_code
def yX3_putItem : MethodName := ⟨RX3, "putItem", "(ILPotatoPrints$Table;)V"⟩
abbrev cX3_nextToken : ByteArray := prog_5_method_7_code
def yX3_nextToken : MethodName := ⟨RX3, "nextToken", "()V"⟩
abbrev cX3_isWithin : ByteArray := prog_5_method_8_code
def yX3_isWithin : MethodName := ⟨RX3, "isWithin", "(ICC)Z"⟩
abbrev cX3_takeWord : ByteArray := prog_5_method_9_code
def yX3_takeWord : MethodName := ⟨RX3, "takeWord", "()V"⟩
abbrev cX3_isTheWord : ByteArray := prog_5_method_10_code
def yX3_isTheWord : MethodName := ⟨RX3, "isTheWord", "(Ljava/lang/String;)Z"⟩
abbrev cX3_takeNumber : ByteArray := prog_5_method_11_code
def yX3_takeNumber : MethodName := ⟨RX3, "takeNumber", "()V"⟩
def RX4 : String := "PotatoPrints"
def TX4 : u_T := fun k => match k with
  | 0 => ("PotatoPrints", "now", "LPotatoPrints$Table;", true)
  | 1 => ("PotatoPrints", "draft", "LPotatoPrints$Table;", true)
  | 2 => ("PotatoPrints", "images", "[LPotatoPrints$Table;", true)
  | 3 => ("PotatoPrints", "text", "LPotatoPrints$Text;", true)
  | 4 => ("PotatoPrints", "placed", "[J", true)
  | 5 => ("PotatoPrints", "above", "J", false)
  | 6 => ("PotatoPrints", "below", "J", false)
  | 7 => ("PotatoPrints", "badCalls", "I", false)
  | 8 => ("PotatoPrints", "noCalls", "I", false)
  | _ => ("PotatoPrints", "fullCalls", "I", false)
def tyX4 : Nat → FieldType := fun k => match k with
  | 0 => .object "PotatoPrints$Table"
  | 1 => .object "PotatoPrints$Table"
  | 2 => .array (.object "PotatoPrints$Table")
  | 3 => .object "PotatoPrints$Text"
  | 4 => .array .long
  | 5 => .long
  | 6 => .long
  | 7 => .int
  | 8 => .int
  | _ => .int
theorem nmX4 : ∀ a, a < 10 → ∀ b, b < 10 → a ≠ b → (TX4 a).2.1 ≠ (TX4 b).2.1 := by decide +kernel
theorem tyX4_ok : ∀ k, k < 10 → parseFieldDescriptor (TX4 k).2.2.1 = some (tyX4 k) := by decide +kernel
abbrev cX4_init : ByteArray := prog_1_method_1_code
def yX4_init : MethodName := ⟨RX4, "<init>", "()V"⟩
abbrev cX4_table : ByteArray := prog_1_method_2_code
def yX4_table : MethodName := ⟨RX4, "table", "(I)I"⟩
abbrev cX4_cut : ByteArray := prog_1_method_3_code
def yX4_cut : MethodName := ⟨RX4, "cut", "(II)I"⟩
abbrev cX4_dip : ByteArray := prog_1_method_4_code
def yX4_dip : MethodName := ⟨RX4, "dip", "(I)I"⟩
abbrev cX4_print : ByteArray := prog_1_method_5_code
def yX4_print : MethodName := ⟨RX4, "print", "(IIIII)I"⟩
abbrev cX4_undo : ByteArray := prog_1_method_6_code
def yX4_undo : MethodName := ⟨RX4, "undo", "()I"⟩
abbrev cX4_type : ByteArray := prog_1_method_7_code
def yX4_type : MethodName := ⟨RX4, "type", "(I)I"⟩
abbrev cX4_clear : ByteArray := prog_1_method_8_code
def yX4_clear : MethodName := ⟨RX4, "clear", "()I"⟩
abbrev cX4_read : ByteArray := prog_1_method_9_code
def yX4_read : MethodName := ⟨RX4, "read", "()I"⟩
abbrev cX4_dark : ByteArray := prog_1_method_10_code
def yX4_dark : MethodName := ⟨RX4, "dark", "(II)I"⟩
abbrev cX4_looks : ByteArray := prog_1_method_11_code
def yX4_looks : MethodName := ⟨RX4, "looks", "(II)I"⟩
abbrev cX4_alike : ByteArray := prog_1_method_12_code
def yX4_alike : MethodName := ⟨RX4, "alike", "(I)I"⟩
abbrev cX4_adds : ByteArray := prog_1_method_13_code
def yX4_adds : MethodName := ⟨RX4, "adds", "(IIIII)I"⟩
abbrev cX4_force : ByteArray := prog_1_method_14_code
def yX4_force : MethodName := ⟨RX4, "force", "(III)I"⟩
abbrev cX4_fromOne : ByteArray := prog_1_method_15_code
def yX4_fromOne : MethodName := ⟨RX4, "fromOne", "(III)I"⟩
abbrev cX4_dips : ByteArray := prog_1_method_16_code
def yX4_dips : MethodName := ⟨RX4, "dips", "(IIII)I"⟩
abbrev cX4_edge : ByteArray := prog_1_method_17_code
def yX4_edge : MethodName := ⟨RX4, "edge", "(III)I"⟩
abbrev cX4_gap : ByteArray := prog_1_method_18_code
def yX4_gap : MethodName := ⟨RX4, "gap", "(I)I"⟩
abbrev cX4_hit : ByteArray := prog_1_method_19_code
def yX4_hit : MethodName := ⟨RX4, "hit", "(II)I"⟩
abbrev cX4_want : ByteArray := prog_1_method_20_code
def yX4_want : MethodName := ⟨RX4, "want", "(II)I"⟩
abbrev cX4_cover : ByteArray := prog_1_method_21_code
def yX4_cover : MethodName := ⟨RX4, "cover", "(II)I"⟩
abbrev cX4_shrinks : ByteArray := prog_1_method_22_code
def yX4_shrinks : MethodName := ⟨RX4, "shrinks", "(II)I"⟩
abbrev cX4_gone : ByteArray := prog_1_method_23_code
def yX4_gone : MethodName := ⟨RX4, "gone", "(I)I"⟩
abbrev cX4_seen : ByteArray := prog_1_method_24_code
def yX4_seen : MethodName := ⟨RX4, "seen", "(III)I"⟩
abbrev cX4_forget : ByteArray := prog_1_method_25_code
def yX4_forget : MethodName := ⟨RX4, "forget", "(I)I"⟩
abbrev cX4_which : ByteArray := prog_1_method_26_code
def yX4_which : MethodName := ⟨RX4, "which", "(II)I"⟩
abbrev cX4_look : ByteArray := prog_1_method_27_code
def yX4_look : MethodName := ⟨RX4, "look", "(I)I"⟩
abbrev cX4_bitten : ByteArray := prog_1_method_28_code
def yX4_bitten : MethodName := ⟨RX4, "bitten", "(IIIII)I"⟩
abbrev cX4_slips : ByteArray := prog_1_method_29_code
def yX4_slips : MethodName := ⟨RX4, "slips", "(IIIIIII)I"⟩
abbrev cX4_sheets : ByteArray := prog_1_method_30_code
def yX4_sheets : MethodName := ⟨RX4, "sheets", "(II)I"⟩
abbrev cX4_part : ByteArray := prog_1_method_31_code
def yX4_part : MethodName := ⟨RX4, "part", "(I)J"⟩
abbrev cX4_image : ByteArray := prog_1_method_32_code
def yX4_image : MethodName := ⟨RX4, "image", "(I)I"⟩
abbrev cX4_from : ByteArray := prog_1_method_33_code
def yX4_from : MethodName := ⟨RX4, "from", "(I)I"⟩
abbrev cX4_status : ByteArray := prog_1_method_34_code
def yX4_status : MethodName := ⟨RX4, "status", "(I)I"⟩
abbrev cX4_count : ByteArray := prog_1_method_35_code
def yX4_count : MethodName := ⟨RX4, "count", "(I)I"⟩
abbrev cX4_digest : ByteArray := prog_1_method_36_code
def yX4_digest : MethodName := ⟨RX4, "digest", "()J"⟩
abbrev cX4_refuseBad : ByteArray := prog_1_method_37_code
def yX4_refuseBad : MethodName := ⟨RX4, "refuseBad", "(I)I"⟩
abbrev cX4_refuseNo : ByteArray := prog_1_method_38_code
def yX4_refuseNo : MethodName := ⟨RX4, "refuseNo", "()I"⟩
abbrev cX4_refuseFull : ByteArray := prog_1_method_39_code
def yX4_refuseFull : MethodName := ⟨RX4, "refuseFull", "()I"⟩
abbrev cX4_within : ByteArray := prog_1_method_40_code
def yX4_within : MethodName := ⟨RX4, "within", "(III)Z"⟩
abbrev cX4_isPlace : ByteArray := prog_1_method_41_code
def yX4_isPlace : MethodName := ⟨RX4, "isPlace", "(II)Z"⟩
abbrev cX4_isPrint : ByteArray := prog_1_method_42_code
def yX4_isPrint : MethodName := ⟨RX4, "isPrint", "(IIIII)Z"⟩
abbrev cX4_isDip : ByteArray := prog_1_method_43_code
def yX4_isDip : MethodName := ⟨RX4, "isDip", "(II)Z"⟩
abbrev cX4_wholePrints : ByteArray := prog_1_method_44_code
def yX4_wholePrints : MethodName := ⟨RX4, "wholePrints", "(II)I"⟩
abbrev cX4_leftOfEdge : ByteArray := prog_1_method_45_code
def yX4_leftOfEdge : MethodName := ⟨RX4, "leftOfEdge", "(II)I"⟩
abbrev cX4_placeEverywhere : ByteArray := prog_1_method_46_code
def yX4_placeEverywhere : MethodName := ⟨RX4, "placeEverywhere", "(I)V"⟩
abbrev cX4_placingNumber : ByteArray := prog_1_method_47_code
def yX4_placingNumber : MethodName := ⟨RX4, "placingNumber", "(I)I"⟩
abbrev cX4_isWhollyOnSheet : ByteArray := prog_1_method_48_code
def yX4_isWhollyOnSheet : MethodName := ⟨RX4, "isWhollyOnSheet", "(I)Z"⟩
abbrev cX4_firstCovering : ByteArray := prog_1_method_49_code
def yX4_firstCovering : MethodName := ⟨RX4, "firstCovering", "(J)I"⟩
abbrev cX4_firstOfTwoCovering : ByteArray := prog_1_method_50_code
def yX4_firstOfTwoCovering : MethodName := ⟨RX4, "firstOfTwoCovering", "(J)I"⟩
abbrev cX4_fits : ByteArray := prog_1_method_51_code
def yX4_fits : MethodName := ⟨RX4, "fits", "(JJJ)Z"⟩
abbrev cX4_keepFitting : ByteArray := prog_1_method_52_code
def yX4_keepFitting : MethodName := ⟨RX4, "keepFitting", "()I"⟩
abbrev cX4_howManyInk : ByteArray := prog_1_method_53_code
def yX4_howManyInk : MethodName := ⟨RX4, "howManyInk", "(II)I"⟩
abbrev cX4_cutAway : ByteArray := prog_1_method_54_code
def yX4_cutAway : MethodName := ⟨RX4, "cutAway", "(IIII)I"⟩
abbrev cX4_setFraction : ByteArray := prog_1_method_55_code
def yX4_setFraction : MethodName := ⟨RX4, "setFraction", "(JJ)V"⟩
abbrev cX4_nextNumber : ByteArray := prog_1_method_56_code
def yX4_nextNumber : MethodName := ⟨RX4, "nextNumber", "(J)J"⟩
abbrev cX4_drawn : ByteArray := prog_1_method_57_code
def yX4_drawn : MethodName := ⟨RX4, "drawn", "(JI)I"⟩
abbrev cX4_howMany : ByteArray := prog_1_method_58_code
def yX4_howMany : MethodName := ⟨RX4, "howMany", "(I)I"⟩
def RX5 : String := "PotatoPrintsModel"
def TX5 : u_T := fun k => match k with
  | 0 => ("PotatoPrintsModel", "st", "[I", true)
  | 1 => ("PotatoPrintsModel", "above", "J", false)
  | 2 => ("PotatoPrintsModel", "below", "J", false)
  | 3 => ("PotatoPrintsModel", "refused", "[I", true)
  | 4 => ("PotatoPrintsModel", "inks", "[I", true)
  | 5 => ("PotatoPrintsModel", "ahead", "[I", true)
  | 6 => ("PotatoPrintsModel", "undoMany", "I", false)
  | 7 => ("PotatoPrintsModel", "text", "[I", true)
  | 8 => ("PotatoPrintsModel", "bytes", "I", false)
  | 9 => ("PotatoPrintsModel", "place", "I", false)
  | 10 => ("PotatoPrintsModel", "token", "I", false)
  | 11 => ("PotatoPrintsModel", "value", "I", false)
  | 12 => ("PotatoPrintsModel", "begins", "I", false)
  | 13 => ("PotatoPrintsModel", "rows", "[I", true)
  | 14 => ("PotatoPrintsModel", "wanted", "[I", true)
  | 15 => ("PotatoPrintsModel", "inked", "[I", true)
  | 16 => ("PotatoPrintsModel", "aside", "[I", true)
  | 17 => ("PotatoPrintsModel", "drawn", "J", false)
  | 18 => ("PotatoPrintsModel", "isKept", "[Z", true)
  | 19 => ("PotatoPrintsModel", "kept", "[I", true)
  | 20 => ("PotatoPrintsModel", "keptAhead", "[I", true)
  | _ => ("PotatoPrintsModel", "keptMany", "[I", true)
def tyX5 : Nat → FieldType := fun k => match k with
  | 0 => .array .int
  | 1 => .long
  | 2 => .long
  | 3 => .array .int
  | 4 => .array .int
  | 5 => .array .int
  | 6 => .int
  | 7 => .array .int
  | 8 => .int
  | 9 => .int
  | 10 => .int
  | 11 => .int
  | 12 => .int
  | 13 => .array .int
  | 14 => .array .int
  | 15 => .array .int
  | 16 => .array .int
  | 17 => .long
  | 18 => .array .boolean
  | 19 => .array .int
  | 20 => .array .int
  | _ => .array .int
theorem nmX5 : ∀ a, a < 22 → ∀ b, b < 22 → a ≠ b → (TX5 a).2.1 ≠ (TX5 b).2.1 := by decide +kernel
theorem tyX5_ok : ∀ k, k < 22 → parseFieldDescriptor (TX5 k).2.2.1 = some (tyX5 k) := by decide +kernel
abbrev cX5_init : ByteArray := prog_7_method_1_code
def yX5_init : MethodName := ⟨RX5, "<init>", "()V"⟩
abbrev cX5_in : ByteArray := prog_7_method_2_code
def yX5_in : MethodName := ⟨RX5, "in", "(JJJ)Z"⟩
abbrev cX5_has : ByteArray := prog_7_method_3_code
def yX5_has : MethodName := ⟨RX5, "has", "(II)Z"⟩
abbrev cX5_bad : ByteArray := prog_7_method_5_code
def yX5_bad : MethodName := ⟨RX5, "bad", "()I"⟩
abbrev cX5_no : ByteArray := prog_7_method_6_code
def yX5_no : MethodName := ⟨RX5, "no", "()I"⟩
abbrev cX5_full : ByteArray := prog_7_method_7_code
def yX5_full : MethodName := ⟨RX5, "full", "()I"⟩
abbrev cX5_isWhat : ByteArray := prog_7_method_8_code
def yX5_isWhat : MethodName := ⟨RX5, "isWhat", "(I)Z"⟩
abbrev cX5_isPlace : ByteArray := prog_7_method_9_code
def yX5_isPlace : MethodName := ⟨RX5, "isPlace", "(II)Z"⟩
abbrev cX5_isPrint : ByteArray := prog_7_method_10_code
def yX5_isPrint : MethodName := ⟨RX5, "isPrint", "(IIIII)Z"⟩
abbrev cX5_lands : ByteArray := prog_7_method_11_code
def yX5_lands : MethodName := ⟨RX5, "lands", "(II)I"⟩
abbrev cX5_looksOf : ByteArray := prog_7_method_12_code
def yX5_looksOf : MethodName := ⟨RX5, "looksOf", "(II)I"⟩
abbrev cX5_plain : ByteArray := prog_7_method_13_code
def yX5_plain : MethodName := ⟨RX5, "plain", "(I)I"⟩
abbrev cX5_darkBy : ByteArray := prog_7_method_14_code
def yX5_darkBy : MethodName := ⟨RX5, "darkBy", "(II)I"⟩
abbrev cX5_takesBy : ByteArray := prog_7_method_15_code
def yX5_takesBy : MethodName := ⟨RX5, "takesBy", "(II)I"⟩
abbrev cX5_layLooks : ByteArray := prog_7_method_16_code
def yX5_layLooks : MethodName := ⟨RX5, "layLooks", "(IIIIZ)V"⟩
abbrev cX5_inkBy : ByteArray := prog_7_method_17_code
def yX5_inkBy : MethodName := ⟨RX5, "inkBy", "(IIIII)V"⟩
abbrev cX5_darker : ByteArray := prog_7_method_18_code
def yX5_darker : MethodName := ⟨RX5, "darker", "()I"⟩
abbrev cX5_printOne : ByteArray := prog_7_method_19_code
def yX5_printOne : MethodName := ⟨RX5, "printOne", "(IIIII)I"⟩
abbrev cX5_darkMany : ByteArray := prog_7_method_20_code
def yX5_darkMany : MethodName := ⟨RX5, "darkMany", "()I"⟩
abbrev cX5_anew : ByteArray := prog_7_method_21_code
def yX5_anew : MethodName := ⟨RX5, "anew", "(I)V"⟩
abbrev cX5_table : ByteArray := prog_7_method_22_code
def yX5_table : MethodName := ⟨RX5, "table", "(I)I"⟩
abbrev cX5_cut : ByteArray := prog_7_method_23_code
def yX5_cut : MethodName := ⟨RX5, "cut", "(II)I"⟩
abbrev cX5_note : ByteArray := prog_7_method_24_code
def yX5_note : MethodName := ⟨RX5, "note", "()V"⟩
abbrev cX5_dip : ByteArray := prog_7_method_25_code
def yX5_dip : MethodName := ⟨RX5, "dip", "(I)I"⟩
abbrev cX5_print : ByteArray := prog_7_method_26_code
def yX5_print : MethodName := ⟨RX5, "print", "(IIIII)I"⟩
abbrev cX5_undo : ByteArray := prog_7_method_27_code
def yX5_undo : MethodName := ⟨RX5, "undo", "()I"⟩
abbrev cX5_type : ByteArray := prog_7_method_28_code
def yX5_type : MethodName := ⟨RX5, "type", "(I)I"⟩
abbrev cX5_clear : ByteArray := prog_7_method_29_code
def yX5_clear : MethodName := ⟨RX5, "clear", "()I"⟩
abbrev cX5_byteAt : ByteArray := prog_7_method_30_code
def yX5_byteAt : MethodName := ⟨RX5, "byteAt", "(I)I"⟩
abbrev cX5_nextToken : ByteArray := prog_7_method_31_code
def yX5_nextToken : MethodName := ⟨RX5, "nextToken", "()V"⟩
abbrev cX5_isWord : ByteArray := prog_7_method_32_code
def yX5_isWord : MethodName := ⟨RX5, "isWord", "(IIIIII)Z"⟩
abbrev cX5_reads : ByteArray := prog_7_method_33_code
def yX5_reads : MethodName := ⟨RX5, "reads", "(II)Z"⟩
abbrev cX5_readItem : ByteArray := prog_7_method_34_code
def yX5_readItem : MethodName := ⟨RX5, "readItem", "(ZZ)Z"⟩
abbrev cX5_readText : ByteArray := prog_7_method_35_code
def yX5_readText : MethodName := ⟨RX5, "readText", "(Z)I"⟩
abbrev cX5_read : ByteArray := prog_7_method_36_code
def yX5_read : MethodName := ⟨RX5, "read", "()I"⟩
abbrev cX5_dark : ByteArray := prog_7_method_37_code
def yX5_dark : MethodName := ⟨RX5, "dark", "(II)I"⟩
abbrev cX5_looks : ByteArray := prog_7_method_38_code
def yX5_looks : MethodName := ⟨RX5, "looks", "(II)I"⟩
abbrev cX5_alike : ByteArray := prog_7_method_39_code
def yX5_alike : MethodName := ⟨RX5, "alike", "(I)I"⟩
abbrev cX5_adds : ByteArray := prog_7_method_40_code
def yX5_adds : MethodName := ⟨RX5, "adds", "(IIIII)I"⟩
abbrev cX5_force : ByteArray := prog_7_method_41_code
def yX5_force : MethodName := ⟨RX5, "force", "(III)I"⟩
abbrev cX5_printsOf : ByteArray := prog_7_method_42_code
def yX5_printsOf : MethodName := ⟨RX5, "printsOf", "(III)I"⟩
abbrev cX5_fromOne : ByteArray := prog_7_method_43_code
def yX5_fromOne : MethodName := ⟨RX5, "fromOne", "(III)I"⟩
abbrev cX5_dips : ByteArray := prog_7_method_44_code
def yX5_dips : MethodName := ⟨RX5, "dips", "(IIII)I"⟩
abbrev cX5_leftOf : ByteArray := prog_7_method_45_code
def yX5_leftOf : MethodName := ⟨RX5, "leftOf", "(II)I"⟩
abbrev cX5_edge : ByteArray := prog_7_method_46_code
def yX5_edge : MethodName := ⟨RX5, "edge", "(III)I"⟩
abbrev cX5_gap : ByteArray := prog_7_method_47_code
def yX5_gap : MethodName := ⟨RX5, "gap", "(I)I"⟩
abbrev cX5_covers : ByteArray := prog_7_method_48_code
def yX5_covers : MethodName := ⟨RX5, "covers", "(IIII)Z"⟩
abbrev cX5_numberOf : ByteArray := prog_7_method_49_code
def yX5_numberOf : MethodName := ⟨RX5, "numberOf", "(III)I"⟩
abbrev cX5_hit : ByteArray := prog_7_method_50_code
def yX5_hit : MethodName := ⟨RX5, "hit", "(II)I"⟩
abbrev cX5_want : ByteArray := prog_7_method_51_code
def yX5_want : MethodName := ⟨RX5, "want", "(II)I"⟩
abbrev cX5_findWanted : ByteArray := prog_7_method_52_code
def yX5_findWanted : MethodName := ⟨RX5, "findWanted", "(I)V"⟩
abbrev cX5_numberBy : ByteArray := prog_7_method_53_code
def yX5_numberBy : MethodName := ⟨RX5, "numberBy", "(I)I"⟩
abbrev cX5_cover : ByteArray := prog_7_method_54_code
def yX5_cover : MethodName := ⟨RX5, "cover", "(II)I"⟩
abbrev cX5_shrunk : ByteArray := prog_7_method_55_code
def yX5_shrunk : MethodName := ⟨RX5, "shrunk", "(I)I"⟩
abbrev cX5_shrinks : ByteArray := prog_7_method_56_code
def yX5_shrinks : MethodName := ⟨RX5, "shrinks", "(II)I"⟩
abbrev cX5_gone : ByteArray := prog_7_method_57_code
def yX5_gone : MethodName := ⟨RX5, "gone", "(I)I"⟩
abbrev cX5_seen : ByteArray := prog_7_method_58_code
def yX5_seen : MethodName := ⟨RX5, "seen", "(III)I"⟩
abbrev cX5_forget : ByteArray := prog_7_method_59_code
def yX5_forget : MethodName := ⟨RX5, "forget", "(I)I"⟩
abbrev cX5_canBe : ByteArray := prog_7_method_60_code
def yX5_canBe : MethodName := ⟨RX5, "canBe", "(II)Z"⟩
abbrev cX5_which : ByteArray := prog_7_method_61_code
def yX5_which : MethodName := ⟨RX5, "which", "(II)I"⟩
abbrev cX5_look : ByteArray := prog_7_method_62_code
def yX5_look : MethodName := ⟨RX5, "look", "(I)I"⟩
abbrev cX5_bitten : ByteArray := prog_7_method_63_code
def yX5_bitten : MethodName := ⟨RX5, "bitten", "(IIIII)I"⟩
abbrev cX5_setFraction : ByteArray := prog_7_method_64_code
def yX5_setFraction : MethodName := ⟨RX5, "setFraction", "(JJ)V"⟩
abbrev cX5_slips : ByteArray := prog_7_method_65_code
def yX5_slips : MethodName := ⟨RX5, "slips", "(IIIIIII)I"⟩
abbrev cX5_draw : ByteArray := prog_7_method_66_code
def yX5_draw : MethodName := ⟨RX5, "draw", "(I)I"⟩
abbrev cX5_sheets : ByteArray := prog_7_method_67_code
def yX5_sheets : MethodName := ⟨RX5, "sheets", "(II)I"⟩
abbrev cX5_part : ByteArray := prog_7_method_68_code
def yX5_part : MethodName := ⟨RX5, "part", "(I)J"⟩
abbrev cX5_image : ByteArray := prog_7_method_69_code
def yX5_image : MethodName := ⟨RX5, "image", "(I)I"⟩
abbrev cX5_from : ByteArray := prog_7_method_70_code
def yX5_from : MethodName := ⟨RX5, "from", "(I)I"⟩
abbrev cX5_status : ByteArray := prog_7_method_71_code
def yX5_status : MethodName := ⟨RX5, "status", "(I)I"⟩
abbrev cX5_countOf : ByteArray := prog_7_method_72_code
def yX5_countOf : MethodName := ⟨RX5, "countOf", "(I)I"⟩
abbrev cX5_count : ByteArray := prog_7_method_73_code
def yX5_count : MethodName := ⟨RX5, "count", "(I)I"⟩
abbrev cX5_digest : ByteArray := prog_7_method_74_code
def yX5_digest : MethodName := ⟨RX5, "digest", "()J"⟩
def RJx145de : String := "java/io/Serializable"
def TJx145de : u_T := fun k => match k with
  | _ => ("", "", "", false)
def tyJx145de : Nat → FieldType := fun k => match k with
  | _ => .int
theorem nmJx145de : ∀ a, a < 0 → ∀ b, b < 0 → a ≠ b → (TJx145de a).2.1 ≠ (TJx145de b).2.1 := by decide +kernel
theorem tyJx145de_ok : ∀ k, k < 0 → parseFieldDescriptor (TJx145de k).2.2.1 = some (tyJx145de k) := by decide +kernel
def RJx9f9b0 : String := "java/lang/CharSequence"
def TJx9f9b0 : u_T := fun k => match k with
  | _ => ("", "", "", false)
def tyJx9f9b0 : Nat → FieldType := fun k => match k with
  | _ => .int
theorem nmJx9f9b0 : ∀ a, a < 0 → ∀ b, b < 0 → a ≠ b → (TJx9f9b0 a).2.1 ≠ (TJx9f9b0 b).2.1 := by decide +kernel
theorem tyJx9f9b0_ok : ∀ k, k < 0 → parseFieldDescriptor (TJx9f9b0 k).2.2.1 = some (tyJx9f9b0 k) := by decide +kernel
def RJxb160c : String := "java/lang/Comparable"
def TJxb160c : u_T := fun k => match k with
  | _ => ("", "", "", false)
def tyJxb160c : Nat → FieldType := fun k => match k with
  | _ => .int
theorem nmJxb160c : ∀ a, a < 0 → ∀ b, b < 0 → a ≠ b → (TJxb160c a).2.1 ≠ (TJxb160c b).2.1 := by decide +kernel
theorem tyJxb160c_ok : ∀ k, k < 0 → parseFieldDescriptor (TJxb160c k).2.2.1 = some (tyJxb160c k) := by decide +kernel
def RJ13 : String := "java/lang/Long"
def TJ13 : u_T := fun k => match k with
  | _ => ("", "", "", false)
def tyJ13 : Nat → FieldType := fun k => match k with
  | _ => .int
theorem nmJ13 : ∀ a, a < 0 → ∀ b, b < 0 → a ≠ b → (TJ13 a).2.1 ≠ (TJ13 b).2.1 := by decide +kernel
theorem tyJ13_ok : ∀ k, k < 0 → parseFieldDescriptor (TJ13 k).2.2.1 = some (tyJ13 k) := by decide +kernel
abbrev cJ13_bitCount_95d88 : ByteArray := prog_8_method_50_code
def yJ13_bitCount_95d88 : MethodName := ⟨RJ13, "bitCount", "(J)I"⟩
def RJ9 : String := "java/lang/Math"
def TJ9 : u_T := fun k => match k with
  | _ => ("", "", "", false)
def tyJ9 : Nat → FieldType := fun k => match k with
  | _ => .int
theorem nmJ9 : ∀ a, a < 0 → ∀ b, b < 0 → a ≠ b → (TJ9 a).2.1 ≠ (TJ9 b).2.1 := by decide +kernel
theorem tyJ9_ok : ∀ k, k < 0 → parseFieldDescriptor (TJ9 k).2.2.1 = some (tyJ9 k) := by decide +kernel
abbrev cJ9_max_7cf53 : ByteArray := prog_9_method_65_code
def yJ9_max_7cf53 : MethodName := ⟨RJ9, "max", "(II)I"⟩
abbrev cJ9_min_7cf53 : ByteArray := prog_9_method_69_code
def yJ9_min_7cf53 : MethodName := ⟨RJ9, "min", "(II)I"⟩
def RJ0 : String := "java/lang/String"
def TJ0 : u_T := fun k => match k with
  | _ => ("", "", "", false)
def tyJ0 : Nat → FieldType := fun k => match k with
  | _ => .int
theorem nmJ0 : ∀ a, a < 0 → ∀ b, b < 0 → a ≠ b → (TJ0 a).2.1 ≠ (TJ0 b).2.1 := by decide +kernel
theorem tyJ0_ok : ∀ k, k < 0 → parseFieldDescriptor (TJ0 k).2.2.1 = some (tyJ0 k) := by decide +kernel
abbrev cJ0_length_8abf5 : ByteArray := prog_10_method_54_code
def yJ0_length_8abf5 : MethodName := ⟨RJ0, "length", "()I"⟩
abbrev cJ0_charAt_5068e : ByteArray := prog_10_method_56_code
def yJ0_charAt_5068e : MethodName := ⟨RJ0, "charAt", "(I)C"⟩
abbrev cJ0_coder_7d493 : ByteArray := prog_10_method_152_code
def yJ0_coder_7d493 : MethodName := ⟨RJ0, "coder", "()B"⟩
abbrev cJ0_isLatin1_aae02 : ByteArray := prog_10_method_154_code
def yJ0_isLatin1_aae02 : MethodName := ⟨RJ0, "isLatin1", "()Z"⟩
abbrev cJ0_checkIndex_df160 : ByteArray := prog_10_method_155_code
def yJ0_checkIndex_df160 : MethodName := ⟨RJ0, "checkIndex", "(II)V"⟩
def RJ1 : String := "java/lang/StringLatin1"
def TJ1 : u_T := fun k => match k with
  | _ => ("", "", "", false)
def tyJ1 : Nat → FieldType := fun k => match k with
  | _ => .int
theorem nmJ1 : ∀ a, a < 0 → ∀ b, b < 0 → a ≠ b → (TJ1 a).2.1 ≠ (TJ1 b).2.1 := by decide +kernel
theorem tyJ1_ok : ∀ k, k < 0 → parseFieldDescriptor (TJ1 k).2.2.1 = some (tyJ1 k) := by decide +kernel
abbrev cJ1_charAt_3b067 : ByteArray := prog_11_method_2_code
def yJ1_charAt_3b067 : MethodName := ⟨RJ1, "charAt", "([BI)C"⟩
def RJ2 : String := "java/lang/StringUTF16"
def TJ2 : u_T := fun k => match k with
  | _ => ("", "", "", false)
def tyJ2 : Nat → FieldType := fun k => match k with
  | _ => .int
theorem nmJ2 : ∀ a, a < 0 → ∀ b, b < 0 → a ≠ b → (TJ2 a).2.1 ≠ (TJ2 b).2.1 := by decide +kernel
theorem tyJ2_ok : ∀ k, k < 0 → parseFieldDescriptor (TJ2 k).2.2.1 = some (tyJ2 k) := by decide +kernel
abbrev cJ2_getChar_3b067 : ByteArray := prog_12_method_5_code
def yJ2_getChar_3b067 : MethodName := ⟨RJ2, "getChar", "([BI)C"⟩
abbrev cJ2_length_9d52b : ByteArray := prog_12_method_6_code
def yJ2_length_9d52b : MethodName := ⟨RJ2, "length", "([B)I"⟩
abbrev cJ2_charAt_3b067 : ByteArray := prog_12_method_83_code
def yJ2_charAt_3b067 : MethodName := ⟨RJ2, "charAt", "([BI)C"⟩
abbrev cJ2_checkIndex_2214a : ByteArray := prog_12_method_91_code
def yJ2_checkIndex_2214a : MethodName := ⟨RJ2, "checkIndex", "(I[B)V"⟩
def RJ10 : String := "java/lang/System"
def TJ10 : u_T := fun k => match k with
  | _ => ("", "", "", false)
def tyJ10 : Nat → FieldType := fun k => match k with
  | _ => .int
theorem nmJ10 : ∀ a, a < 0 → ∀ b, b < 0 → a ≠ b → (TJ10 a).2.1 ≠ (TJ10 b).2.1 := by decide +kernel
theorem tyJ10_ok : ∀ k, k < 0 → parseFieldDescriptor (TJ10 k).2.2.1 = some (tyJ10 k) := by decide +kernel
def RJxfd54e : String := "java/lang/constant/Constable"
def TJxfd54e : u_T := fun k => match k with
  | _ => ("", "", "", false)
def tyJxfd54e : Nat → FieldType := fun k => match k with
  | _ => .int
theorem nmJxfd54e : ∀ a, a < 0 → ∀ b, b < 0 → a ≠ b → (TJxfd54e a).2.1 ≠ (TJxfd54e b).2.1 := by decide +kernel
theorem tyJxfd54e_ok : ∀ k, k < 0 → parseFieldDescriptor (TJxfd54e k).2.2.1 = some (tyJxfd54e k) := by decide +kernel
def RJx3cf43 : String := "java/lang/constant/ConstantDesc"
def TJx3cf43 : u_T := fun k => match k with
  | _ => ("", "", "", false)
def tyJx3cf43 : Nat → FieldType := fun k => match k with
  | _ => .int
theorem nmJx3cf43 : ∀ a, a < 0 → ∀ b, b < 0 → a ≠ b → (TJx3cf43 a).2.1 ≠ (TJx3cf43 b).2.1 := by decide +kernel
theorem tyJx3cf43_ok : ∀ k, k < 0 → parseFieldDescriptor (TJx3cf43 k).2.2.1 = some (tyJx3cf43 k) := by decide +kernel
def RJ7 : String := "java/util/Arrays"
def TJ7 : u_T := fun k => match k with
  | _ => ("", "", "", false)
def tyJ7 : Nat → FieldType := fun k => match k with
  | _ => .int
theorem nmJ7 : ∀ a, a < 0 → ∀ b, b < 0 → a ≠ b → (TJ7 a).2.1 ≠ (TJ7 b).2.1 := by decide +kernel
theorem tyJ7_ok : ∀ k, k < 0 → parseFieldDescriptor (TJ7 k).2.2.1 = some (tyJ7 k) := by decide +kernel
abbrev cJ7_fill_53178 : ByteArray := prog_14_method_103_code
def yJ7_fill_53178 : MethodName := ⟨RJ7, "fill", "([II)V"⟩
def RJ3 : String := "jdk/internal/util/Preconditions"
def TJ3 : u_T := fun k => match k with
  | _ => ("", "", "", false)
def tyJ3 : Nat → FieldType := fun k => match k with
  | _ => .int
theorem nmJ3 : ∀ a, a < 0 → ∀ b, b < 0 → a ≠ b → (TJ3 a).2.1 ≠ (TJ3 b).2.1 := by decide +kernel
theorem tyJ3_ok : ∀ k, k < 0 → parseFieldDescriptor (TJ3 k).2.2.1 = some (tyJ3 k) := by decide +kernel
abbrev cJ3_checkIndex_8e157 : ByteArray := prog_15_method_11_code
def yJ3_checkIndex_8e157 : MethodName := ⟨RJ3, "checkIndex", "(IILjava/util/function/BiFunction;)I"⟩
def RL : String := "PotatoPrintsLaw"
abbrev cL_law : ByteArray := code
def yL_law : MethodName := ⟨RL, "law", "([I)Z"⟩
abbrev vwCl : List vw_C := [(RX2, TX2, 11), (RX3, TX3, 7), (RX4, TX4, 10), (RX5, TX5, 22)]
end
section
theorem dX0_darkness_0 : decode cX0_darkness 0 = .ok (.iload_n 1, 1) := by decide +kernel
theorem dX0_darkness_1 : decode cX0_darkness 1 = .ok (.bipush 9, 2) := by decide +kernel
theorem dX0_darkness_3 : decode cX0_darkness 3 = .ok (.invokestatic 9, 3) := by decide +kernel
theorem dX0_darkness_6 : decode cX0_darkness 6 = .ok (.istore_n 2, 1) := by decide +kernel
theorem dX0_darkness_7 : decode cX0_darkness 7 = .ok (.iload_n 2, 1) := by decide +kernel
theorem dX0_darkness_8 : decode cX0_darkness 8 = .ok (.ifCond .gt 5, 3) := by decide +kernel
theorem dX0_darkness_11 : decode cX0_darkness 11 = .ok (.iconst 0, 1) := by decide +kernel
theorem dX0_darkness_12 : decode cX0_darkness 12 = .ok (.ireturn, 1) := by decide +kernel
theorem dX0_darkness_13 : decode cX0_darkness 13 = .ok (.iload_n 2, 1) := by decide +kernel
theorem dX0_darkness_14 : decode cX0_darkness 14 = .ok (.iconst 2, 1) := by decide +kernel
theorem dX0_darkness_15 : decode cX0_darkness 15 = .ok (.iadd, 1) := by decide +kernel
theorem dX0_darkness_16 : decode cX0_darkness 16 = .ok (.bipush 9, 2) := by decide +kernel
theorem dX0_darkness_18 : decode cX0_darkness 18 = .ok (.invokestatic 9, 3) := by decide +kernel
theorem dX0_darkness_21 : decode cX0_darkness 21 = .ok (.istore_n 3, 1) := by decide +kernel
theorem dX0_darkness_22 : decode cX0_darkness 22 = .ok (.iload_n 0, 1) := by decide +kernel
theorem dX0_darkness_23 : decode cX0_darkness 23 = .ok (.tableswitch 45 1 5 #[33, 35, 33, 35, 41], 33) := by decide +kernel
theorem dX0_darkness_56 : decode cX0_darkness 56 = .ok (.iload_n 3, 1) := by decide +kernel
theorem dX0_darkness_57 : decode cX0_darkness 57 = .ok (.ireturn, 1) := by decide +kernel
theorem dX0_darkness_58 : decode cX0_darkness 58 = .ok (.iload_n 2, 1) := by decide +kernel
theorem dX0_darkness_59 : decode cX0_darkness 59 = .ok (.iconst 1, 1) := by decide +kernel
theorem dX0_darkness_60 : decode cX0_darkness 60 = .ok (.iadd, 1) := by decide +kernel
theorem dX0_darkness_61 : decode cX0_darkness 61 = .ok (.iconst 2, 1) := by decide +kernel
theorem dX0_darkness_62 : decode cX0_darkness 62 = .ok (.idiv, 1) := by decide +kernel
theorem dX0_darkness_63 : decode cX0_darkness 63 = .ok (.ireturn, 1) := by decide +kernel
theorem dX0_darkness_64 : decode cX0_darkness 64 = .ok (.iload_n 3, 1) := by decide +kernel
theorem dX0_darkness_65 : decode cX0_darkness 65 = .ok (.iconst 1, 1) := by decide +kernel
theorem dX0_darkness_66 : decode cX0_darkness 66 = .ok (.isub, 1) := by decide +kernel
theorem dX0_darkness_67 : decode cX0_darkness 67 = .ok (.ireturn, 1) := by decide +kernel
theorem dX0_darkness_68 : decode cX0_darkness 68 = .ok (.iload_n 2, 1) := by decide +kernel
theorem dX0_darkness_69 : decode cX0_darkness 69 = .ok (.ireturn, 1) := by decide +kernel
theorem dX0_isHard_0 : decode cX0_isHard 0 = .ok (.iload_n 0, 1) := by decide +kernel
theorem dX0_isHard_1 : decode cX0_isHard 1 = .ok (.iconst 1, 1) := by decide +kernel
theorem dX0_isHard_2 : decode cX0_isHard 2 = .ok (.if_icmp .eq 13, 3) := by decide +kernel
theorem dX0_isHard_5 : decode cX0_isHard 5 = .ok (.iload_n 0, 1) := by decide +kernel
theorem dX0_isHard_6 : decode cX0_isHard 6 = .ok (.iconst 3, 1) := by decide +kernel
theorem dX0_isHard_7 : decode cX0_isHard 7 = .ok (.if_icmp .eq 8, 3) := by decide +kernel
theorem dX0_isHard_10 : decode cX0_isHard 10 = .ok (.iload_n 0, 1) := by decide +kernel
theorem dX0_isHard_11 : decode cX0_isHard 11 = .ok (.iconst 5, 1) := by decide +kernel
theorem dX0_isHard_12 : decode cX0_isHard 12 = .ok (.if_icmp .ne 7, 3) := by decide +kernel
theorem dX0_isHard_15 : decode cX0_isHard 15 = .ok (.iconst 1, 1) := by decide +kernel
theorem dX0_isHard_16 : decode cX0_isHard 16 = .ok (.goto 4, 3) := by decide +kernel
theorem dX0_isHard_19 : decode cX0_isHard 19 = .ok (.iconst 0, 1) := by decide +kernel
theorem dX0_isHard_20 : decode cX0_isHard 20 = .ok (.ireturn, 1) := by decide +kernel
theorem dX0_paintTaken_0 : decode cX0_paintTaken 0 = .ok (.iload_n 0, 1) := by decide +kernel
theorem dX0_paintTaken_1 : decode cX0_paintTaken 1 = .ok (.invokestatic 17, 3) := by decide +kernel
theorem dX0_paintTaken_4 : decode cX0_paintTaken 4 = .ok (.ifCond .eq 7, 3) := by decide +kernel
theorem dX0_paintTaken_7 : decode cX0_paintTaken 7 = .ok (.iconst 2, 1) := by decide +kernel
theorem dX0_paintTaken_8 : decode cX0_paintTaken 8 = .ok (.goto 4, 3) := by decide +kernel
theorem dX0_paintTaken_11 : decode cX0_paintTaken 11 = .ok (.iconst 1, 1) := by decide +kernel
theorem dX0_paintTaken_12 : decode cX0_paintTaken 12 = .ok (.iload_n 1, 1) := by decide +kernel
theorem dX0_paintTaken_13 : decode cX0_paintTaken 13 = .ok (.invokestatic 9, 3) := by decide +kernel
theorem dX0_paintTaken_16 : decode cX0_paintTaken 16 = .ok (.ireturn, 1) := by decide +kernel
theorem dX0_printsOfOneDip_0 : decode cX0_printsOfOneDip 0 = .ok (.iload_n 1, 1) := by decide +kernel
theorem dX0_printsOfOneDip_1 : decode cX0_printsOfOneDip 1 = .ok (.istore_n 3, 1) := by decide +kernel
theorem dX0_printsOfOneDip_2 : decode cX0_printsOfOneDip 2 = .ok (.iconst 0, 1) := by decide +kernel
theorem dX0_printsOfOneDip_3 : decode cX0_printsOfOneDip 3 = .ok (.istore 4, 2) := by decide +kernel
theorem dX0_printsOfOneDip_5 : decode cX0_printsOfOneDip 5 = .ok (.iload_n 3, 1) := by decide +kernel
theorem dX0_printsOfOneDip_6 : decode cX0_printsOfOneDip 6 = .ok (.ifCond .le 33, 3) := by decide +kernel
theorem dX0_printsOfOneDip_9 : decode cX0_printsOfOneDip 9 = .ok (.iload 4, 2) := by decide +kernel
theorem dX0_printsOfOneDip_11 : decode cX0_printsOfOneDip 11 = .ok (.bipush 12, 2) := by decide +kernel
theorem dX0_printsOfOneDip_13 : decode cX0_printsOfOneDip 13 = .ok (.if_icmp .ge 26, 3) := by decide +kernel
theorem dX0_printsOfOneDip_16 : decode cX0_printsOfOneDip 16 = .ok (.iload_n 0, 1) := by decide +kernel
theorem dX0_printsOfOneDip_17 : decode cX0_printsOfOneDip 17 = .ok (.iload_n 3, 1) := by decide +kernel
theorem dX0_printsOfOneDip_18 : decode cX0_printsOfOneDip 18 = .ok (.invokestatic 21, 3) := by decide +kernel
theorem dX0_printsOfOneDip_21 : decode cX0_printsOfOneDip 21 = .ok (.iload_n 2, 1) := by decide +kernel
theorem dX0_printsOfOneDip_22 : decode cX0_printsOfOneDip 22 = .ok (.if_icmp .lt 17, 3) := by decide +kernel
theorem dX0_printsOfOneDip_25 : decode cX0_printsOfOneDip 25 = .ok (.iload_n 3, 1) := by decide +kernel
theorem dX0_printsOfOneDip_26 : decode cX0_printsOfOneDip 26 = .ok (.iload_n 0, 1) := by decide +kernel
theorem dX0_printsOfOneDip_27 : decode cX0_printsOfOneDip 27 = .ok (.iload_n 3, 1) := by decide +kernel
theorem dX0_printsOfOneDip_28 : decode cX0_printsOfOneDip 28 = .ok (.invokestatic 24, 3) := by decide +kernel
theorem dX0_printsOfOneDip_31 : decode cX0_printsOfOneDip 31 = .ok (.isub, 1) := by decide +kernel
theorem dX0_printsOfOneDip_32 : decode cX0_printsOfOneDip 32 = .ok (.istore_n 3, 1) := by decide +kernel
theorem dX0_printsOfOneDip_33 : decode cX0_printsOfOneDip 33 = .ok (.iinc 4 1, 3) := by decide +kernel
theorem dX0_printsOfOneDip_36 : decode cX0_printsOfOneDip 36 = .ok (.goto (-31), 3) := by decide +kernel
theorem dX0_printsOfOneDip_39 : decode cX0_printsOfOneDip 39 = .ok (.iload 4, 2) := by decide +kernel
theorem dX0_printsOfOneDip_41 : decode cX0_printsOfOneDip 41 = .ok (.ireturn, 1) := by decide +kernel
theorem dX0_slidColumn_0 : decode cX0_slidColumn 0 = .ok (.iload_n 0, 1) := by decide +kernel
theorem dX0_slidColumn_1 : decode cX0_slidColumn 1 = .ok (.iconst 3, 1) := by decide +kernel
theorem dX0_slidColumn_2 : decode cX0_slidColumn 2 = .ok (.if_icmp .eq 8, 3) := by decide +kernel
theorem dX0_slidColumn_5 : decode cX0_slidColumn 5 = .ok (.iload_n 0, 1) := by decide +kernel
theorem dX0_slidColumn_6 : decode cX0_slidColumn 6 = .ok (.iconst 5, 1) := by decide +kernel
theorem dX0_slidColumn_7 : decode cX0_slidColumn 7 = .ok (.if_icmp .ne 7, 3) := by decide +kernel
theorem dX0_slidColumn_10 : decode cX0_slidColumn 10 = .ok (.iconst 1, 1) := by decide +kernel
theorem dX0_slidColumn_11 : decode cX0_slidColumn 11 = .ok (.goto 4, 3) := by decide +kernel
theorem dX0_slidColumn_14 : decode cX0_slidColumn 14 = .ok (.iconst 0, 1) := by decide +kernel
theorem dX0_slidColumn_15 : decode cX0_slidColumn 15 = .ok (.istore_n 3, 1) := by decide +kernel
theorem dX0_slidColumn_16 : decode cX0_slidColumn 16 = .ok (.iload_n 3, 1) := by decide +kernel
theorem dX0_slidColumn_17 : decode cX0_slidColumn 17 = .ok (.ifCond .eq 15, 3) := by decide +kernel
theorem dX0_slidColumn_20 : decode cX0_slidColumn 20 = .ok (.iload_n 1, 1) := by decide +kernel
theorem dX0_slidColumn_21 : decode cX0_slidColumn 21 = .ok (.bipush 8, 2) := by decide +kernel
theorem dX0_slidColumn_23 : decode cX0_slidColumn 23 = .ok (.if_icmp .le 9, 3) := by decide +kernel
theorem dX0_slidColumn_26 : decode cX0_slidColumn 26 = .ok (.iload_n 2, 1) := by decide +kernel
theorem dX0_slidColumn_27 : decode cX0_slidColumn 27 = .ok (.iconst 1, 1) := by decide +kernel
theorem dX0_slidColumn_28 : decode cX0_slidColumn 28 = .ok (.iadd, 1) := by decide +kernel
theorem dX0_slidColumn_29 : decode cX0_slidColumn 29 = .ok (.goto 4, 3) := by decide +kernel
theorem dX0_slidColumn_32 : decode cX0_slidColumn 32 = .ok (.iload_n 2, 1) := by decide +kernel
theorem dX0_slidColumn_33 : decode cX0_slidColumn 33 = .ok (.ireturn, 1) := by decide +kernel
theorem dX0_fullCells_0 : decode cX0_fullCells 0 = .ok (.iload_n 2, 1) := by decide +kernel
theorem dX0_fullCells_1 : decode cX0_fullCells 1 = .ok (.iload_n 0, 1) := by decide +kernel
theorem dX0_fullCells_2 : decode cX0_fullCells 2 = .ok (.iload_n 1, 1) := by decide +kernel
theorem dX0_fullCells_3 : decode cX0_fullCells 3 = .ok (.iload_n 3, 1) := by decide +kernel
theorem dX0_fullCells_4 : decode cX0_fullCells 4 = .ok (.invokestatic 27, 3) := by decide +kernel
theorem dX0_fullCells_7 : decode cX0_fullCells 7 = .ok (.iload 4, 2) := by decide +kernel
theorem dX0_fullCells_9 : decode cX0_fullCells 9 = .ok (.invokestatic 31, 3) := by decide +kernel
theorem dX0_fullCells_12 : decode cX0_fullCells 12 = .ok (.lstore 5, 2) := by decide +kernel
theorem dX0_fullCells_14 : decode cX0_fullCells 14 = .ok (.iload_n 0, 1) := by decide +kernel
theorem dX0_fullCells_15 : decode cX0_fullCells 15 = .ok (.iconst 4, 1) := by decide +kernel
theorem dX0_fullCells_16 : decode cX0_fullCells 16 = .ok (.if_icmp .ne 12, 3) := by decide +kernel
theorem dX0_fullCells_19 : decode cX0_fullCells 19 = .ok (.iload_n 1, 1) := by decide +kernel
theorem dX0_fullCells_20 : decode cX0_fullCells 20 = .ok (.iconst 4, 1) := by decide +kernel
theorem dX0_fullCells_21 : decode cX0_fullCells 21 = .ok (.if_icmp .ge 7, 3) := by decide +kernel
theorem dX0_fullCells_24 : decode cX0_fullCells 24 = .ok (.iconst 1, 1) := by decide +kernel
theorem dX0_fullCells_25 : decode cX0_fullCells 25 = .ok (.goto 4, 3) := by decide +kernel
theorem dX0_fullCells_28 : decode cX0_fullCells 28 = .ok (.iconst 0, 1) := by decide +kernel
theorem dX0_fullCells_29 : decode cX0_fullCells 29 = .ok (.istore 7, 2) := by decide +kernel
theorem dX0_fullCells_31 : decode cX0_fullCells 31 = .ok (.iload 7, 2) := by decide +kernel
theorem dX0_fullCells_33 : decode cX0_fullCells 33 = .ok (.ifCond .eq 12, 3) := by decide +kernel
theorem dX0_fullCells_36 : decode cX0_fullCells 36 = .ok (.lload 5, 2) := by decide +kernel
theorem dX0_fullCells_38 : decode cX0_fullCells 38 = .ok (.ldc2_w 37, 3) := by decide +kernel
theorem dX0_fullCells_41 : decode cX0_fullCells 41 = .ok (.land, 1) := by decide +kernel
theorem dX0_fullCells_42 : decode cX0_fullCells 42 = .ok (.goto 5, 3) := by decide +kernel
theorem dX0_fullCells_45 : decode cX0_fullCells 45 = .ok (.lload 5, 2) := by decide +kernel
theorem dX0_fullCells_47 : decode cX0_fullCells 47 = .ok (.lreturn, 1) := by decide +kernel
theorem dX0_halfCells_0 : decode cX0_halfCells 0 = .ok (.iload_n 0, 1) := by decide +kernel
theorem dX0_halfCells_1 : decode cX0_halfCells 1 = .ok (.iconst 5, 1) := by decide +kernel
theorem dX0_halfCells_2 : decode cX0_halfCells 2 = .ok (.if_icmp .ne 20, 3) := by decide +kernel
theorem dX0_halfCells_5 : decode cX0_halfCells 5 = .ok (.iload_n 2, 1) := by decide +kernel
theorem dX0_halfCells_6 : decode cX0_halfCells 6 = .ok (.iload_n 0, 1) := by decide +kernel
theorem dX0_halfCells_7 : decode cX0_halfCells 7 = .ok (.iload_n 1, 1) := by decide +kernel
theorem dX0_halfCells_8 : decode cX0_halfCells 8 = .ok (.iload_n 3, 1) := by decide +kernel
theorem dX0_halfCells_9 : decode cX0_halfCells 9 = .ok (.invokestatic 27, 3) := by decide +kernel
theorem dX0_halfCells_12 : decode cX0_halfCells 12 = .ok (.iconst 1, 1) := by decide +kernel
theorem dX0_halfCells_13 : decode cX0_halfCells 13 = .ok (.iadd, 1) := by decide +kernel
theorem dX0_halfCells_14 : decode cX0_halfCells 14 = .ok (.iload 4, 2) := by decide +kernel
theorem dX0_halfCells_16 : decode cX0_halfCells 16 = .ok (.invokestatic 31, 3) := by decide +kernel
theorem dX0_halfCells_19 : decode cX0_halfCells 19 = .ok (.goto 4, 3) := by decide +kernel
theorem dX0_halfCells_22 : decode cX0_halfCells 22 = .ok (.lconst 0, 1) := by decide +kernel
theorem dX0_halfCells_23 : decode cX0_halfCells 23 = .ok (.lreturn, 1) := by decide +kernel
theorem dX0_inks_0 : decode cX0_inks 0 = .ok (.iload_n 0, 1) := by decide +kernel
theorem dX0_inks_1 : decode cX0_inks 1 = .ok (.iload_n 1, 1) := by decide +kernel
theorem dX0_inks_2 : decode cX0_inks 2 = .ok (.invokestatic 21, 3) := by decide +kernel
theorem dX0_inks_5 : decode cX0_inks 5 = .ok (.istore 6, 2) := by decide +kernel
theorem dX0_inks_7 : decode cX0_inks 7 = .ok (.iload 6, 2) := by decide +kernel
theorem dX0_inks_9 : decode cX0_inks 9 = .ok (.ifCond .le 15, 3) := by decide +kernel
theorem dX0_inks_12 : decode cX0_inks 12 = .ok (.iload_n 0, 1) := by decide +kernel
theorem dX0_inks_13 : decode cX0_inks 13 = .ok (.iload_n 1, 1) := by decide +kernel
theorem dX0_inks_14 : decode cX0_inks 14 = .ok (.iload_n 2, 1) := by decide +kernel
theorem dX0_inks_15 : decode cX0_inks 15 = .ok (.iload_n 3, 1) := by decide +kernel
theorem dX0_inks_16 : decode cX0_inks 16 = .ok (.iload 4, 2) := by decide +kernel
theorem dX0_inks_18 : decode cX0_inks 18 = .ok (.invokestatic 39, 3) := by decide +kernel
theorem dX0_inks_21 : decode cX0_inks 21 = .ok (.goto 4, 3) := by decide +kernel
theorem dX0_inks_24 : decode cX0_inks 24 = .ok (.lconst 0, 1) := by decide +kernel
theorem dX0_inks_25 : decode cX0_inks 25 = .ok (.lstore 7, 2) := by decide +kernel
theorem dX0_inks_27 : decode cX0_inks 27 = .ok (.iload 6, 2) := by decide +kernel
theorem dX0_inks_29 : decode cX0_inks 29 = .ok (.iconst 2, 1) := by decide +kernel
theorem dX0_inks_30 : decode cX0_inks 30 = .ok (.idiv, 1) := by decide +kernel
theorem dX0_inks_31 : decode cX0_inks 31 = .ok (.ifCond .le 17, 3) := by decide +kernel
theorem dX0_inks_34 : decode cX0_inks 34 = .ok (.lload 7, 2) := by decide +kernel
theorem dX0_inks_36 : decode cX0_inks 36 = .ok (.iload_n 0, 1) := by decide +kernel
theorem dX0_inks_37 : decode cX0_inks 37 = .ok (.iload_n 1, 1) := by decide +kernel
theorem dX0_inks_38 : decode cX0_inks 38 = .ok (.iload_n 2, 1) := by decide +kernel
theorem dX0_inks_39 : decode cX0_inks 39 = .ok (.iload_n 3, 1) := by decide +kernel
theorem dX0_inks_40 : decode cX0_inks 40 = .ok (.iload 4, 2) := by decide +kernel
theorem dX0_inks_42 : decode cX0_inks 42 = .ok (.invokestatic 43, 3) := by decide +kernel
theorem dX0_inks_45 : decode cX0_inks 45 = .ok (.lor, 1) := by decide +kernel
theorem dX0_inks_46 : decode cX0_inks 46 = .ok (.lstore 7, 2) := by decide +kernel
theorem dX0_inks_48 : decode cX0_inks 48 = .ok (.lload 7, 2) := by decide +kernel
theorem dX0_inks_50 : decode cX0_inks 50 = .ok (.iload 5, 2) := by decide +kernel
theorem dX0_inks_52 : decode cX0_inks 52 = .ok (.lushr, 1) := by decide +kernel
theorem dX0_inks_53 : decode cX0_inks 53 = .ok (.lconst 1, 1) := by decide +kernel
theorem dX0_inks_54 : decode cX0_inks 54 = .ok (.land, 1) := by decide +kernel
theorem dX0_inks_55 : decode cX0_inks 55 = .ok (.lconst 1, 1) := by decide +kernel
theorem dX0_inks_56 : decode cX0_inks 56 = .ok (.lcmp, 1) := by decide +kernel
theorem dX0_inks_57 : decode cX0_inks 57 = .ok (.ifCond .ne 7, 3) := by decide +kernel
theorem dX0_inks_60 : decode cX0_inks 60 = .ok (.iconst 1, 1) := by decide +kernel
theorem dX0_inks_61 : decode cX0_inks 61 = .ok (.goto 4, 3) := by decide +kernel
theorem dX0_inks_64 : decode cX0_inks 64 = .ok (.iconst 0, 1) := by decide +kernel
theorem dX0_inks_65 : decode cX0_inks 65 = .ok (.ireturn, 1) := by decide +kernel
theorem dX1_printed_0 : decode cX1_printed 0 = .ok (.iload_n 0, 1) := by decide +kernel
theorem dX1_printed_1 : decode cX1_printed 1 = .ok (.invokestatic 9, 3) := by decide +kernel
theorem dX1_printed_4 : decode cX1_printed 4 = .ok (.istore_n 2, 1) := by decide +kernel
theorem dX1_printed_5 : decode cX1_printed 5 = .ok (.iconst 0, 1) := by decide +kernel
theorem dX1_printed_6 : decode cX1_printed 6 = .ok (.istore_n 3, 1) := by decide +kernel
theorem dX1_printed_7 : decode cX1_printed 7 = .ok (.iload_n 3, 1) := by decide +kernel
theorem dX1_printed_8 : decode cX1_printed 8 = .ok (.iload_n 1, 1) := by decide +kernel
theorem dX1_printed_9 : decode cX1_printed 9 = .ok (.if_icmp .ge 19, 3) := by decide +kernel
theorem dX1_printed_12 : decode cX1_printed 12 = .ok (.iload_n 3, 1) := by decide +kernel
theorem dX1_printed_13 : decode cX1_printed 13 = .ok (.iconst 3, 1) := by decide +kernel
theorem dX1_printed_14 : decode cX1_printed 14 = .ok (.if_icmp .gt 14, 3) := by decide +kernel
theorem dX1_printed_17 : decode cX1_printed 17 = .ok (.iload_n 2, 1) := by decide +kernel
theorem dX1_printed_18 : decode cX1_printed 18 = .ok (.invokestatic 15, 3) := by decide +kernel
theorem dX1_printed_21 : decode cX1_printed 21 = .ok (.istore_n 2, 1) := by decide +kernel
theorem dX1_printed_22 : decode cX1_printed 22 = .ok (.iinc 3 1, 3) := by decide +kernel
theorem dX1_printed_25 : decode cX1_printed 25 = .ok (.goto (-18), 3) := by decide +kernel
theorem dX1_printed_28 : decode cX1_printed 28 = .ok (.iload_n 2, 1) := by decide +kernel
theorem dX1_printed_29 : decode cX1_printed 29 = .ok (.ireturn, 1) := by decide +kernel
theorem dX1_mirrored_0 : decode cX1_mirrored 0 = .ok (.iconst 0, 1) := by decide +kernel
theorem dX1_mirrored_1 : decode cX1_mirrored 1 = .ok (.istore_n 1, 1) := by decide +kernel
theorem dX1_mirrored_2 : decode cX1_mirrored 2 = .ok (.iconst 0, 1) := by decide +kernel
theorem dX1_mirrored_3 : decode cX1_mirrored 3 = .ok (.istore_n 2, 1) := by decide +kernel
theorem dX1_mirrored_4 : decode cX1_mirrored 4 = .ok (.iload_n 2, 1) := by decide +kernel
theorem dX1_mirrored_5 : decode cX1_mirrored 5 = .ok (.bipush 16, 2) := by decide +kernel
theorem dX1_mirrored_7 : decode cX1_mirrored 7 = .ok (.if_icmp .ge 32, 3) := by decide +kernel
theorem dX1_mirrored_10 : decode cX1_mirrored 10 = .ok (.iload_n 0, 1) := by decide +kernel
theorem dX1_mirrored_11 : decode cX1_mirrored 11 = .ok (.iload_n 2, 1) := by decide +kernel
theorem dX1_mirrored_12 : decode cX1_mirrored 12 = .ok (.iushr, 1) := by decide +kernel
theorem dX1_mirrored_13 : decode cX1_mirrored 13 = .ok (.iconst 1, 1) := by decide +kernel
theorem dX1_mirrored_14 : decode cX1_mirrored 14 = .ok (.iand, 1) := by decide +kernel
theorem dX1_mirrored_15 : decode cX1_mirrored 15 = .ok (.iconst 1, 1) := by decide +kernel
theorem dX1_mirrored_16 : decode cX1_mirrored 16 = .ok (.if_icmp .ne 17, 3) := by decide +kernel
theorem dX1_mirrored_19 : decode cX1_mirrored 19 = .ok (.iload_n 1, 1) := by decide +kernel
theorem dX1_mirrored_20 : decode cX1_mirrored 20 = .ok (.iconst 3, 1) := by decide +kernel
theorem dX1_mirrored_21 : decode cX1_mirrored 21 = .ok (.iload_n 2, 1) := by decide +kernel
theorem dX1_mirrored_22 : decode cX1_mirrored 22 = .ok (.iconst 4, 1) := by decide +kernel
theorem dX1_mirrored_23 : decode cX1_mirrored 23 = .ok (.irem, 1) := by decide +kernel
theorem dX1_mirrored_24 : decode cX1_mirrored 24 = .ok (.isub, 1) := by decide +kernel
theorem dX1_mirrored_25 : decode cX1_mirrored 25 = .ok (.iload_n 2, 1) := by decide +kernel
theorem dX1_mirrored_26 : decode cX1_mirrored 26 = .ok (.iconst 4, 1) := by decide +kernel
theorem dX1_mirrored_27 : decode cX1_mirrored 27 = .ok (.idiv, 1) := by decide +kernel
theorem dX1_mirrored_28 : decode cX1_mirrored 28 = .ok (.invokestatic 18, 3) := by decide +kernel
theorem dX1_mirrored_31 : decode cX1_mirrored 31 = .ok (.ior, 1) := by decide +kernel
theorem dX1_mirrored_32 : decode cX1_mirrored 32 = .ok (.istore_n 1, 1) := by decide +kernel
theorem dX1_mirrored_33 : decode cX1_mirrored 33 = .ok (.iinc 2 1, 3) := by decide +kernel
theorem dX1_mirrored_36 : decode cX1_mirrored 36 = .ok (.goto (-32), 3) := by decide +kernel
theorem dX1_mirrored_39 : decode cX1_mirrored 39 = .ok (.iload_n 1, 1) := by decide +kernel
theorem dX1_mirrored_40 : decode cX1_mirrored 40 = .ok (.ireturn, 1) := by decide +kernel
theorem dX1_turnedOnce_0 : decode cX1_turnedOnce 0 = .ok (.iconst 0, 1) := by decide +kernel
theorem dX1_turnedOnce_1 : decode cX1_turnedOnce 1 = .ok (.istore_n 1, 1) := by decide +kernel
theorem dX1_turnedOnce_2 : decode cX1_turnedOnce 2 = .ok (.iconst 0, 1) := by decide +kernel
theorem dX1_turnedOnce_3 : decode cX1_turnedOnce 3 = .ok (.istore_n 2, 1) := by decide +kernel
theorem dX1_turnedOnce_4 : decode cX1_turnedOnce 4 = .ok (.iload_n 2, 1) := by decide +kernel
theorem dX1_turnedOnce_5 : decode cX1_turnedOnce 5 = .ok (.bipush 16, 2) := by decide +kernel
theorem dX1_turnedOnce_7 : decode cX1_turnedOnce 7 = .ok (.if_icmp .ge 32, 3) := by decide +kernel
theorem dX1_turnedOnce_10 : decode cX1_turnedOnce 10 = .ok (.iload_n 0, 1) := by decide +kernel
theorem dX1_turnedOnce_11 : decode cX1_turnedOnce 11 = .ok (.iload_n 2, 1) := by decide +kernel
theorem dX1_turnedOnce_12 : decode cX1_turnedOnce 12 = .ok (.iushr, 1) := by decide +kernel
theorem dX1_turnedOnce_13 : decode cX1_turnedOnce 13 = .ok (.iconst 1, 1) := by decide +kernel
theorem dX1_turnedOnce_14 : decode cX1_turnedOnce 14 = .ok (.iand, 1) := by decide +kernel
theorem dX1_turnedOnce_15 : decode cX1_turnedOnce 15 = .ok (.iconst 1, 1) := by decide +kernel
theorem dX1_turnedOnce_16 : decode cX1_turnedOnce 16 = .ok (.if_icmp .ne 17, 3) := by decide +kernel
theorem dX1_turnedOnce_19 : decode cX1_turnedOnce 19 = .ok (.iload_n 1, 1) := by decide +kernel
theorem dX1_turnedOnce_20 : decode cX1_turnedOnce 20 = .ok (.iconst 3, 1) := by decide +kernel
theorem dX1_turnedOnce_21 : decode cX1_turnedOnce 21 = .ok (.iload_n 2, 1) := by decide +kernel
theorem dX1_turnedOnce_22 : decode cX1_turnedOnce 22 = .ok (.iconst 4, 1) := by decide +kernel
theorem dX1_turnedOnce_23 : decode cX1_turnedOnce 23 = .ok (.idiv, 1) := by decide +kernel
theorem dX1_turnedOnce_24 : decode cX1_turnedOnce 24 = .ok (.isub, 1) := by decide +kernel
theorem dX1_turnedOnce_25 : decode cX1_turnedOnce 25 = .ok (.iload_n 2, 1) := by decide +kernel
theorem dX1_turnedOnce_26 : decode cX1_turnedOnce 26 = .ok (.iconst 4, 1) := by decide +kernel
theorem dX1_turnedOnce_27 : decode cX1_turnedOnce 27 = .ok (.irem, 1) := by decide +kernel
theorem dX1_turnedOnce_28 : decode cX1_turnedOnce 28 = .ok (.invokestatic 18, 3) := by decide +kernel
theorem dX1_turnedOnce_31 : decode cX1_turnedOnce 31 = .ok (.ior, 1) := by decide +kernel
theorem dX1_turnedOnce_32 : decode cX1_turnedOnce 32 = .ok (.istore_n 1, 1) := by decide +kernel
theorem dX1_turnedOnce_33 : decode cX1_turnedOnce 33 = .ok (.iinc 2 1, 3) := by decide +kernel
theorem dX1_turnedOnce_36 : decode cX1_turnedOnce 36 = .ok (.goto (-32), 3) := by decide +kernel
theorem dX1_turnedOnce_39 : decode cX1_turnedOnce 39 = .ok (.iload_n 1, 1) := by decide +kernel
theorem dX1_turnedOnce_40 : decode cX1_turnedOnce 40 = .ok (.ireturn, 1) := by decide +kernel
theorem dX1_shrunk_0 : decode cX1_shrunk 0 = .ok (.iconst 0, 1) := by decide +kernel
theorem dX1_shrunk_1 : decode cX1_shrunk 1 = .ok (.istore_n 1, 1) := by decide +kernel
theorem dX1_shrunk_2 : decode cX1_shrunk 2 = .ok (.iconst 0, 1) := by decide +kernel
theorem dX1_shrunk_3 : decode cX1_shrunk 3 = .ok (.istore_n 2, 1) := by decide +kernel
theorem dX1_shrunk_4 : decode cX1_shrunk 4 = .ok (.iload_n 2, 1) := by decide +kernel
theorem dX1_shrunk_5 : decode cX1_shrunk 5 = .ok (.iconst 4, 1) := by decide +kernel
theorem dX1_shrunk_6 : decode cX1_shrunk 6 = .ok (.if_icmp .ge 95, 3) := by decide +kernel
theorem dX1_shrunk_9 : decode cX1_shrunk 9 = .ok (.iconst 0, 1) := by decide +kernel
theorem dX1_shrunk_10 : decode cX1_shrunk 10 = .ok (.istore_n 3, 1) := by decide +kernel
theorem dX1_shrunk_11 : decode cX1_shrunk 11 = .ok (.iload_n 3, 1) := by decide +kernel
theorem dX1_shrunk_12 : decode cX1_shrunk 12 = .ok (.iconst 4, 1) := by decide +kernel
theorem dX1_shrunk_13 : decode cX1_shrunk 13 = .ok (.if_icmp .ge 82, 3) := by decide +kernel
theorem dX1_shrunk_16 : decode cX1_shrunk 16 = .ok (.iload_n 0, 1) := by decide +kernel
theorem dX1_shrunk_17 : decode cX1_shrunk 17 = .ok (.iload_n 3, 1) := by decide +kernel
theorem dX1_shrunk_18 : decode cX1_shrunk 18 = .ok (.iconst 1, 1) := by decide +kernel
theorem dX1_shrunk_19 : decode cX1_shrunk 19 = .ok (.isub, 1) := by decide +kernel
theorem dX1_shrunk_20 : decode cX1_shrunk 20 = .ok (.iload_n 2, 1) := by decide +kernel
theorem dX1_shrunk_21 : decode cX1_shrunk 21 = .ok (.invokestatic 22, 3) := by decide +kernel
theorem dX1_shrunk_24 : decode cX1_shrunk 24 = .ok (.ifCond .eq 40, 3) := by decide +kernel
theorem dX1_shrunk_27 : decode cX1_shrunk 27 = .ok (.iload_n 0, 1) := by decide +kernel
theorem dX1_shrunk_28 : decode cX1_shrunk 28 = .ok (.iload_n 3, 1) := by decide +kernel
theorem dX1_shrunk_29 : decode cX1_shrunk 29 = .ok (.iconst 1, 1) := by decide +kernel
theorem dX1_shrunk_30 : decode cX1_shrunk 30 = .ok (.iadd, 1) := by decide +kernel
theorem dX1_shrunk_31 : decode cX1_shrunk 31 = .ok (.iload_n 2, 1) := by decide +kernel
theorem dX1_shrunk_32 : decode cX1_shrunk 32 = .ok (.invokestatic 22, 3) := by decide +kernel
theorem dX1_shrunk_35 : decode cX1_shrunk 35 = .ok (.ifCond .eq 29, 3) := by decide +kernel
theorem dX1_shrunk_38 : decode cX1_shrunk 38 = .ok (.iload_n 0, 1) := by decide +kernel
theorem dX1_shrunk_39 : decode cX1_shrunk 39 = .ok (.iload_n 3, 1) := by decide +kernel
theorem dX1_shrunk_40 : decode cX1_shrunk 40 = .ok (.iload_n 2, 1) := by decide +kernel
theorem dX1_shrunk_41 : decode cX1_shrunk 41 = .ok (.iconst 1, 1) := by decide +kernel
theorem dX1_shrunk_42 : decode cX1_shrunk 42 = .ok (.isub, 1) := by decide +kernel
theorem dX1_shrunk_43 : decode cX1_shrunk 43 = .ok (.invokestatic 22, 3) := by decide +kernel
theorem dX1_shrunk_46 : decode cX1_shrunk 46 = .ok (.ifCond .eq 18, 3) := by decide +kernel
theorem dX1_shrunk_49 : decode cX1_shrunk 49 = .ok (.iload_n 0, 1) := by decide +kernel
theorem dX1_shrunk_50 : decode cX1_shrunk 50 = .ok (.iload_n 3, 1) := by decide +kernel
theorem dX1_shrunk_51 : decode cX1_shrunk 51 = .ok (.iload_n 2, 1) := by decide +kernel
theorem dX1_shrunk_52 : decode cX1_shrunk 52 = .ok (.iconst 1, 1) := by decide +kernel
theorem dX1_shrunk_53 : decode cX1_shrunk 53 = .ok (.iadd, 1) := by decide +kernel
theorem dX1_shrunk_54 : decode cX1_shrunk 54 = .ok (.invokestatic 22, 3) := by decide +kernel
theorem dX1_shrunk_57 : decode cX1_shrunk 57 = .ok (.ifCond .eq 7, 3) := by decide +kernel
theorem dX1_shrunk_60 : decode cX1_shrunk 60 = .ok (.iconst 1, 1) := by decide +kernel
theorem dX1_shrunk_61 : decode cX1_shrunk 61 = .ok (.goto 4, 3) := by decide +kernel
theorem dX1_shrunk_64 : decode cX1_shrunk 64 = .ok (.iconst 0, 1) := by decide +kernel
theorem dX1_shrunk_65 : decode cX1_shrunk 65 = .ok (.istore 4, 2) := by decide +kernel
theorem dX1_shrunk_67 : decode cX1_shrunk 67 = .ok (.iload_n 0, 1) := by decide +kernel
theorem dX1_shrunk_68 : decode cX1_shrunk 68 = .ok (.iload_n 3, 1) := by decide +kernel
theorem dX1_shrunk_69 : decode cX1_shrunk 69 = .ok (.iload_n 2, 1) := by decide +kernel
theorem dX1_shrunk_70 : decode cX1_shrunk 70 = .ok (.invokestatic 22, 3) := by decide +kernel
theorem dX1_shrunk_73 : decode cX1_shrunk 73 = .ok (.ifCond .eq 16, 3) := by decide +kernel
theorem dX1_shrunk_76 : decode cX1_shrunk 76 = .ok (.iload 4, 2) := by decide +kernel
theorem dX1_shrunk_78 : decode cX1_shrunk 78 = .ok (.ifCond .eq 11, 3) := by decide +kernel
theorem dX1_shrunk_81 : decode cX1_shrunk 81 = .ok (.iload_n 1, 1) := by decide +kernel
theorem dX1_shrunk_82 : decode cX1_shrunk 82 = .ok (.iload_n 3, 1) := by decide +kernel
theorem dX1_shrunk_83 : decode cX1_shrunk 83 = .ok (.iload_n 2, 1) := by decide +kernel
theorem dX1_shrunk_84 : decode cX1_shrunk 84 = .ok (.invokestatic 18, 3) := by decide +kernel
theorem dX1_shrunk_87 : decode cX1_shrunk 87 = .ok (.ior, 1) := by decide +kernel
theorem dX1_shrunk_88 : decode cX1_shrunk 88 = .ok (.istore_n 1, 1) := by decide +kernel
theorem dX1_shrunk_89 : decode cX1_shrunk 89 = .ok (.iinc 3 1, 3) := by decide +kernel
theorem dX1_shrunk_92 : decode cX1_shrunk 92 = .ok (.goto (-81), 3) := by decide +kernel
theorem dX1_shrunk_95 : decode cX1_shrunk 95 = .ok (.iinc 2 1, 3) := by decide +kernel
theorem dX1_shrunk_98 : decode cX1_shrunk 98 = .ok (.goto (-94), 3) := by decide +kernel
theorem dX1_shrunk_101 : decode cX1_shrunk 101 = .ok (.iload_n 1, 1) := by decide +kernel
theorem dX1_shrunk_102 : decode cX1_shrunk 102 = .ok (.ireturn, 1) := by decide +kernel
theorem dX1_placed_0 : decode cX1_placed 0 = .ok (.lconst 0, 1) := by decide +kernel
theorem dX1_placed_1 : decode cX1_placed 1 = .ok (.lstore_n 3, 1) := by decide +kernel
theorem dX1_placed_2 : decode cX1_placed 2 = .ok (.iconst 0, 1) := by decide +kernel
theorem dX1_placed_3 : decode cX1_placed 3 = .ok (.istore 5, 2) := by decide +kernel
theorem dX1_placed_5 : decode cX1_placed 5 = .ok (.iload 5, 2) := by decide +kernel
theorem dX1_placed_7 : decode cX1_placed 7 = .ok (.bipush 16, 2) := by decide +kernel
theorem dX1_placed_9 : decode cX1_placed 9 = .ok (.if_icmp .ge 62, 3) := by decide +kernel
theorem dX1_placed_12 : decode cX1_placed 12 = .ok (.iload_n 1, 1) := by decide +kernel
theorem dX1_placed_13 : decode cX1_placed 13 = .ok (.iload 5, 2) := by decide +kernel
theorem dX1_placed_15 : decode cX1_placed 15 = .ok (.iconst 4, 1) := by decide +kernel
theorem dX1_placed_16 : decode cX1_placed 16 = .ok (.irem, 1) := by decide +kernel
theorem dX1_placed_17 : decode cX1_placed 17 = .ok (.iadd, 1) := by decide +kernel
theorem dX1_placed_18 : decode cX1_placed 18 = .ok (.istore 6, 2) := by decide +kernel
theorem dX1_placed_20 : decode cX1_placed 20 = .ok (.iload_n 2, 1) := by decide +kernel
theorem dX1_placed_21 : decode cX1_placed 21 = .ok (.iload 5, 2) := by decide +kernel
theorem dX1_placed_23 : decode cX1_placed 23 = .ok (.iconst 4, 1) := by decide +kernel
theorem dX1_placed_24 : decode cX1_placed 24 = .ok (.idiv, 1) := by decide +kernel
theorem dX1_placed_25 : decode cX1_placed 25 = .ok (.iadd, 1) := by decide +kernel
theorem dX1_placed_26 : decode cX1_placed 26 = .ok (.istore 7, 2) := by decide +kernel
theorem dX1_placed_28 : decode cX1_placed 28 = .ok (.iload_n 0, 1) := by decide +kernel
theorem dX1_placed_29 : decode cX1_placed 29 = .ok (.iload 5, 2) := by decide +kernel
theorem dX1_placed_31 : decode cX1_placed 31 = .ok (.iushr, 1) := by decide +kernel
theorem dX1_placed_32 : decode cX1_placed 32 = .ok (.iconst 1, 1) := by decide +kernel
theorem dX1_placed_33 : decode cX1_placed 33 = .ok (.iand, 1) := by decide +kernel
theorem dX1_placed_34 : decode cX1_placed 34 = .ok (.iconst 1, 1) := by decide +kernel
theorem dX1_placed_35 : decode cX1_placed 35 = .ok (.if_icmp .ne 30, 3) := by decide +kernel
theorem dX1_placed_38 : decode cX1_placed 38 = .ok (.iload 6, 2) := by decide +kernel
theorem dX1_placed_40 : decode cX1_placed 40 = .ok (.bipush 8, 2) := by decide +kernel
theorem dX1_placed_42 : decode cX1_placed 42 = .ok (.if_icmp .ge 23, 3) := by decide +kernel
theorem dX1_placed_45 : decode cX1_placed 45 = .ok (.iload 7, 2) := by decide +kernel
theorem dX1_placed_47 : decode cX1_placed 47 = .ok (.bipush 8, 2) := by decide +kernel
theorem dX1_placed_49 : decode cX1_placed 49 = .ok (.if_icmp .ge 16, 3) := by decide +kernel
theorem dX1_placed_52 : decode cX1_placed 52 = .ok (.lload_n 3, 1) := by decide +kernel
theorem dX1_placed_53 : decode cX1_placed 53 = .ok (.lconst 1, 1) := by decide +kernel
theorem dX1_placed_54 : decode cX1_placed 54 = .ok (.bipush 8, 2) := by decide +kernel
theorem dX1_placed_56 : decode cX1_placed 56 = .ok (.iload 7, 2) := by decide +kernel
theorem dX1_placed_58 : decode cX1_placed 58 = .ok (.imul, 1) := by decide +kernel
theorem dX1_placed_59 : decode cX1_placed 59 = .ok (.iload 6, 2) := by decide +kernel
theorem dX1_placed_61 : decode cX1_placed 61 = .ok (.iadd, 1) := by decide +kernel
theorem dX1_placed_62 : decode cX1_placed 62 = .ok (.lshl, 1) := by decide +kernel
theorem dX1_placed_63 : decode cX1_placed 63 = .ok (.lor, 1) := by decide +kernel
theorem dX1_placed_64 : decode cX1_placed 64 = .ok (.lstore_n 3, 1) := by decide +kernel
theorem dX1_placed_65 : decode cX1_placed 65 = .ok (.iinc 5 1, 3) := by decide +kernel
theorem dX1_placed_68 : decode cX1_placed 68 = .ok (.goto (-63), 3) := by decide +kernel
theorem dX1_placed_71 : decode cX1_placed 71 = .ok (.lload_n 3, 1) := by decide +kernel
theorem dX1_placed_72 : decode cX1_placed 72 = .ok (.lreturn, 1) := by decide +kernel
theorem dX1_isUp_0 : decode cX1_isUp 0 = .ok (.iload_n 1, 1) := by decide +kernel
theorem dX1_isUp_1 : decode cX1_isUp 1 = .ok (.iconst 0, 1) := by decide +kernel
theorem dX1_isUp_2 : decode cX1_isUp 2 = .ok (.iconst 3, 1) := by decide +kernel
theorem dX1_isUp_3 : decode cX1_isUp 3 = .ok (.invokestatic 26, 3) := by decide +kernel
theorem dX1_isUp_6 : decode cX1_isUp 6 = .ok (.ifCond .eq 26, 3) := by decide +kernel
theorem dX1_isUp_9 : decode cX1_isUp 9 = .ok (.iload_n 2, 1) := by decide +kernel
theorem dX1_isUp_10 : decode cX1_isUp 10 = .ok (.iconst 0, 1) := by decide +kernel
theorem dX1_isUp_11 : decode cX1_isUp 11 = .ok (.iconst 3, 1) := by decide +kernel
theorem dX1_isUp_12 : decode cX1_isUp 12 = .ok (.invokestatic 26, 3) := by decide +kernel
theorem dX1_isUp_15 : decode cX1_isUp 15 = .ok (.ifCond .eq 17, 3) := by decide +kernel
theorem dX1_isUp_18 : decode cX1_isUp 18 = .ok (.iload_n 0, 1) := by decide +kernel
theorem dX1_isUp_19 : decode cX1_isUp 19 = .ok (.iload_n 1, 1) := by decide +kernel
theorem dX1_isUp_20 : decode cX1_isUp 20 = .ok (.iload_n 2, 1) := by decide +kernel
theorem dX1_isUp_21 : decode cX1_isUp 21 = .ok (.invokestatic 18, 3) := by decide +kernel
theorem dX1_isUp_24 : decode cX1_isUp 24 = .ok (.iand, 1) := by decide +kernel
theorem dX1_isUp_25 : decode cX1_isUp 25 = .ok (.ifCond .eq 7, 3) := by decide +kernel
theorem dX1_isUp_28 : decode cX1_isUp 28 = .ok (.iconst 1, 1) := by decide +kernel
theorem dX1_isUp_29 : decode cX1_isUp 29 = .ok (.goto 4, 3) := by decide +kernel
theorem dX1_isUp_32 : decode cX1_isUp 32 = .ok (.iconst 0, 1) := by decide +kernel
theorem dX1_isUp_33 : decode cX1_isUp 33 = .ok (.ireturn, 1) := by decide +kernel
theorem dX1_bitOf_0 : decode cX1_bitOf 0 = .ok (.iconst 1, 1) := by decide +kernel
theorem dX1_bitOf_1 : decode cX1_bitOf 1 = .ok (.iconst 4, 1) := by decide +kernel
theorem dX1_bitOf_2 : decode cX1_bitOf 2 = .ok (.iload_n 1, 1) := by decide +kernel
theorem dX1_bitOf_3 : decode cX1_bitOf 3 = .ok (.imul, 1) := by decide +kernel
theorem dX1_bitOf_4 : decode cX1_bitOf 4 = .ok (.iload_n 0, 1) := by decide +kernel
theorem dX1_bitOf_5 : decode cX1_bitOf 5 = .ok (.iadd, 1) := by decide +kernel
theorem dX1_bitOf_6 : decode cX1_bitOf 6 = .ok (.ishl, 1) := by decide +kernel
theorem dX1_bitOf_7 : decode cX1_bitOf 7 = .ok (.ireturn, 1) := by decide +kernel
theorem dX2_init_0 : decode cX2_init 0 = .ok (.aload_n 0, 1) := by decide +kernel
theorem dX2_init_1 : decode cX2_init 1 = .ok (.invokespecial 3, 3) := by decide +kernel
theorem dX2_init_4 : decode cX2_init 4 = .ok (.aload_n 0, 1) := by decide +kernel
theorem dX2_init_5 : decode cX2_init 5 = .ok (.iconst 2, 1) := by decide +kernel
theorem dX2_init_6 : decode cX2_init 6 = .ok (.newarray .int, 2) := by decide +kernel
theorem dX2_init_8 : decode cX2_init 8 = .ok (.putfield 9, 3) := by decide +kernel
theorem dX2_init_11 : decode cX2_init 11 = .ok (.aload_n 0, 1) := by decide +kernel
theorem dX2_init_12 : decode cX2_init 12 = .ok (.bipush 64, 2) := by decide +kernel
theorem dX2_init_14 : decode cX2_init 14 = .ok (.newarray .int, 2) := by decide +kernel
theorem dX2_init_16 : decode cX2_init 16 = .ok (.putfield 15, 3) := by decide +kernel
theorem dX2_init_19 : decode cX2_init 19 = .ok (.aload_n 0, 1) := by decide +kernel
theorem dX2_init_20 : decode cX2_init 20 = .ok (.iconst 0, 1) := by decide +kernel
theorem dX2_init_21 : decode cX2_init 21 = .ok (.putfield 18, 3) := by decide +kernel
theorem dX2_init_24 : decode cX2_init 24 = .ok (.aload_n 0, 1) := by decide +kernel
theorem dX2_init_25 : decode cX2_init 25 = .ok (.bipush 8, 2) := by decide +kernel
theorem dX2_init_27 : decode cX2_init 27 = .ok (.newarray .int, 2) := by decide +kernel
theorem dX2_init_29 : decode cX2_init 29 = .ok (.putfield 22, 3) := by decide +kernel
theorem dX2_init_32 : decode cX2_init 32 = .ok (.aload_n 0, 1) := by decide +kernel
theorem dX2_init_33 : decode cX2_init 33 = .ok (.iconst 0, 1) := by decide +kernel
theorem dX2_init_34 : decode cX2_init 34 = .ok (.putfield 25, 3) := by decide +kernel
theorem dX2_init_37 : decode cX2_init 37 = .ok (.aload_n 0, 1) := by decide +kernel
theorem dX2_init_38 : decode cX2_init 38 = .ok (.bipush 8, 2) := by decide +kernel
theorem dX2_init_40 : decode cX2_init 40 = .ok (.newarray .int, 2) := by decide +kernel
theorem dX2_init_42 : decode cX2_init 42 = .ok (.putfield 28, 3) := by decide +kernel
theorem dX2_init_45 : decode cX2_init 45 = .ok (.aload_n 0, 1) := by decide +kernel
theorem dX2_init_46 : decode cX2_init 46 = .ok (.bipush 8, 2) := by decide +kernel
theorem dX2_init_48 : decode cX2_init 48 = .ok (.newarray .int, 2) := by decide +kernel
theorem dX2_init_50 : decode cX2_init 50 = .ok (.putfield 31, 3) := by decide +kernel
theorem dX2_init_53 : decode cX2_init 53 = .ok (.aload_n 0, 1) := by decide +kernel
theorem dX2_init_54 : decode cX2_init 54 = .ok (.iconst 0, 1) := by decide +kernel
theorem dX2_init_55 : decode cX2_init 55 = .ok (.putfield 34, 3) := by decide +kernel
theorem dX2_init_58 : decode cX2_init 58 = .ok (.aload_n 0, 1) := by decide +kernel
theorem dX2_init_59 : decode cX2_init 59 = .ok (.sipush 512, 3) := by decide +kernel
theorem dX2_init_62 : decode cX2_init 62 = .ok (.newarray .int, 2) := by decide +kernel
theorem dX2_init_64 : decode cX2_init 64 = .ok (.putfield 37, 3) := by decide +kernel
theorem dX2_init_67 : decode cX2_init 67 = .ok (.aload_n 0, 1) := by decide +kernel
theorem dX2_init_68 : decode cX2_init 68 = .ok (.bipush 8, 2) := by decide +kernel
theorem dX2_init_70 : decode cX2_init 70 = .ok (.newarray .int, 2) := by decide +kernel
theorem dX2_init_72 : decode cX2_init 72 = .ok (.putfield 40, 3) := by decide +kernel
theorem dX2_init_75 : decode cX2_init 75 = .ok (.aload_n 0, 1) := by decide +kernel
theorem dX2_init_76 : decode cX2_init 76 = .ok (.iconst 0, 1) := by decide +kernel
theorem dX2_init_77 : decode cX2_init 77 = .ok (.putfield 43, 3) := by decide +kernel
theorem dX2_init_80 : decode cX2_init 80 = .ok (.return_, 1) := by decide +kernel
theorem dX2_beginAnew_0 : decode cX2_beginAnew 0 = .ok (.aload_n 0, 1) := by decide +kernel
theorem dX2_beginAnew_1 : decode cX2_beginAnew 1 = .ok (.getfield 9, 3) := by decide +kernel
theorem dX2_beginAnew_4 : decode cX2_beginAnew 4 = .ok (.iconst 0, 1) := by decide +kernel
theorem dX2_beginAnew_5 : decode cX2_beginAnew 5 = .ok (.invokestatic 46, 3) := by decide +kernel
theorem dX2_beginAnew_8 : decode cX2_beginAnew 8 = .ok (.aload_n 0, 1) := by decide +kernel
theorem dX2_beginAnew_9 : decode cX2_beginAnew 9 = .ok (.getfield 15, 3) := by decide +kernel
theorem dX2_beginAnew_12 : decode cX2_beginAnew 12 = .ok (.iconst 0, 1) := by decide +kernel
theorem dX2_beginAnew_13 : decode cX2_beginAnew 13 = .ok (.invokestatic 46, 3) := by decide +kernel
theorem dX2_beginAnew_16 : decode cX2_beginAnew 16 = .ok (.aload_n 0, 1) := by decide +kernel
theorem dX2_beginAnew_17 : decode cX2_beginAnew 17 = .ok (.iload_n 1, 1) := by decide +kernel
theorem dX2_beginAnew_18 : decode cX2_beginAnew 18 = .ok (.putfield 18, 3) := by decide +kernel
theorem dX2_beginAnew_21 : decode cX2_beginAnew 21 = .ok (.aload_n 0, 1) := by decide +kernel
theorem dX2_beginAnew_22 : decode cX2_beginAnew 22 = .ok (.iconst 0, 1) := by decide +kernel
theorem dX2_beginAnew_23 : decode cX2_beginAnew 23 = .ok (.putfield 25, 3) := by decide +kernel
theorem dX2_beginAnew_26 : decode cX2_beginAnew 26 = .ok (.aload_n 0, 1) := by decide +kernel
theorem dX2_beginAnew_27 : decode cX2_beginAnew 27 = .ok (.iconst 0, 1) := by decide +kernel
theorem dX2_beginAnew_28 : decode cX2_beginAnew 28 = .ok (.putfield 34, 3) := by decide +kernel
theorem dX2_beginAnew_31 : decode cX2_beginAnew 31 = .ok (.aload_n 0, 1) := by decide +kernel
theorem dX2_beginAnew_32 : decode cX2_beginAnew 32 = .ok (.iconst 0, 1) := by decide +kernel
theorem dX2_beginAnew_33 : decode cX2_beginAnew 33 = .ok (.putfield 43, 3) := by decide +kernel
theorem dX2_beginAnew_36 : decode cX2_beginAnew 36 = .ok (.return_, 1) := by decide +kernel
theorem dX2_takeOver_0 : decode cX2_takeOver 0 = .ok (.aload_n 0, 1) := by decide +kernel
theorem dX2_takeOver_1 : decode cX2_takeOver 1 = .ok (.aload_n 1, 1) := by decide +kernel
theorem dX2_takeOver_2 : decode cX2_takeOver 2 = .ok (.invokevirtual 52, 3) := by decide +kernel
theorem dX2_takeOver_5 : decode cX2_takeOver 5 = .ok (.aload_n 1, 1) := by decide +kernel
theorem dX2_takeOver_6 : decode cX2_takeOver 6 = .ok (.getfield 22, 3) := by decide +kernel
theorem dX2_takeOver_9 : decode cX2_takeOver 9 = .ok (.iconst 0, 1) := by decide +kernel
theorem dX2_takeOver_10 : decode cX2_takeOver 10 = .ok (.aload_n 0, 1) := by decide +kernel
theorem dX2_takeOver_11 : decode cX2_takeOver 11 = .ok (.getfield 22, 3) := by decide +kernel
theorem dX2_takeOver_14 : decode cX2_takeOver 14 = .ok (.iconst 0, 1) := by decide +kernel
theorem dX2_takeOver_15 : decode cX2_takeOver 15 = .ok (.bipush 8, 2) := by decide +kernel
theorem dX2_takeOver_17 : decode cX2_takeOver 17 = .ok (.invokestatic 56, 3) := by decide +kernel
theorem dX2_takeOver_20 : decode cX2_takeOver 20 = .ok (.aload_n 0, 1) := by decide +kernel
theorem dX2_takeOver_21 : decode cX2_takeOver 21 = .ok (.aload_n 1, 1) := by decide +kernel
theorem dX2_takeOver_22 : decode cX2_takeOver 22 = .ok (.getfield 25, 3) := by decide +kernel
theorem dX2_takeOver_25 : decode cX2_takeOver 25 = .ok (.putfield 25, 3) := by decide +kernel
theorem dX2_takeOver_28 : decode cX2_takeOver 28 = .ok (.aload_n 1, 1) := by decide +kernel
theorem dX2_takeOver_29 : decode cX2_takeOver 29 = .ok (.getfield 28, 3) := by decide +kernel
theorem dX2_takeOver_32 : decode cX2_takeOver 32 = .ok (.iconst 0, 1) := by decide +kernel
theorem dX2_takeOver_33 : decode cX2_takeOver 33 = .ok (.aload_n 0, 1) := by decide +kernel
theorem dX2_takeOver_34 : decode cX2_takeOver 34 = .ok (.getfield 28, 3) := by decide +kernel
theorem dX2_takeOver_37 : decode cX2_takeOver 37 = .ok (.iconst 0, 1) := by decide +kernel
theorem dX2_takeOver_38 : decode cX2_takeOver 38 = .ok (.bipush 8, 2) := by decide +kernel
theorem dX2_takeOver_40 : decode cX2_takeOver 40 = .ok (.invokestatic 56, 3) := by decide +kernel
theorem dX2_takeOver_43 : decode cX2_takeOver 43 = .ok (.aload_n 1, 1) := by decide +kernel
theorem dX2_takeOver_44 : decode cX2_takeOver 44 = .ok (.getfield 31, 3) := by decide +kernel
theorem dX2_takeOver_47 : decode cX2_takeOver 47 = .ok (.iconst 0, 1) := by decide +kernel
theorem dX2_takeOver_48 : decode cX2_takeOver 48 = .ok (.aload_n 0, 1) := by decide +kernel
theorem dX2_takeOver_49 : decode cX2_takeOver 49 = .ok (.getfield 31, 3) := by decide +kernel
theorem dX2_takeOver_52 : decode cX2_takeOver 52 = .ok (.iconst 0, 1) := by decide +kernel
theorem dX2_takeOver_53 : decode cX2_takeOver 53 = .ok (.bipush 8, 2) := by decide +kernel
theorem dX2_takeOver_55 : decode cX2_takeOver 55 = .ok (.invokestatic 56, 3) := by decide +kernel
theorem dX2_takeOver_58 : decode cX2_takeOver 58 = .ok (.aload_n 0, 1) := by decide +kernel
theorem dX2_takeOver_59 : decode cX2_takeOver 59 = .ok (.aload_n 1, 1) := by decide +kernel
theorem dX2_takeOver_60 : decode cX2_takeOver 60 = .ok (.getfield 34, 3) := by decide +kernel
theorem dX2_takeOver_63 : decode cX2_takeOver 63 = .ok (.putfield 34, 3) := by decide +kernel
theorem dX2_takeOver_66 : decode cX2_takeOver 66 = .ok (.aload_n 1, 1) := by decide +kernel
theorem dX2_takeOver_67 : decode cX2_takeOver 67 = .ok (.getfield 37, 3) := by decide +kernel
theorem dX2_takeOver_70 : decode cX2_takeOver 70 = .ok (.iconst 0, 1) := by decide +kernel
theorem dX2_takeOver_71 : decode cX2_takeOver 71 = .ok (.aload_n 0, 1) := by decide +kernel
theorem dX2_takeOver_72 : decode cX2_takeOver 72 = .ok (.getfield 37, 3) := by decide +kernel
theorem dX2_takeOver_75 : decode cX2_takeOver 75 = .ok (.iconst 0, 1) := by decide +kernel
theorem dX2_takeOver_76 : decode cX2_takeOver 76 = .ok (.sipush 512, 3) := by decide +kernel
theorem dX2_takeOver_79 : decode cX2_takeOver 79 = .ok (.invokestatic 56, 3) := by decide +kernel
theorem dX2_takeOver_82 : decode cX2_takeOver 82 = .ok (.aload_n 1, 1) := by decide +kernel
theorem dX2_takeOver_83 : decode cX2_takeOver 83 = .ok (.getfield 40, 3) := by decide +kernel
theorem dX2_takeOver_86 : decode cX2_takeOver 86 = .ok (.iconst 0, 1) := by decide +kernel
theorem dX2_takeOver_87 : decode cX2_takeOver 87 = .ok (.aload_n 0, 1) := by decide +kernel
theorem dX2_takeOver_88 : decode cX2_takeOver 88 = .ok (.getfield 40, 3) := by decide +kernel
theorem dX2_takeOver_91 : decode cX2_takeOver 91 = .ok (.iconst 0, 1) := by decide +kernel
theorem dX2_takeOver_92 : decode cX2_takeOver 92 = .ok (.bipush 8, 2) := by decide +kernel
theorem dX2_takeOver_94 : decode cX2_takeOver 94 = .ok (.invokestatic 56, 3) := by decide +kernel
theorem dX2_takeOver_97 : decode cX2_takeOver 97 = .ok (.aload_n 0, 1) := by decide +kernel
theorem dX2_takeOver_98 : decode cX2_takeOver 98 = .ok (.aload_n 1, 1) := by decide +kernel
theorem dX2_takeOver_99 : decode cX2_takeOver 99 = .ok (.getfield 43, 3) := by decide +kernel
theorem dX2_takeOver_102 : decode cX2_takeOver 102 = .ok (.putfield 43, 3) := by decide +kernel
theorem dX2_takeOver_105 : decode cX2_takeOver 105 = .ok (.return_, 1) := by decide +kernel
theorem dX2_takeOverPrints_0 : decode cX2_takeOverPrints 0 = .ok (.aload_n 1, 1) := by decide +kernel
theorem dX2_takeOverPrints_1 : decode cX2_takeOverPrints 1 = .ok (.getfield 9, 3) := by decide +kernel
theorem dX2_takeOverPrints_4 : decode cX2_takeOverPrints 4 = .ok (.iconst 0, 1) := by decide +kernel
theorem dX2_takeOverPrints_5 : decode cX2_takeOverPrints 5 = .ok (.aload_n 0, 1) := by decide +kernel
theorem dX2_takeOverPrints_6 : decode cX2_takeOverPrints 6 = .ok (.getfield 9, 3) := by decide +kernel
theorem dX2_takeOverPrints_9 : decode cX2_takeOverPrints 9 = .ok (.iconst 0, 1) := by decide +kernel
theorem dX2_takeOverPrints_10 : decode cX2_takeOverPrints 10 = .ok (.iconst 2, 1) := by decide +kernel
theorem dX2_takeOverPrints_11 : decode cX2_takeOverPrints 11 = .ok (.invokestatic 56, 3) := by decide +kernel
theorem dX2_takeOverPrints_14 : decode cX2_takeOverPrints 14 = .ok (.aload_n 1, 1) := by decide +kernel
theorem dX2_takeOverPrints_15 : decode cX2_takeOverPrints 15 = .ok (.getfield 15, 3) := by decide +kernel
theorem dX2_takeOverPrints_18 : decode cX2_takeOverPrints 18 = .ok (.iconst 0, 1) := by decide +kernel
theorem dX2_takeOverPrints_19 : decode cX2_takeOverPrints 19 = .ok (.aload_n 0, 1) := by decide +kernel
theorem dX2_takeOverPrints_20 : decode cX2_takeOverPrints 20 = .ok (.getfield 15, 3) := by decide +kernel
theorem dX2_takeOverPrints_23 : decode cX2_takeOverPrints 23 = .ok (.iconst 0, 1) := by decide +kernel
theorem dX2_takeOverPrints_24 : decode cX2_takeOverPrints 24 = .ok (.bipush 64, 2) := by decide +kernel
theorem dX2_takeOverPrints_26 : decode cX2_takeOverPrints 26 = .ok (.invokestatic 56, 3) := by decide +kernel
theorem dX2_takeOverPrints_29 : decode cX2_takeOverPrints 29 = .ok (.aload_n 0, 1) := by decide +kernel
theorem dX2_takeOverPrints_30 : decode cX2_takeOverPrints 30 = .ok (.aload_n 1, 1) := by decide +kernel
theorem dX2_takeOverPrints_31 : decode cX2_takeOverPrints 31 = .ok (.getfield 18, 3) := by decide +kernel
theorem dX2_takeOverPrints_34 : decode cX2_takeOverPrints 34 = .ok (.putfield 18, 3) := by decide +kernel
theorem dX2_takeOverPrints_37 : decode cX2_takeOverPrints 37 = .ok (.return_, 1) := by decide +kernel
theorem dX2_remember_0 : decode cX2_remember 0 = .ok (.aload_n 0, 1) := by decide +kernel
theorem dX2_remember_1 : decode cX2_remember 1 = .ok (.getfield 43, 3) := by decide +kernel
theorem dX2_remember_4 : decode cX2_remember 4 = .ok (.bipush 8, 2) := by decide +kernel
theorem dX2_remember_6 : decode cX2_remember 6 = .ok (.if_icmp .lt 41, 3) := by decide +kernel
theorem dX2_remember_9 : decode cX2_remember 9 = .ok (.aload_n 0, 1) := by decide +kernel
theorem dX2_remember_10 : decode cX2_remember 10 = .ok (.getfield 37, 3) := by decide +kernel
theorem dX2_remember_13 : decode cX2_remember 13 = .ok (.bipush 64, 2) := by decide +kernel
theorem dX2_remember_15 : decode cX2_remember 15 = .ok (.aload_n 0, 1) := by decide +kernel
theorem dX2_remember_16 : decode cX2_remember 16 = .ok (.getfield 37, 3) := by decide +kernel
theorem dX2_remember_19 : decode cX2_remember 19 = .ok (.iconst 0, 1) := by decide +kernel
theorem dX2_remember_20 : decode cX2_remember 20 = .ok (.sipush 448, 3) := by decide +kernel
theorem dX2_remember_23 : decode cX2_remember 23 = .ok (.invokestatic 56, 3) := by decide +kernel
theorem dX2_remember_26 : decode cX2_remember 26 = .ok (.aload_n 0, 1) := by decide +kernel
theorem dX2_remember_27 : decode cX2_remember 27 = .ok (.getfield 40, 3) := by decide +kernel
theorem dX2_remember_30 : decode cX2_remember 30 = .ok (.iconst 1, 1) := by decide +kernel
theorem dX2_remember_31 : decode cX2_remember 31 = .ok (.aload_n 0, 1) := by decide +kernel
theorem dX2_remember_32 : decode cX2_remember 32 = .ok (.getfield 40, 3) := by decide +kernel
theorem dX2_remember_35 : decode cX2_remember 35 = .ok (.iconst 0, 1) := by decide +kernel
theorem dX2_remember_36 : decode cX2_remember 36 = .ok (.bipush 7, 2) := by decide +kernel
theorem dX2_remember_38 : decode cX2_remember 38 = .ok (.invokestatic 56, 3) := by decide +kernel
theorem dX2_remember_41 : decode cX2_remember 41 = .ok (.aload_n 0, 1) := by decide +kernel
theorem dX2_remember_42 : decode cX2_remember 42 = .ok (.bipush 7, 2) := by decide +kernel
theorem dX2_remember_44 : decode cX2_remember 44 = .ok (.putfield 43, 3) := by decide +kernel
theorem dX2_remember_47 : decode cX2_remember 47 = .ok (.aload_n 0, 1) := by decide +kernel
theorem dX2_remember_48 : decode cX2_remember 48 = .ok (.getfield 15, 3) := by decide +kernel
theorem dX2_remember_51 : decode cX2_remember 51 = .ok (.iconst 0, 1) := by decide +kernel
theorem dX2_remember_52 : decode cX2_remember 52 = .ok (.aload_n 0, 1) := by decide +kernel
theorem dX2_remember_53 : decode cX2_remember 53 = .ok (.getfield 37, 3) := by decide +kernel
theorem dX2_remember_56 : decode cX2_remember 56 = .ok (.aload_n 0, 1) := by decide +kernel
theorem dX2_remember_57 : decode cX2_remember 57 = .ok (.getfield 43, 3) := by decide +kernel
theorem dX2_remember_60 : decode cX2_remember 60 = .ok (.bipush 64, 2) := by decide +kernel
theorem dX2_remember_62 : decode cX2_remember 62 = .ok (.imul, 1) := by decide +kernel
theorem dX2_remember_63 : decode cX2_remember 63 = .ok (.bipush 64, 2) := by decide +kernel
theorem dX2_remember_65 : decode cX2_remember 65 = .ok (.invokestatic 56, 3) := by decide +kernel
theorem dX2_remember_68 : decode cX2_remember 68 = .ok (.aload_n 0, 1) := by decide +kernel
theorem dX2_remember_69 : decode cX2_remember 69 = .ok (.getfield 40, 3) := by decide +kernel
theorem dX2_remember_72 : decode cX2_remember 72 = .ok (.aload_n 0, 1) := by decide +kernel
theorem dX2_remember_73 : decode cX2_remember 73 = .ok (.getfield 43, 3) := by decide +kernel
theorem dX2_remember_76 : decode cX2_remember 76 = .ok (.aload_n 0, 1) := by decide +kernel
theorem dX2_remember_77 : decode cX2_remember 77 = .ok (.getfield 18, 3) := by decide +kernel
theorem dX2_remember_80 : decode cX2_remember 80 = .ok (.iastore, 1) := by decide +kernel
theorem dX2_remember_81 : decode cX2_remember 81 = .ok (.aload_n 0, 1) := by decide +kernel
theorem dX2_remember_82 : decode cX2_remember 82 = .ok (.dup, 1) := by decide +kernel
theorem dX2_remember_83 : decode cX2_remember 83 = .ok (.getfield 43, 3) := by decide +kernel
theorem dX2_remember_86 : decode cX2_remember 86 = .ok (.iconst 1, 1) := by decide +kernel
theorem dX2_remember_87 : decode cX2_remember 87 = .ok (.iadd, 1) := by decide +kernel
theorem dX2_remember_88 : decode cX2_remember 88 = .ok (.putfield 43, 3) := by decide +kernel
theorem dX2_remember_91 : decode cX2_remember 91 = .ok (.return_, 1) := by decide +kernel
theorem dX2_stepBack_0 : decode cX2_stepBack 0 = .ok (.aload_n 0, 1) := by decide +kernel
theorem dX2_stepBack_1 : decode cX2_stepBack 1 = .ok (.getfield 43, 3) := by decide +kernel
theorem dX2_stepBack_4 : decode cX2_stepBack 4 = .ok (.ifCond .le 47, 3) := by decide +kernel
theorem dX2_stepBack_7 : decode cX2_stepBack 7 = .ok (.aload_n 0, 1) := by decide +kernel
theorem dX2_stepBack_8 : decode cX2_stepBack 8 = .ok (.dup, 1) := by decide +kernel
theorem dX2_stepBack_9 : decode cX2_stepBack 9 = .ok (.getfield 43, 3) := by decide +kernel
theorem dX2_stepBack_12 : decode cX2_stepBack 12 = .ok (.iconst 1, 1) := by decide +kernel
theorem dX2_stepBack_13 : decode cX2_stepBack 13 = .ok (.isub, 1) := by decide +kernel
theorem dX2_stepBack_14 : decode cX2_stepBack 14 = .ok (.putfield 43, 3) := by decide +kernel
theorem dX2_stepBack_17 : decode cX2_stepBack 17 = .ok (.aload_n 0, 1) := by decide +kernel
theorem dX2_stepBack_18 : decode cX2_stepBack 18 = .ok (.getfield 37, 3) := by decide +kernel
theorem dX2_stepBack_21 : decode cX2_stepBack 21 = .ok (.aload_n 0, 1) := by decide +kernel
theorem dX2_stepBack_22 : decode cX2_stepBack 22 = .ok (.getfield 43, 3) := by decide +kernel
theorem dX2_stepBack_25 : decode cX2_stepBack 25 = .ok (.bipush 64, 2) := by decide +kernel
theorem dX2_stepBack_27 : decode cX2_stepBack 27 = .ok (.imul, 1) := by decide +kernel
theorem dX2_stepBack_28 : decode cX2_stepBack 28 = .ok (.aload_n 0, 1) := by decide +kernel
theorem dX2_stepBack_29 : decode cX2_stepBack 29 = .ok (.getfield 15, 3) := by decide +kernel
theorem dX2_stepBack_32 : decode cX2_stepBack 32 = .ok (.iconst 0, 1) := by decide +kernel
theorem dX2_stepBack_33 : decode cX2_stepBack 33 = .ok (.bipush 64, 2) := by decide +kernel
theorem dX2_stepBack_35 : decode cX2_stepBack 35 = .ok (.invokestatic 56, 3) := by decide +kernel
theorem dX2_stepBack_38 : decode cX2_stepBack 38 = .ok (.aload_n 0, 1) := by decide +kernel
theorem dX2_stepBack_39 : decode cX2_stepBack 39 = .ok (.aload_n 0, 1) := by decide +kernel
theorem dX2_stepBack_40 : decode cX2_stepBack 40 = .ok (.getfield 40, 3) := by decide +kernel
theorem dX2_stepBack_43 : decode cX2_stepBack 43 = .ok (.aload_n 0, 1) := by decide +kernel
theorem dX2_stepBack_44 : decode cX2_stepBack 44 = .ok (.getfield 43, 3) := by decide +kernel
theorem dX2_stepBack_47 : decode cX2_stepBack 47 = .ok (.iaload, 1) := by decide +kernel
theorem dX2_stepBack_48 : decode cX2_stepBack 48 = .ok (.putfield 18, 3) := by decide +kernel
theorem dX2_stepBack_51 : decode cX2_stepBack 51 = .ok (.return_, 1) := by decide +kernel
theorem dX2_putPrint_0 : decode cX2_putPrint 0 = .ok (.aload_n 0, 1) := by decide +kernel
theorem dX2_putPrint_1 : decode cX2_putPrint 1 = .ok (.getfield 9, 3) := by decide +kernel
theorem dX2_putPrint_4 : decode cX2_putPrint 4 = .ok (.iload_n 2, 1) := by decide +kernel
theorem dX2_putPrint_5 : decode cX2_putPrint 5 = .ok (.iaload, 1) := by decide +kernel
theorem dX2_putPrint_6 : decode cX2_putPrint 6 = .ok (.iload 5, 2) := by decide +kernel
theorem dX2_putPrint_8 : decode cX2_putPrint 8 = .ok (.invokestatic 62, 3) := by decide +kernel
theorem dX2_putPrint_11 : decode cX2_putPrint 11 = .ok (.istore 6, 2) := by decide +kernel
theorem dX2_putPrint_13 : decode cX2_putPrint 13 = .ok (.iload_n 1, 1) := by decide +kernel
theorem dX2_putPrint_14 : decode cX2_putPrint 14 = .ok (.aload_n 0, 1) := by decide +kernel
theorem dX2_putPrint_15 : decode cX2_putPrint 15 = .ok (.getfield 18, 3) := by decide +kernel
theorem dX2_putPrint_18 : decode cX2_putPrint 18 = .ok (.invokestatic 68, 3) := by decide +kernel
theorem dX2_putPrint_21 : decode cX2_putPrint 21 = .ok (.istore 7, 2) := by decide +kernel
theorem dX2_putPrint_23 : decode cX2_putPrint 23 = .ok (.iload_n 1, 1) := by decide +kernel
theorem dX2_putPrint_24 : decode cX2_putPrint 24 = .ok (.aload_n 0, 1) := by decide +kernel
theorem dX2_putPrint_25 : decode cX2_putPrint 25 = .ok (.getfield 18, 3) := by decide +kernel
theorem dX2_putPrint_28 : decode cX2_putPrint 28 = .ok (.iload 6, 2) := by decide +kernel
theorem dX2_putPrint_30 : decode cX2_putPrint 30 = .ok (.iload_n 3, 1) := by decide +kernel
theorem dX2_putPrint_31 : decode cX2_putPrint 31 = .ok (.iload 4, 2) := by decide +kernel
theorem dX2_putPrint_33 : decode cX2_putPrint 33 = .ok (.invokestatic 73, 3) := by decide +kernel
theorem dX2_putPrint_36 : decode cX2_putPrint 36 = .ok (.lstore 8, 2) := by decide +kernel
theorem dX2_putPrint_38 : decode cX2_putPrint 38 = .ok (.iload_n 1, 1) := by decide +kernel
theorem dX2_putPrint_39 : decode cX2_putPrint 39 = .ok (.aload_n 0, 1) := by decide +kernel
theorem dX2_putPrint_40 : decode cX2_putPrint 40 = .ok (.getfield 18, 3) := by decide +kernel
theorem dX2_putPrint_43 : decode cX2_putPrint 43 = .ok (.iload 6, 2) := by decide +kernel
theorem dX2_putPrint_45 : decode cX2_putPrint 45 = .ok (.iload_n 3, 1) := by decide +kernel
theorem dX2_putPrint_46 : decode cX2_putPrint 46 = .ok (.iload 4, 2) := by decide +kernel
theorem dX2_putPrint_48 : decode cX2_putPrint 48 = .ok (.invokestatic 77, 3) := by decide +kernel
theorem dX2_putPrint_51 : decode cX2_putPrint 51 = .ok (.lstore 10, 2) := by decide +kernel
theorem dX2_putPrint_53 : decode cX2_putPrint 53 = .ok (.aload_n 0, 1) := by decide +kernel
theorem dX2_putPrint_54 : decode cX2_putPrint 54 = .ok (.dup, 1) := by decide +kernel
theorem dX2_putPrint_55 : decode cX2_putPrint 55 = .ok (.getfield 18, 3) := by decide +kernel
theorem dX2_putPrint_58 : decode cX2_putPrint 58 = .ok (.iload_n 1, 1) := by decide +kernel
theorem dX2_putPrint_59 : decode cX2_putPrint 59 = .ok (.aload_n 0, 1) := by decide +kernel
theorem dX2_putPrint_60 : decode cX2_putPrint 60 = .ok (.getfield 18, 3) := by decide +kernel
theorem dX2_putPrint_63 : decode cX2_putPrint 63 = .ok (.invokestatic 80, 3) := by decide +kernel
theorem dX2_putPrint_66 : decode cX2_putPrint 66 = .ok (.isub, 1) := by decide +kernel
theorem dX2_putPrint_67 : decode cX2_putPrint 67 = .ok (.putfield 18, 3) := by decide +kernel
theorem dX2_putPrint_70 : decode cX2_putPrint 70 = .ok (.aload_n 0, 1) := by decide +kernel
theorem dX2_putPrint_71 : decode cX2_putPrint 71 = .ok (.lload 8, 2) := by decide +kernel
theorem dX2_putPrint_73 : decode cX2_putPrint 73 = .ok (.iload 7, 2) := by decide +kernel
theorem dX2_putPrint_75 : decode cX2_putPrint 75 = .ok (.invokevirtual 83, 3) := by decide +kernel
theorem dX2_putPrint_78 : decode cX2_putPrint 78 = .ok (.aload_n 0, 1) := by decide +kernel
theorem dX2_putPrint_79 : decode cX2_putPrint 79 = .ok (.lload 10, 2) := by decide +kernel
theorem dX2_putPrint_81 : decode cX2_putPrint 81 = .ok (.lload 8, 2) := by decide +kernel
theorem dX2_putPrint_83 : decode cX2_putPrint 83 = .ok (.ldc2_w 87, 3) := by decide +kernel
theorem dX2_putPrint_86 : decode cX2_putPrint 86 = .ok (.lxor, 1) := by decide +kernel
theorem dX2_putPrint_87 : decode cX2_putPrint 87 = .ok (.land, 1) := by decide +kernel
theorem dX2_putPrint_88 : decode cX2_putPrint 88 = .ok (.iload 7, 2) := by decide +kernel
theorem dX2_putPrint_90 : decode cX2_putPrint 90 = .ok (.iconst 2, 1) := by decide +kernel
theorem dX2_putPrint_91 : decode cX2_putPrint 91 = .ok (.idiv, 1) := by decide +kernel
theorem dX2_putPrint_92 : decode cX2_putPrint 92 = .ok (.invokevirtual 83, 3) := by decide +kernel
theorem dX2_putPrint_95 : decode cX2_putPrint 95 = .ok (.iadd, 1) := by decide +kernel
theorem dX2_putPrint_96 : decode cX2_putPrint 96 = .ok (.ireturn, 1) := by decide +kernel
theorem dX2_darken_0 : decode cX2_darken 0 = .ok (.iconst 0, 1) := by decide +kernel
theorem dX2_darken_1 : decode cX2_darken 1 = .ok (.istore 4, 2) := by decide +kernel
theorem dX2_darken_3 : decode cX2_darken 3 = .ok (.iconst 0, 1) := by decide +kernel
theorem dX2_darken_4 : decode cX2_darken 4 = .ok (.istore 5, 2) := by decide +kernel
theorem dX2_darken_6 : decode cX2_darken 6 = .ok (.iload 5, 2) := by decide +kernel
theorem dX2_darken_8 : decode cX2_darken 8 = .ok (.bipush 64, 2) := by decide +kernel
theorem dX2_darken_10 : decode cX2_darken 10 = .ok (.if_icmp .ge 42, 3) := by decide +kernel
theorem dX2_darken_13 : decode cX2_darken 13 = .ok (.lload_n 1, 1) := by decide +kernel
theorem dX2_darken_14 : decode cX2_darken 14 = .ok (.iload 5, 2) := by decide +kernel
theorem dX2_darken_16 : decode cX2_darken 16 = .ok (.lushr, 1) := by decide +kernel
theorem dX2_darken_17 : decode cX2_darken 17 = .ok (.lconst 1, 1) := by decide +kernel
theorem dX2_darken_18 : decode cX2_darken 18 = .ok (.land, 1) := by decide +kernel
theorem dX2_darken_19 : decode cX2_darken 19 = .ok (.lconst 1, 1) := by decide +kernel
theorem dX2_darken_20 : decode cX2_darken 20 = .ok (.lcmp, 1) := by decide +kernel
theorem dX2_darken_21 : decode cX2_darken 21 = .ok (.ifCond .ne 25, 3) := by decide +kernel
theorem dX2_darken_24 : decode cX2_darken 24 = .ok (.iload_n 3, 1) := by decide +kernel
theorem dX2_darken_25 : decode cX2_darken 25 = .ok (.aload_n 0, 1) := by decide +kernel
theorem dX2_darken_26 : decode cX2_darken 26 = .ok (.getfield 15, 3) := by decide +kernel
theorem dX2_darken_29 : decode cX2_darken 29 = .ok (.iload 5, 2) := by decide +kernel
theorem dX2_darken_31 : decode cX2_darken 31 = .ok (.iaload, 1) := by decide +kernel
theorem dX2_darken_32 : decode cX2_darken 32 = .ok (.if_icmp .le 14, 3) := by decide +kernel
theorem dX2_darken_35 : decode cX2_darken 35 = .ok (.aload_n 0, 1) := by decide +kernel
theorem dX2_darken_36 : decode cX2_darken 36 = .ok (.getfield 15, 3) := by decide +kernel
theorem dX2_darken_39 : decode cX2_darken 39 = .ok (.iload 5, 2) := by decide +kernel
theorem dX2_darken_41 : decode cX2_darken 41 = .ok (.iload_n 3, 1) := by decide +kernel
theorem dX2_darken_42 : decode cX2_darken 42 = .ok (.iastore, 1) := by decide +kernel
theorem dX2_darken_43 : decode cX2_darken 43 = .ok (.iinc 4 1, 3) := by decide +kernel
theorem dX2_darken_46 : decode cX2_darken 46 = .ok (.iinc 5 1, 3) := by decide +kernel
theorem dX2_darken_49 : decode cX2_darken 49 = .ok (.goto (-43), 3) := by decide +kernel
theorem dX2_darken_52 : decode cX2_darken 52 = .ok (.iload 4, 2) := by decide +kernel
theorem dX2_darken_54 : decode cX2_darken 54 = .ok (.ireturn, 1) := by decide +kernel
theorem dX2_darkCells_0 : decode cX2_darkCells 0 = .ok (.lconst 0, 1) := by decide +kernel
theorem dX2_darkCells_1 : decode cX2_darkCells 1 = .ok (.lstore_n 1, 1) := by decide +kernel
theorem dX2_darkCells_2 : decode cX2_darkCells 2 = .ok (.iconst 0, 1) := by decide +kernel
theorem dX2_darkCells_3 : decode cX2_darkCells 3 = .ok (.istore_n 3, 1) := by decide +kernel
theorem dX2_darkCells_4 : decode cX2_darkCells 4 = .ok (.iload_n 3, 1) := by decide +kernel
theorem dX2_darkCells_5 : decode cX2_darkCells 5 = .ok (.bipush 64, 2) := by decide +kernel
theorem dX2_darkCells_7 : decode cX2_darkCells 7 = .ok (.if_icmp .ge 24, 3) := by decide +kernel
theorem dX2_darkCells_10 : decode cX2_darkCells 10 = .ok (.aload_n 0, 1) := by decide +kernel
theorem dX2_darkCells_11 : decode cX2_darkCells 11 = .ok (.getfield 15, 3) := by decide +kernel
theorem dX2_darkCells_14 : decode cX2_darkCells 14 = .ok (.iload_n 3, 1) := by decide +kernel
theorem dX2_darkCells_15 : decode cX2_darkCells 15 = .ok (.iaload, 1) := by decide +kernel
theorem dX2_darkCells_16 : decode cX2_darkCells 16 = .ok (.ifCond .le 9, 3) := by decide +kernel
theorem dX2_darkCells_19 : decode cX2_darkCells 19 = .ok (.lload_n 1, 1) := by decide +kernel
theorem dX2_darkCells_20 : decode cX2_darkCells 20 = .ok (.lconst 1, 1) := by decide +kernel
theorem dX2_darkCells_21 : decode cX2_darkCells 21 = .ok (.iload_n 3, 1) := by decide +kernel
theorem dX2_darkCells_22 : decode cX2_darkCells 22 = .ok (.lshl, 1) := by decide +kernel
theorem dX2_darkCells_23 : decode cX2_darkCells 23 = .ok (.lor, 1) := by decide +kernel
theorem dX2_darkCells_24 : decode cX2_darkCells 24 = .ok (.lstore_n 1, 1) := by decide +kernel
theorem dX2_darkCells_25 : decode cX2_darkCells 25 = .ok (.iinc 3 1, 3) := by decide +kernel
theorem dX2_darkCells_28 : decode cX2_darkCells 28 = .ok (.goto (-24), 3) := by decide +kernel
theorem dX2_darkCells_31 : decode cX2_darkCells 31 = .ok (.lload_n 1, 1) := by decide +kernel
theorem dX2_darkCells_32 : decode cX2_darkCells 32 = .ok (.lreturn, 1) := by decide +kernel
theorem dX2_darknessInAll_0 : decode cX2_darknessInAll 0 = .ok (.iconst 0, 1) := by decide +kernel
theorem dX2_darknessInAll_1 : decode cX2_darknessInAll 1 = .ok (.istore_n 1, 1) := by decide +kernel
theorem dX2_darknessInAll_2 : decode cX2_darknessInAll 2 = .ok (.iconst 0, 1) := by decide +kernel
theorem dX2_darknessInAll_3 : decode cX2_darknessInAll 3 = .ok (.istore_n 2, 1) := by decide +kernel
theorem dX2_darknessInAll_4 : decode cX2_darknessInAll 4 = .ok (.iload_n 2, 1) := by decide +kernel
theorem dX2_darknessInAll_5 : decode cX2_darknessInAll 5 = .ok (.bipush 64, 2) := by decide +kernel
theorem dX2_darknessInAll_7 : decode cX2_darknessInAll 7 = .ok (.if_icmp .ge 18, 3) := by decide +kernel
theorem dX2_darknessInAll_10 : decode cX2_darknessInAll 10 = .ok (.iload_n 1, 1) := by decide +kernel
theorem dX2_darknessInAll_11 : decode cX2_darknessInAll 11 = .ok (.aload_n 0, 1) := by decide +kernel
theorem dX2_darknessInAll_12 : decode cX2_darknessInAll 12 = .ok (.getfield 15, 3) := by decide +kernel
theorem dX2_darknessInAll_15 : decode cX2_darknessInAll 15 = .ok (.iload_n 2, 1) := by decide +kernel
theorem dX2_darknessInAll_16 : decode cX2_darknessInAll 16 = .ok (.iaload, 1) := by decide +kernel
theorem dX2_darknessInAll_17 : decode cX2_darknessInAll 17 = .ok (.iadd, 1) := by decide +kernel
theorem dX2_darknessInAll_18 : decode cX2_darknessInAll 18 = .ok (.istore_n 1, 1) := by decide +kernel
theorem dX2_darknessInAll_19 : decode cX2_darknessInAll 19 = .ok (.iinc 2 1, 3) := by decide +kernel
theorem dX2_darknessInAll_22 : decode cX2_darknessInAll 22 = .ok (.goto (-18), 3) := by decide +kernel
theorem dX2_darknessInAll_25 : decode cX2_darknessInAll 25 = .ok (.iload_n 1, 1) := by decide +kernel
theorem dX2_darknessInAll_26 : decode cX2_darknessInAll 26 = .ok (.ireturn, 1) := by decide +kernel
theorem dX2_wantedCells_0 : decode cX2_wantedCells 0 = .ok (.lconst 0, 1) := by decide +kernel
theorem dX2_wantedCells_1 : decode cX2_wantedCells 1 = .ok (.lstore_n 1, 1) := by decide +kernel
theorem dX2_wantedCells_2 : decode cX2_wantedCells 2 = .ok (.iconst 0, 1) := by decide +kernel
theorem dX2_wantedCells_3 : decode cX2_wantedCells 3 = .ok (.istore_n 3, 1) := by decide +kernel
theorem dX2_wantedCells_4 : decode cX2_wantedCells 4 = .ok (.iload_n 3, 1) := by decide +kernel
theorem dX2_wantedCells_5 : decode cX2_wantedCells 5 = .ok (.aload_n 0, 1) := by decide +kernel
theorem dX2_wantedCells_6 : decode cX2_wantedCells 6 = .ok (.getfield 25, 3) := by decide +kernel
theorem dX2_wantedCells_9 : decode cX2_wantedCells 9 = .ok (.if_icmp .ge 20, 3) := by decide +kernel
theorem dX2_wantedCells_12 : decode cX2_wantedCells 12 = .ok (.lload_n 1, 1) := by decide +kernel
theorem dX2_wantedCells_13 : decode cX2_wantedCells 13 = .ok (.lconst 1, 1) := by decide +kernel
theorem dX2_wantedCells_14 : decode cX2_wantedCells 14 = .ok (.aload_n 0, 1) := by decide +kernel
theorem dX2_wantedCells_15 : decode cX2_wantedCells 15 = .ok (.getfield 22, 3) := by decide +kernel
theorem dX2_wantedCells_18 : decode cX2_wantedCells 18 = .ok (.iload_n 3, 1) := by decide +kernel
theorem dX2_wantedCells_19 : decode cX2_wantedCells 19 = .ok (.iaload, 1) := by decide +kernel
theorem dX2_wantedCells_20 : decode cX2_wantedCells 20 = .ok (.lshl, 1) := by decide +kernel
theorem dX2_wantedCells_21 : decode cX2_wantedCells 21 = .ok (.lor, 1) := by decide +kernel
theorem dX2_wantedCells_22 : decode cX2_wantedCells 22 = .ok (.lstore_n 1, 1) := by decide +kernel
theorem dX2_wantedCells_23 : decode cX2_wantedCells 23 = .ok (.iinc 3 1, 3) := by decide +kernel
theorem dX2_wantedCells_26 : decode cX2_wantedCells 26 = .ok (.goto (-22), 3) := by decide +kernel
theorem dX2_wantedCells_29 : decode cX2_wantedCells 29 = .ok (.lload_n 1, 1) := by decide +kernel
theorem dX2_wantedCells_30 : decode cX2_wantedCells 30 = .ok (.lreturn, 1) := by decide +kernel
theorem dX2_seenCellsOf_0 : decode cX2_seenCellsOf 0 = .ok (.lconst 0, 1) := by decide +kernel
theorem dX2_seenCellsOf_1 : decode cX2_seenCellsOf 1 = .ok (.lstore_n 2, 1) := by decide +kernel
theorem dX2_seenCellsOf_2 : decode cX2_seenCellsOf 2 = .ok (.iconst 0, 1) := by decide +kernel
theorem dX2_seenCellsOf_3 : decode cX2_seenCellsOf 3 = .ok (.istore 4, 2) := by decide +kernel
theorem dX2_seenCellsOf_5 : decode cX2_seenCellsOf 5 = .ok (.iload 4, 2) := by decide +kernel
theorem dX2_seenCellsOf_7 : decode cX2_seenCellsOf 7 = .ok (.aload_n 0, 1) := by decide +kernel
theorem dX2_seenCellsOf_8 : decode cX2_seenCellsOf 8 = .ok (.getfield 34, 3) := by decide +kernel
theorem dX2_seenCellsOf_11 : decode cX2_seenCellsOf 11 = .ok (.if_icmp .ge 32, 3) := by decide +kernel
theorem dX2_seenCellsOf_14 : decode cX2_seenCellsOf 14 = .ok (.aload_n 0, 1) := by decide +kernel
theorem dX2_seenCellsOf_15 : decode cX2_seenCellsOf 15 = .ok (.getfield 31, 3) := by decide +kernel
theorem dX2_seenCellsOf_18 : decode cX2_seenCellsOf 18 = .ok (.iload 4, 2) := by decide +kernel
theorem dX2_seenCellsOf_20 : decode cX2_seenCellsOf 20 = .ok (.iaload, 1) := by decide +kernel
theorem dX2_seenCellsOf_21 : decode cX2_seenCellsOf 21 = .ok (.iload_n 1, 1) := by decide +kernel
theorem dX2_seenCellsOf_22 : decode cX2_seenCellsOf 22 = .ok (.if_icmp .ne 15, 3) := by decide +kernel
theorem dX2_seenCellsOf_25 : decode cX2_seenCellsOf 25 = .ok (.lload_n 2, 1) := by decide +kernel
theorem dX2_seenCellsOf_26 : decode cX2_seenCellsOf 26 = .ok (.lconst 1, 1) := by decide +kernel
theorem dX2_seenCellsOf_27 : decode cX2_seenCellsOf 27 = .ok (.aload_n 0, 1) := by decide +kernel
theorem dX2_seenCellsOf_28 : decode cX2_seenCellsOf 28 = .ok (.getfield 28, 3) := by decide +kernel
theorem dX2_seenCellsOf_31 : decode cX2_seenCellsOf 31 = .ok (.iload 4, 2) := by decide +kernel
theorem dX2_seenCellsOf_33 : decode cX2_seenCellsOf 33 = .ok (.iaload, 1) := by decide +kernel
theorem dX2_seenCellsOf_34 : decode cX2_seenCellsOf 34 = .ok (.lshl, 1) := by decide +kernel
theorem dX2_seenCellsOf_35 : decode cX2_seenCellsOf 35 = .ok (.lor, 1) := by decide +kernel
theorem dX2_seenCellsOf_36 : decode cX2_seenCellsOf 36 = .ok (.lstore_n 2, 1) := by decide +kernel
theorem dX2_seenCellsOf_37 : decode cX2_seenCellsOf 37 = .ok (.iinc 4 1, 3) := by decide +kernel
theorem dX2_seenCellsOf_40 : decode cX2_seenCellsOf 40 = .ok (.goto (-35), 3) := by decide +kernel
theorem dX2_seenCellsOf_43 : decode cX2_seenCellsOf 43 = .ok (.lload_n 2, 1) := by decide +kernel
theorem dX2_seenCellsOf_44 : decode cX2_seenCellsOf 44 = .ok (.lreturn, 1) := by decide +kernel
theorem dX3_init_0 : decode cX3_init 0 = .ok (.aload_n 0, 1) := by decide +kernel
theorem dX3_init_1 : decode cX3_init 1 = .ok (.invokespecial 3, 3) := by decide +kernel
theorem dX3_init_4 : decode cX3_init 4 = .ok (.aload_n 0, 1) := by decide +kernel
theorem dX3_init_5 : decode cX3_init 5 = .ok (.sipush 150, 3) := by decide +kernel
theorem dX3_init_8 : decode cX3_init 8 = .ok (.newarray .byte, 2) := by decide +kernel
theorem dX3_init_10 : decode cX3_init 10 = .ok (.putfield 11, 3) := by decide +kernel
theorem dX3_init_13 : decode cX3_init 13 = .ok (.aload_n 0, 1) := by decide +kernel
theorem dX3_init_14 : decode cX3_init 14 = .ok (.iconst 0, 1) := by decide +kernel
theorem dX3_init_15 : decode cX3_init 15 = .ok (.putfield 15, 3) := by decide +kernel
theorem dX3_init_18 : decode cX3_init 18 = .ok (.aload_n 0, 1) := by decide +kernel
theorem dX3_init_19 : decode cX3_init 19 = .ok (.iconst 0, 1) := by decide +kernel
theorem dX3_init_20 : decode cX3_init 20 = .ok (.putfield 19, 3) := by decide +kernel
theorem dX3_init_23 : decode cX3_init 23 = .ok (.aload_n 0, 1) := by decide +kernel
theorem dX3_init_24 : decode cX3_init 24 = .ok (.iconst 0, 1) := by decide +kernel
theorem dX3_init_25 : decode cX3_init 25 = .ok (.putfield 22, 3) := by decide +kernel
theorem dX3_init_28 : decode cX3_init 28 = .ok (.aload_n 0, 1) := by decide +kernel
theorem dX3_init_29 : decode cX3_init 29 = .ok (.iconst 0, 1) := by decide +kernel
theorem dX3_init_30 : decode cX3_init 30 = .ok (.putfield 25, 3) := by decide +kernel
theorem dX3_init_33 : decode cX3_init 33 = .ok (.aload_n 0, 1) := by decide +kernel
theorem dX3_init_34 : decode cX3_init 34 = .ok (.iconst 0, 1) := by decide +kernel
theorem dX3_init_35 : decode cX3_init 35 = .ok (.putfield 28, 3) := by decide +kernel
theorem dX3_init_38 : decode cX3_init 38 = .ok (.aload_n 0, 1) := by decide +kernel
theorem dX3_init_39 : decode cX3_init 39 = .ok (.iconst 5, 1) := by decide +kernel
theorem dX3_init_40 : decode cX3_init 40 = .ok (.newarray .int, 2) := by decide +kernel
theorem dX3_init_42 : decode cX3_init 42 = .ok (.putfield 31, 3) := by decide +kernel
theorem dX3_init_45 : decode cX3_init 45 = .ok (.return_, 1) := by decide +kernel
theorem dX3_addByte_0 : decode cX3_addByte 0 = .ok (.aload_n 0, 1) := by decide +kernel
theorem dX3_addByte_1 : decode cX3_addByte 1 = .ok (.getfield 15, 3) := by decide +kernel
theorem dX3_addByte_4 : decode cX3_addByte 4 = .ok (.sipush 150, 3) := by decide +kernel
theorem dX3_addByte_7 : decode cX3_addByte 7 = .ok (.if_icmp .ge 24, 3) := by decide +kernel
theorem dX3_addByte_10 : decode cX3_addByte 10 = .ok (.aload_n 0, 1) := by decide +kernel
theorem dX3_addByte_11 : decode cX3_addByte 11 = .ok (.getfield 11, 3) := by decide +kernel
theorem dX3_addByte_14 : decode cX3_addByte 14 = .ok (.aload_n 0, 1) := by decide +kernel
theorem dX3_addByte_15 : decode cX3_addByte 15 = .ok (.getfield 15, 3) := by decide +kernel
theorem dX3_addByte_18 : decode cX3_addByte 18 = .ok (.iload_n 1, 1) := by decide +kernel
theorem dX3_addByte_19 : decode cX3_addByte 19 = .ok (.i2b, 1) := by decide +kernel
theorem dX3_addByte_20 : decode cX3_addByte 20 = .ok (.bastore, 1) := by decide +kernel
theorem dX3_addByte_21 : decode cX3_addByte 21 = .ok (.aload_n 0, 1) := by decide +kernel
theorem dX3_addByte_22 : decode cX3_addByte 22 = .ok (.dup, 1) := by decide +kernel
theorem dX3_addByte_23 : decode cX3_addByte 23 = .ok (.getfield 15, 3) := by decide +kernel
theorem dX3_addByte_26 : decode cX3_addByte 26 = .ok (.iconst 1, 1) := by decide +kernel
theorem dX3_addByte_27 : decode cX3_addByte 27 = .ok (.iadd, 1) := by decide +kernel
theorem dX3_addByte_28 : decode cX3_addByte 28 = .ok (.putfield 15, 3) := by decide +kernel
theorem dX3_addByte_31 : decode cX3_addByte 31 = .ok (.return_, 1) := by decide +kernel
theorem dX3_readInto_0 : decode cX3_readInto 0 = .ok (.aload_n 0, 1) := by decide +kernel
theorem dX3_readInto_1 : decode cX3_readInto 1 = .ok (.iconst 0, 1) := by decide +kernel
theorem dX3_readInto_2 : decode cX3_readInto 2 = .ok (.putfield 22, 3) := by decide +kernel
theorem dX3_readInto_5 : decode cX3_readInto 5 = .ok (.iconst 0, 1) := by decide +kernel
theorem dX3_readInto_6 : decode cX3_readInto 6 = .ok (.istore_n 2, 1) := by decide +kernel
theorem dX3_readInto_7 : decode cX3_readInto 7 = .ok (.iconst 0, 1) := by decide +kernel
theorem dX3_readInto_8 : decode cX3_readInto 8 = .ok (.istore_n 3, 1) := by decide +kernel
theorem dX3_readInto_9 : decode cX3_readInto 9 = .ok (.iload_n 3, 1) := by decide +kernel
theorem dX3_readInto_10 : decode cX3_readInto 10 = .ok (.sipush 150, 3) := by decide +kernel
theorem dX3_readInto_13 : decode cX3_readInto 13 = .ok (.if_icmp .gt 112, 3) := by decide +kernel
theorem dX3_readInto_16 : decode cX3_readInto 16 = .ok (.aload_n 0, 1) := by decide +kernel
theorem dX3_readInto_17 : decode cX3_readInto 17 = .ok (.invokevirtual 35, 3) := by decide +kernel
theorem dX3_readInto_20 : decode cX3_readInto 20 = .ok (.aload_n 0, 1) := by decide +kernel
theorem dX3_readInto_21 : decode cX3_readInto 21 = .ok (.getfield 25, 3) := by decide +kernel
theorem dX3_readInto_24 : decode cX3_readInto 24 = .ok (.ifCond .ne 9, 3) := by decide +kernel
theorem dX3_readInto_27 : decode cX3_readInto 27 = .ok (.iload_n 2, 1) := by decide +kernel
theorem dX3_readInto_28 : decode cX3_readInto 28 = .ok (.ifCond .le 5, 3) := by decide +kernel
theorem dX3_readInto_31 : decode cX3_readInto 31 = .ok (.iload_n 2, 1) := by decide +kernel
theorem dX3_readInto_32 : decode cX3_readInto 32 = .ok (.ireturn, 1) := by decide +kernel
theorem dX3_readInto_33 : decode cX3_readInto 33 = .ok (.aload_n 0, 1) := by decide +kernel
theorem dX3_readInto_34 : decode cX3_readInto 34 = .ok (.getfield 28, 3) := by decide +kernel
theorem dX3_readInto_37 : decode cX3_readInto 37 = .ok (.istore 4, 2) := by decide +kernel
theorem dX3_readInto_39 : decode cX3_readInto 39 = .ok (.aload_n 0, 1) := by decide +kernel
theorem dX3_readInto_40 : decode cX3_readInto 40 = .ok (.getfield 25, 3) := by decide +kernel
theorem dX3_readInto_43 : decode cX3_readInto 43 = .ok (.iconst 1, 1) := by decide +kernel
theorem dX3_readInto_44 : decode cX3_readInto 44 = .ok (.if_icmp .ne 37, 3) := by decide +kernel
theorem dX3_readInto_47 : decode cX3_readInto 47 = .ok (.iload 4, 2) := by decide +kernel
theorem dX3_readInto_49 : decode cX3_readInto 49 = .ok (.ifCond .ne 7, 3) := by decide +kernel
theorem dX3_readInto_52 : decode cX3_readInto 52 = .ok (.iconst 1, 1) := by decide +kernel
theorem dX3_readInto_53 : decode cX3_readInto 53 = .ok (.goto 4, 3) := by decide +kernel
theorem dX3_readInto_56 : decode cX3_readInto 56 = .ok (.iconst 0, 1) := by decide +kernel
theorem dX3_readInto_57 : decode cX3_readInto 57 = .ok (.iload_n 2, 1) := by decide +kernel
theorem dX3_readInto_58 : decode cX3_readInto 58 = .ok (.ifCond .ne 7, 3) := by decide +kernel
theorem dX3_readInto_61 : decode cX3_readInto 61 = .ok (.iconst 1, 1) := by decide +kernel
theorem dX3_readInto_62 : decode cX3_readInto 62 = .ok (.goto 4, 3) := by decide +kernel
theorem dX3_readInto_65 : decode cX3_readInto 65 = .ok (.iconst 0, 1) := by decide +kernel
theorem dX3_readInto_66 : decode cX3_readInto 66 = .ok (.if_icmp .ne 15, 3) := by decide +kernel
theorem dX3_readInto_69 : decode cX3_readInto 69 = .ok (.aload_n 0, 1) := by decide +kernel
theorem dX3_readInto_70 : decode cX3_readInto 70 = .ok (.iload 4, 2) := by decide +kernel
theorem dX3_readInto_72 : decode cX3_readInto 72 = .ok (.invokestatic 38, 3) := by decide +kernel
theorem dX3_readInto_75 : decode cX3_readInto 75 = .ok (.invokevirtual 42, 3) := by decide +kernel
theorem dX3_readInto_78 : decode cX3_readInto 78 = .ok (.ifCond .ne 11, 3) := by decide +kernel
theorem dX3_readInto_81 : decode cX3_readInto 81 = .ok (.bipush (-10), 2) := by decide +kernel
theorem dX3_readInto_83 : decode cX3_readInto 83 = .ok (.aload_n 0, 1) := by decide +kernel
theorem dX3_readInto_84 : decode cX3_readInto 84 = .ok (.getfield 19, 3) := by decide +kernel
theorem dX3_readInto_87 : decode cX3_readInto 87 = .ok (.isub, 1) := by decide +kernel
theorem dX3_readInto_88 : decode cX3_readInto 88 = .ok (.ireturn, 1) := by decide +kernel
theorem dX3_readInto_89 : decode cX3_readInto 89 = .ok (.aload_n 0, 1) := by decide +kernel
theorem dX3_readInto_90 : decode cX3_readInto 90 = .ok (.invokevirtual 35, 3) := by decide +kernel
theorem dX3_readInto_93 : decode cX3_readInto 93 = .ok (.aload_n 0, 1) := by decide +kernel
theorem dX3_readInto_94 : decode cX3_readInto 94 = .ok (.getfield 25, 3) := by decide +kernel
theorem dX3_readInto_97 : decode cX3_readInto 97 = .ok (.iconst 3, 1) := by decide +kernel
theorem dX3_readInto_98 : decode cX3_readInto 98 = .ok (.if_icmp .eq 11, 3) := by decide +kernel
theorem dX3_readInto_101 : decode cX3_readInto 101 = .ok (.bipush (-10), 2) := by decide +kernel
theorem dX3_readInto_103 : decode cX3_readInto 103 = .ok (.aload_n 0, 1) := by decide +kernel
theorem dX3_readInto_104 : decode cX3_readInto 104 = .ok (.getfield 19, 3) := by decide +kernel
theorem dX3_readInto_107 : decode cX3_readInto 107 = .ok (.isub, 1) := by decide +kernel
theorem dX3_readInto_108 : decode cX3_readInto 108 = .ok (.ireturn, 1) := by decide +kernel
theorem dX3_readInto_109 : decode cX3_readInto 109 = .ok (.aload_n 0, 1) := by decide +kernel
theorem dX3_readInto_110 : decode cX3_readInto 110 = .ok (.iload 4, 2) := by decide +kernel
theorem dX3_readInto_112 : decode cX3_readInto 112 = .ok (.aload_n 1, 1) := by decide +kernel
theorem dX3_readInto_113 : decode cX3_readInto 113 = .ok (.invokevirtual 46, 3) := by decide +kernel
theorem dX3_readInto_116 : decode cX3_readInto 116 = .ok (.iinc 2 1, 3) := by decide +kernel
theorem dX3_readInto_119 : decode cX3_readInto 119 = .ok (.iinc 3 1, 3) := by decide +kernel
theorem dX3_readInto_122 : decode cX3_readInto 122 = .ok (.goto (-113), 3) := by decide +kernel
theorem dX3_readInto_125 : decode cX3_readInto 125 = .ok (.iload_n 2, 1) := by decide +kernel
theorem dX3_readInto_126 : decode cX3_readInto 126 = .ok (.ireturn, 1) := by decide +kernel
theorem dX3_limitsOf_0 : decode cX3_limitsOf 0 = .ok (.iload_n 0, 1) := by decide +kernel
theorem dX3_limitsOf_1 : decode cX3_limitsOf 1 = .ok (.lookupswitch 35 #[(0, 27), (1, 31)], 27) := by decide +kernel
theorem dX3_limitsOf_28 : decode cX3_limitsOf 28 = .ok (.getstatic 50, 3) := by decide +kernel
theorem dX3_limitsOf_31 : decode cX3_limitsOf 31 = .ok (.areturn, 1) := by decide +kernel
theorem dX3_limitsOf_32 : decode cX3_limitsOf 32 = .ok (.getstatic 53, 3) := by decide +kernel
theorem dX3_limitsOf_35 : decode cX3_limitsOf 35 = .ok (.areturn, 1) := by decide +kernel
theorem dX3_limitsOf_36 : decode cX3_limitsOf 36 = .ok (.getstatic 56, 3) := by decide +kernel
theorem dX3_limitsOf_39 : decode cX3_limitsOf 39 = .ok (.areturn, 1) := by decide +kernel
theorem dX3_numbersStand_0 : decode cX3_numbersStand 0 = .ok (.iconst 0, 1) := by decide +kernel
theorem dX3_numbersStand_1 : decode cX3_numbersStand 1 = .ok (.istore_n 2, 1) := by decide +kernel
theorem dX3_numbersStand_2 : decode cX3_numbersStand 2 = .ok (.iload_n 2, 1) := by decide +kernel
theorem dX3_numbersStand_3 : decode cX3_numbersStand 3 = .ok (.aload_n 1, 1) := by decide +kernel
theorem dX3_numbersStand_4 : decode cX3_numbersStand 4 = .ok (.arraylength, 1) := by decide +kernel
theorem dX3_numbersStand_5 : decode cX3_numbersStand 5 = .ok (.if_icmp .ge 52, 3) := by decide +kernel
theorem dX3_numbersStand_8 : decode cX3_numbersStand 8 = .ok (.iload_n 2, 1) := by decide +kernel
theorem dX3_numbersStand_9 : decode cX3_numbersStand 9 = .ok (.aload_n 0, 1) := by decide +kernel
theorem dX3_numbersStand_10 : decode cX3_numbersStand 10 = .ok (.getfield 31, 3) := by decide +kernel
theorem dX3_numbersStand_13 : decode cX3_numbersStand 13 = .ok (.arraylength, 1) := by decide +kernel
theorem dX3_numbersStand_14 : decode cX3_numbersStand 14 = .ok (.if_icmp .ge 43, 3) := by decide +kernel
theorem dX3_numbersStand_17 : decode cX3_numbersStand 17 = .ok (.aload_n 0, 1) := by decide +kernel
theorem dX3_numbersStand_18 : decode cX3_numbersStand 18 = .ok (.invokevirtual 35, 3) := by decide +kernel
theorem dX3_numbersStand_21 : decode cX3_numbersStand 21 = .ok (.aload_n 0, 1) := by decide +kernel
theorem dX3_numbersStand_22 : decode cX3_numbersStand 22 = .ok (.getfield 25, 3) := by decide +kernel
theorem dX3_numbersStand_25 : decode cX3_numbersStand 25 = .ok (.iconst 2, 1) := by decide +kernel
theorem dX3_numbersStand_26 : decode cX3_numbersStand 26 = .ok (.if_icmp .ne 13, 3) := by decide +kernel
theorem dX3_numbersStand_29 : decode cX3_numbersStand 29 = .ok (.aload_n 0, 1) := by decide +kernel
theorem dX3_numbersStand_30 : decode cX3_numbersStand 30 = .ok (.getfield 28, 3) := by decide +kernel
theorem dX3_numbersStand_33 : decode cX3_numbersStand 33 = .ok (.aload_n 1, 1) := by decide +kernel
theorem dX3_numbersStand_34 : decode cX3_numbersStand 34 = .ok (.iload_n 2, 1) := by decide +kernel
theorem dX3_numbersStand_35 : decode cX3_numbersStand 35 = .ok (.iaload, 1) := by decide +kernel
theorem dX3_numbersStand_36 : decode cX3_numbersStand 36 = .ok (.if_icmp .le 5, 3) := by decide +kernel
theorem dX3_numbersStand_39 : decode cX3_numbersStand 39 = .ok (.iconst 0, 1) := by decide +kernel
theorem dX3_numbersStand_40 : decode cX3_numbersStand 40 = .ok (.ireturn, 1) := by decide +kernel
theorem dX3_numbersStand_41 : decode cX3_numbersStand 41 = .ok (.aload_n 0, 1) := by decide +kernel
theorem dX3_numbersStand_42 : decode cX3_numbersStand 42 = .ok (.getfield 31, 3) := by decide +kernel
theorem dX3_numbersStand_45 : decode cX3_numbersStand 45 = .ok (.iload_n 2, 1) := by decide +kernel
theorem dX3_numbersStand_46 : decode cX3_numbersStand 46 = .ok (.aload_n 0, 1) := by decide +kernel
theorem dX3_numbersStand_47 : decode cX3_numbersStand 47 = .ok (.getfield 28, 3) := by decide +kernel
theorem dX3_numbersStand_50 : decode cX3_numbersStand 50 = .ok (.iastore, 1) := by decide +kernel
theorem dX3_numbersStand_51 : decode cX3_numbersStand 51 = .ok (.iinc 2 1, 3) := by decide +kernel
theorem dX3_numbersStand_54 : decode cX3_numbersStand 54 = .ok (.goto (-52), 3) := by decide +kernel
theorem dX3_numbersStand_57 : decode cX3_numbersStand 57 = .ok (.iconst 1, 1) := by decide +kernel
theorem dX3_numbersStand_58 : decode cX3_numbersStand 58 = .ok (.ireturn, 1) := by decide +kernel
theorem dX3_putItem_0 : decode cX3_putItem 0 = .ok (.iload_n 1, 1) := by decide +kernel
theorem dX3_putItem_1 : decode cX3_putItem 1 = .ok (.lookupswitch 89 #[(0, 27), (1, 40)], 27) := by decide +kernel
theorem dX3_putItem_28 : decode cX3_putItem 28 = .ok (.aload_n 2, 1) := by decide +kernel
theorem dX3_putItem_29 : decode cX3_putItem 29 = .ok (.aload_n 0, 1) := by decide +kernel
theorem dX3_putItem_30 : decode cX3_putItem 30 = .ok (.getfield 31, 3) := by decide +kernel
theorem dX3_putItem_33 : decode cX3_putItem 33 = .ok (.iconst 0, 1) := by decide +kernel
theorem dX3_putItem_34 : decode cX3_putItem 34 = .ok (.iaload, 1) := by decide +kernel
theorem dX3_putItem_35 : decode cX3_putItem 35 = .ok (.invokevirtual 59, 3) := by decide +kernel
theorem dX3_putItem_38 : decode cX3_putItem 38 = .ok (.goto 87, 3) := by decide +kernel
theorem dX3_putItem_41 : decode cX3_putItem 41 = .ok (.aload_n 2, 1) := by decide +kernel
theorem dX3_putItem_42 : decode cX3_putItem 42 = .ok (.getfield 65, 3) := by decide +kernel
theorem dX3_putItem_45 : decode cX3_putItem 45 = .ok (.aload_n 0, 1) := by decide +kernel
theorem dX3_putItem_46 : decode cX3_putItem 46 = .ok (.getfield 31, 3) := by decide +kernel
theorem dX3_putItem_49 : decode cX3_putItem 49 = .ok (.iconst 0, 1) := by decide +kernel
theorem dX3_putItem_50 : decode cX3_putItem 50 = .ok (.iaload, 1) := by decide +kernel
theorem dX3_putItem_51 : decode cX3_putItem 51 = .ok (.aload_n 0, 1) := by decide +kernel
theorem dX3_putItem_52 : decode cX3_putItem 52 = .ok (.getfield 31, 3) := by decide +kernel
theorem dX3_putItem_55 : decode cX3_putItem 55 = .ok (.iconst 1, 1) := by decide +kernel
theorem dX3_putItem_56 : decode cX3_putItem 56 = .ok (.iaload, 1) := by decide +kernel
theorem dX3_putItem_57 : decode cX3_putItem 57 = .ok (.aload_n 0, 1) := by decide +kernel
theorem dX3_putItem_58 : decode cX3_putItem 58 = .ok (.getfield 31, 3) := by decide +kernel
theorem dX3_putItem_61 : decode cX3_putItem 61 = .ok (.iconst 2, 1) := by decide +kernel
theorem dX3_putItem_62 : decode cX3_putItem 62 = .ok (.iaload, 1) := by decide +kernel
theorem dX3_putItem_63 : decode cX3_putItem 63 = .ok (.iconst 4, 1) := by decide +kernel
theorem dX3_putItem_64 : decode cX3_putItem 64 = .ok (.ishl, 1) := by decide +kernel
theorem dX3_putItem_65 : decode cX3_putItem 65 = .ok (.ior, 1) := by decide +kernel
theorem dX3_putItem_66 : decode cX3_putItem 66 = .ok (.aload_n 0, 1) := by decide +kernel
theorem dX3_putItem_67 : decode cX3_putItem 67 = .ok (.getfield 31, 3) := by decide +kernel
theorem dX3_putItem_70 : decode cX3_putItem 70 = .ok (.iconst 3, 1) := by decide +kernel
theorem dX3_putItem_71 : decode cX3_putItem 71 = .ok (.iaload, 1) := by decide +kernel
theorem dX3_putItem_72 : decode cX3_putItem 72 = .ok (.bipush 8, 2) := by decide +kernel
theorem dX3_putItem_74 : decode cX3_putItem 74 = .ok (.ishl, 1) := by decide +kernel
theorem dX3_putItem_75 : decode cX3_putItem 75 = .ok (.ior, 1) := by decide +kernel
theorem dX3_putItem_76 : decode cX3_putItem 76 = .ok (.aload_n 0, 1) := by decide +kernel
theorem dX3_putItem_77 : decode cX3_putItem 77 = .ok (.getfield 31, 3) := by decide +kernel
theorem dX3_putItem_80 : decode cX3_putItem 80 = .ok (.iconst 4, 1) := by decide +kernel
theorem dX3_putItem_81 : decode cX3_putItem 81 = .ok (.iaload, 1) := by decide +kernel
theorem dX3_putItem_82 : decode cX3_putItem 82 = .ok (.bipush 12, 2) := by decide +kernel
theorem dX3_putItem_84 : decode cX3_putItem 84 = .ok (.ishl, 1) := by decide +kernel
theorem dX3_putItem_85 : decode cX3_putItem 85 = .ok (.ior, 1) := by decide +kernel
theorem dX3_putItem_86 : decode cX3_putItem 86 = .ok (.iastore, 1) := by decide +kernel
theorem dX3_putItem_87 : decode cX3_putItem 87 = .ok (.goto 38, 3) := by decide +kernel
theorem dX3_putItem_90 : decode cX3_putItem 90 = .ok (.aload_n 2, 1) := by decide +kernel
theorem dX3_putItem_91 : decode cX3_putItem 91 = .ok (.aload_n 0, 1) := by decide +kernel
theorem dX3_putItem_92 : decode cX3_putItem 92 = .ok (.getfield 31, 3) := by decide +kernel
theorem dX3_putItem_95 : decode cX3_putItem 95 = .ok (.iconst 0, 1) := by decide +kernel
theorem dX3_putItem_96 : decode cX3_putItem 96 = .ok (.iaload, 1) := by decide +kernel
theorem dX3_putItem_97 : decode cX3_putItem 97 = .ok (.aload_n 0, 1) := by decide +kernel
theorem dX3_putItem_98 : decode cX3_putItem 98 = .ok (.getfield 31, 3) := by decide +kernel
theorem dX3_putItem_101 : decode cX3_putItem 101 = .ok (.iconst 1, 1) := by decide +kernel
theorem dX3_putItem_102 : decode cX3_putItem 102 = .ok (.iaload, 1) := by decide +kernel
theorem dX3_putItem_103 : decode cX3_putItem 103 = .ok (.aload_n 0, 1) := by decide +kernel
theorem dX3_putItem_104 : decode cX3_putItem 104 = .ok (.getfield 31, 3) := by decide +kernel
theorem dX3_putItem_107 : decode cX3_putItem 107 = .ok (.iconst 2, 1) := by decide +kernel
theorem dX3_putItem_108 : decode cX3_putItem 108 = .ok (.iaload, 1) := by decide +kernel
theorem dX3_putItem_109 : decode cX3_putItem 109 = .ok (.aload_n 0, 1) := by decide +kernel
theorem dX3_putItem_110 : decode cX3_putItem 110 = .ok (.getfield 31, 3) := by decide +kernel
theorem dX3_putItem_113 : decode cX3_putItem 113 = .ok (.iconst 3, 1) := by decide +kernel
theorem dX3_putItem_114 : decode cX3_putItem 114 = .ok (.iaload, 1) := by decide +kernel
theorem dX3_putItem_115 : decode cX3_putItem 115 = .ok (.aload_n 0, 1) := by decide +kernel
theorem dX3_putItem_116 : decode cX3_putItem 116 = .ok (.getfield 31, 3) := by decide +kernel
theorem dX3_putItem_119 : decode cX3_putItem 119 = .ok (.iconst 4, 1) := by decide +kernel
theorem dX3_putItem_120 : decode cX3_putItem 120 = .ok (.iaload, 1) := by decide +kernel
theorem dX3_putItem_121 : decode cX3_putItem 121 = .ok (.invokevirtual 68, 3) := by decide +kernel
theorem dX3_putItem_124 : decode cX3_putItem 124 = .ok (.pop, 1) := by decide +kernel
theorem dX3_putItem_125 : decode cX3_putItem 125 = .ok (.return_, 1) := by decide +kernel
theorem dX3_nextToken_0 : decode cX3_nextToken 0 = .ok (.aload_n 0, 1) := by decide +kernel
theorem dX3_nextToken_1 : decode cX3_nextToken 1 = .ok (.aload_n 0, 1) := by decide +kernel
theorem dX3_nextToken_2 : decode cX3_nextToken 2 = .ok (.getfield 22, 3) := by decide +kernel
theorem dX3_nextToken_5 : decode cX3_nextToken 5 = .ok (.putfield 19, 3) := by decide +kernel
theorem dX3_nextToken_8 : decode cX3_nextToken 8 = .ok (.aload_n 0, 1) := by decide +kernel
theorem dX3_nextToken_9 : decode cX3_nextToken 9 = .ok (.getfield 19, 3) := by decide +kernel
theorem dX3_nextToken_12 : decode cX3_nextToken 12 = .ok (.aload_n 0, 1) := by decide +kernel
theorem dX3_nextToken_13 : decode cX3_nextToken 13 = .ok (.getfield 15, 3) := by decide +kernel
theorem dX3_nextToken_16 : decode cX3_nextToken 16 = .ok (.if_icmp .ge 30, 3) := by decide +kernel
theorem dX3_nextToken_19 : decode cX3_nextToken 19 = .ok (.aload_n 0, 1) := by decide +kernel
theorem dX3_nextToken_20 : decode cX3_nextToken 20 = .ok (.getfield 11, 3) := by decide +kernel
theorem dX3_nextToken_23 : decode cX3_nextToken 23 = .ok (.aload_n 0, 1) := by decide +kernel
theorem dX3_nextToken_24 : decode cX3_nextToken 24 = .ok (.getfield 19, 3) := by decide +kernel
theorem dX3_nextToken_27 : decode cX3_nextToken 27 = .ok (.baload, 1) := by decide +kernel
theorem dX3_nextToken_28 : decode cX3_nextToken 28 = .ok (.bipush 32, 2) := by decide +kernel
theorem dX3_nextToken_30 : decode cX3_nextToken 30 = .ok (.if_icmp .ne 16, 3) := by decide +kernel
theorem dX3_nextToken_33 : decode cX3_nextToken 33 = .ok (.aload_n 0, 1) := by decide +kernel
theorem dX3_nextToken_34 : decode cX3_nextToken 34 = .ok (.dup, 1) := by decide +kernel
theorem dX3_nextToken_35 : decode cX3_nextToken 35 = .ok (.getfield 19, 3) := by decide +kernel
theorem dX3_nextToken_38 : decode cX3_nextToken 38 = .ok (.iconst 1, 1) := by decide +kernel
theorem dX3_nextToken_39 : decode cX3_nextToken 39 = .ok (.iadd, 1) := by decide +kernel
theorem dX3_nextToken_40 : decode cX3_nextToken 40 = .ok (.putfield 19, 3) := by decide +kernel
theorem dX3_nextToken_43 : decode cX3_nextToken 43 = .ok (.goto (-35), 3) := by decide +kernel
theorem dX3_nextToken_46 : decode cX3_nextToken 46 = .ok (.aload_n 0, 1) := by decide +kernel
theorem dX3_nextToken_47 : decode cX3_nextToken 47 = .ok (.aload_n 0, 1) := by decide +kernel
theorem dX3_nextToken_48 : decode cX3_nextToken 48 = .ok (.getfield 19, 3) := by decide +kernel
theorem dX3_nextToken_51 : decode cX3_nextToken 51 = .ok (.putfield 22, 3) := by decide +kernel
theorem dX3_nextToken_54 : decode cX3_nextToken 54 = .ok (.aload_n 0, 1) := by decide +kernel
theorem dX3_nextToken_55 : decode cX3_nextToken 55 = .ok (.getfield 19, 3) := by decide +kernel
theorem dX3_nextToken_58 : decode cX3_nextToken 58 = .ok (.aload_n 0, 1) := by decide +kernel
theorem dX3_nextToken_59 : decode cX3_nextToken 59 = .ok (.getfield 15, 3) := by decide +kernel
theorem dX3_nextToken_62 : decode cX3_nextToken 62 = .ok (.if_icmp .lt 11, 3) := by decide +kernel
theorem dX3_nextToken_65 : decode cX3_nextToken 65 = .ok (.aload_n 0, 1) := by decide +kernel
theorem dX3_nextToken_66 : decode cX3_nextToken 66 = .ok (.iconst 0, 1) := by decide +kernel
theorem dX3_nextToken_67 : decode cX3_nextToken 67 = .ok (.putfield 25, 3) := by decide +kernel
theorem dX3_nextToken_70 : decode cX3_nextToken 70 = .ok (.goto 84, 3) := by decide +kernel
theorem dX3_nextToken_73 : decode cX3_nextToken 73 = .ok (.aload_n 0, 1) := by decide +kernel
theorem dX3_nextToken_74 : decode cX3_nextToken 74 = .ok (.getfield 11, 3) := by decide +kernel
theorem dX3_nextToken_77 : decode cX3_nextToken 77 = .ok (.aload_n 0, 1) := by decide +kernel
theorem dX3_nextToken_78 : decode cX3_nextToken 78 = .ok (.getfield 19, 3) := by decide +kernel
theorem dX3_nextToken_81 : decode cX3_nextToken 81 = .ok (.baload, 1) := by decide +kernel
theorem dX3_nextToken_82 : decode cX3_nextToken 82 = .ok (.bipush 59, 2) := by decide +kernel
theorem dX3_nextToken_84 : decode cX3_nextToken 84 = .ok (.if_icmp .ne 21, 3) := by decide +kernel
theorem dX3_nextToken_87 : decode cX3_nextToken 87 = .ok (.aload_n 0, 1) := by decide +kernel
theorem dX3_nextToken_88 : decode cX3_nextToken 88 = .ok (.iconst 3, 1) := by decide +kernel
theorem dX3_nextToken_89 : decode cX3_nextToken 89 = .ok (.putfield 25, 3) := by decide +kernel
theorem dX3_nextToken_92 : decode cX3_nextToken 92 = .ok (.aload_n 0, 1) := by decide +kernel
theorem dX3_nextToken_93 : decode cX3_nextToken 93 = .ok (.aload_n 0, 1) := by decide +kernel
theorem dX3_nextToken_94 : decode cX3_nextToken 94 = .ok (.getfield 19, 3) := by decide +kernel
theorem dX3_nextToken_97 : decode cX3_nextToken 97 = .ok (.iconst 1, 1) := by decide +kernel
theorem dX3_nextToken_98 : decode cX3_nextToken 98 = .ok (.iadd, 1) := by decide +kernel
theorem dX3_nextToken_99 : decode cX3_nextToken 99 = .ok (.putfield 22, 3) := by decide +kernel
theorem dX3_nextToken_102 : decode cX3_nextToken 102 = .ok (.goto 52, 3) := by decide +kernel
theorem dX3_nextToken_105 : decode cX3_nextToken 105 = .ok (.aload_n 0, 1) := by decide +kernel
theorem dX3_nextToken_106 : decode cX3_nextToken 106 = .ok (.aload_n 0, 1) := by decide +kernel
theorem dX3_nextToken_107 : decode cX3_nextToken 107 = .ok (.getfield 19, 3) := by decide +kernel
theorem dX3_nextToken_110 : decode cX3_nextToken 110 = .ok (.bipush 97, 2) := by decide +kernel
theorem dX3_nextToken_112 : decode cX3_nextToken 112 = .ok (.bipush 122, 2) := by decide +kernel
theorem dX3_nextToken_114 : decode cX3_nextToken 114 = .ok (.invokevirtual 72, 3) := by decide +kernel
theorem dX3_nextToken_117 : decode cX3_nextToken 117 = .ok (.ifCond .eq 10, 3) := by decide +kernel
theorem dX3_nextToken_120 : decode cX3_nextToken 120 = .ok (.aload_n 0, 1) := by decide +kernel
theorem dX3_nextToken_121 : decode cX3_nextToken 121 = .ok (.invokevirtual 76, 3) := by decide +kernel
theorem dX3_nextToken_124 : decode cX3_nextToken 124 = .ok (.goto 30, 3) := by decide +kernel
theorem dX3_nextToken_127 : decode cX3_nextToken 127 = .ok (.aload_n 0, 1) := by decide +kernel
theorem dX3_nextToken_128 : decode cX3_nextToken 128 = .ok (.aload_n 0, 1) := by decide +kernel
theorem dX3_nextToken_129 : decode cX3_nextToken 129 = .ok (.getfield 19, 3) := by decide +kernel
theorem dX3_nextToken_132 : decode cX3_nextToken 132 = .ok (.bipush 48, 2) := by decide +kernel
theorem dX3_nextToken_134 : decode cX3_nextToken 134 = .ok (.bipush 57, 2) := by decide +kernel
theorem dX3_nextToken_136 : decode cX3_nextToken 136 = .ok (.invokevirtual 72, 3) := by decide +kernel
theorem dX3_nextToken_139 : decode cX3_nextToken 139 = .ok (.ifCond .eq 10, 3) := by decide +kernel
theorem dX3_nextToken_142 : decode cX3_nextToken 142 = .ok (.aload_n 0, 1) := by decide +kernel
theorem dX3_nextToken_143 : decode cX3_nextToken 143 = .ok (.invokevirtual 79, 3) := by decide +kernel
theorem dX3_nextToken_146 : decode cX3_nextToken 146 = .ok (.goto 8, 3) := by decide +kernel
theorem dX3_nextToken_149 : decode cX3_nextToken 149 = .ok (.aload_n 0, 1) := by decide +kernel
theorem dX3_nextToken_150 : decode cX3_nextToken 150 = .ok (.iconst 4, 1) := by decide +kernel
theorem dX3_nextToken_151 : decode cX3_nextToken 151 = .ok (.putfield 25, 3) := by decide +kernel
theorem dX3_nextToken_154 : decode cX3_nextToken 154 = .ok (.return_, 1) := by decide +kernel
theorem dX3_isWithin_0 : decode cX3_isWithin 0 = .ok (.iload_n 1, 1) := by decide +kernel
theorem dX3_isWithin_1 : decode cX3_isWithin 1 = .ok (.aload_n 0, 1) := by decide +kernel
theorem dX3_isWithin_2 : decode cX3_isWithin 2 = .ok (.getfield 15, 3) := by decide +kernel
theorem dX3_isWithin_5 : decode cX3_isWithin 5 = .ok (.if_icmp .ge 27, 3) := by decide +kernel
theorem dX3_isWithin_8 : decode cX3_isWithin 8 = .ok (.aload_n 0, 1) := by decide +kernel
theorem dX3_isWithin_9 : decode cX3_isWithin 9 = .ok (.getfield 11, 3) := by decide +kernel
theorem dX3_isWithin_12 : decode cX3_isWithin 12 = .ok (.iload_n 1, 1) := by decide +kernel
theorem dX3_isWithin_13 : decode cX3_isWithin 13 = .ok (.baload, 1) := by decide +kernel
theorem dX3_isWithin_14 : decode cX3_isWithin 14 = .ok (.iload_n 2, 1) := by decide +kernel
theorem dX3_isWithin_15 : decode cX3_isWithin 15 = .ok (.if_icmp .lt 17, 3) := by decide +kernel
theorem dX3_isWithin_18 : decode cX3_isWithin 18 = .ok (.aload_n 0, 1) := by decide +kernel
theorem dX3_isWithin_19 : decode cX3_isWithin 19 = .ok (.getfield 11, 3) := by decide +kernel
theorem dX3_isWithin_22 : decode cX3_isWithin 22 = .ok (.iload_n 1, 1) := by decide +kernel
theorem dX3_isWithin_23 : decode cX3_isWithin 23 = .ok (.baload, 1) := by decide +kernel
theorem dX3_isWithin_24 : decode cX3_isWithin 24 = .ok (.iload_n 3, 1) := by decide +kernel
theorem dX3_isWithin_25 : decode cX3_isWithin 25 = .ok (.if_icmp .gt 7, 3) := by decide +kernel
theorem dX3_isWithin_28 : decode cX3_isWithin 28 = .ok (.iconst 1, 1) := by decide +kernel
theorem dX3_isWithin_29 : decode cX3_isWithin 29 = .ok (.goto 4, 3) := by decide +kernel
theorem dX3_isWithin_32 : decode cX3_isWithin 32 = .ok (.iconst 0, 1) := by decide +kernel
theorem dX3_isWithin_33 : decode cX3_isWithin 33 = .ok (.ireturn, 1) := by decide +kernel
theorem dX3_takeWord_0 : decode cX3_takeWord 0 = .ok (.aload_n 0, 1) := by decide +kernel
theorem dX3_takeWord_1 : decode cX3_takeWord 1 = .ok (.getfield 22, 3) := by decide +kernel
theorem dX3_takeWord_4 : decode cX3_takeWord 4 = .ok (.aload_n 0, 1) := by decide +kernel
theorem dX3_takeWord_5 : decode cX3_takeWord 5 = .ok (.getfield 15, 3) := by decide +kernel
theorem dX3_takeWord_8 : decode cX3_takeWord 8 = .ok (.if_icmp .ge 31, 3) := by decide +kernel
theorem dX3_takeWord_11 : decode cX3_takeWord 11 = .ok (.aload_n 0, 1) := by decide +kernel
theorem dX3_takeWord_12 : decode cX3_takeWord 12 = .ok (.aload_n 0, 1) := by decide +kernel
theorem dX3_takeWord_13 : decode cX3_takeWord 13 = .ok (.getfield 22, 3) := by decide +kernel
theorem dX3_takeWord_16 : decode cX3_takeWord 16 = .ok (.bipush 97, 2) := by decide +kernel
theorem dX3_takeWord_18 : decode cX3_takeWord 18 = .ok (.bipush 122, 2) := by decide +kernel
theorem dX3_takeWord_20 : decode cX3_takeWord 20 = .ok (.invokevirtual 72, 3) := by decide +kernel
theorem dX3_takeWord_23 : decode cX3_takeWord 23 = .ok (.ifCond .eq 16, 3) := by decide +kernel
theorem dX3_takeWord_26 : decode cX3_takeWord 26 = .ok (.aload_n 0, 1) := by decide +kernel
theorem dX3_takeWord_27 : decode cX3_takeWord 27 = .ok (.dup, 1) := by decide +kernel
theorem dX3_takeWord_28 : decode cX3_takeWord 28 = .ok (.getfield 22, 3) := by decide +kernel
theorem dX3_takeWord_31 : decode cX3_takeWord 31 = .ok (.iconst 1, 1) := by decide +kernel
theorem dX3_takeWord_32 : decode cX3_takeWord 32 = .ok (.iadd, 1) := by decide +kernel
theorem dX3_takeWord_33 : decode cX3_takeWord 33 = .ok (.putfield 22, 3) := by decide +kernel
theorem dX3_takeWord_36 : decode cX3_takeWord 36 = .ok (.goto (-36), 3) := by decide +kernel
theorem dX3_takeWord_39 : decode cX3_takeWord 39 = .ok (.aload_n 0, 1) := by decide +kernel
theorem dX3_takeWord_40 : decode cX3_takeWord 40 = .ok (.iconst 1, 1) := by decide +kernel
theorem dX3_takeWord_41 : decode cX3_takeWord 41 = .ok (.putfield 25, 3) := by decide +kernel
theorem dX3_takeWord_44 : decode cX3_takeWord 44 = .ok (.aload_n 0, 1) := by decide +kernel
theorem dX3_takeWord_45 : decode cX3_takeWord 45 = .ok (.ldc 82, 2) := by decide +kernel
theorem dX3_takeWord_47 : decode cX3_takeWord 47 = .ok (.invokevirtual 84, 3) := by decide +kernel
theorem dX3_takeWord_50 : decode cX3_takeWord 50 = .ok (.ifCond .eq 11, 3) := by decide +kernel
theorem dX3_takeWord_53 : decode cX3_takeWord 53 = .ok (.aload_n 0, 1) := by decide +kernel
theorem dX3_takeWord_54 : decode cX3_takeWord 54 = .ok (.iconst 0, 1) := by decide +kernel
theorem dX3_takeWord_55 : decode cX3_takeWord 55 = .ok (.putfield 28, 3) := by decide +kernel
theorem dX3_takeWord_58 : decode cX3_takeWord 58 = .ok (.goto 42, 3) := by decide +kernel
theorem dX3_takeWord_61 : decode cX3_takeWord 61 = .ok (.aload_n 0, 1) := by decide +kernel
theorem dX3_takeWord_62 : decode cX3_takeWord 62 = .ok (.ldc 88, 2) := by decide +kernel
theorem dX3_takeWord_64 : decode cX3_takeWord 64 = .ok (.invokevirtual 84, 3) := by decide +kernel
theorem dX3_takeWord_67 : decode cX3_takeWord 67 = .ok (.ifCond .eq 11, 3) := by decide +kernel
theorem dX3_takeWord_70 : decode cX3_takeWord 70 = .ok (.aload_n 0, 1) := by decide +kernel
theorem dX3_takeWord_71 : decode cX3_takeWord 71 = .ok (.iconst 1, 1) := by decide +kernel
theorem dX3_takeWord_72 : decode cX3_takeWord 72 = .ok (.putfield 28, 3) := by decide +kernel
theorem dX3_takeWord_75 : decode cX3_takeWord 75 = .ok (.goto 25, 3) := by decide +kernel
theorem dX3_takeWord_78 : decode cX3_takeWord 78 = .ok (.aload_n 0, 1) := by decide +kernel
theorem dX3_takeWord_79 : decode cX3_takeWord 79 = .ok (.ldc 90, 2) := by decide +kernel
theorem dX3_takeWord_81 : decode cX3_takeWord 81 = .ok (.invokevirtual 84, 3) := by decide +kernel
theorem dX3_takeWord_84 : decode cX3_takeWord 84 = .ok (.ifCond .eq 11, 3) := by decide +kernel
theorem dX3_takeWord_87 : decode cX3_takeWord 87 = .ok (.aload_n 0, 1) := by decide +kernel
theorem dX3_takeWord_88 : decode cX3_takeWord 88 = .ok (.iconst 2, 1) := by decide +kernel
theorem dX3_takeWord_89 : decode cX3_takeWord 89 = .ok (.putfield 28, 3) := by decide +kernel
theorem dX3_takeWord_92 : decode cX3_takeWord 92 = .ok (.goto 8, 3) := by decide +kernel
theorem dX3_takeWord_95 : decode cX3_takeWord 95 = .ok (.aload_n 0, 1) := by decide +kernel
theorem dX3_takeWord_96 : decode cX3_takeWord 96 = .ok (.iconst 4, 1) := by decide +kernel
theorem dX3_takeWord_97 : decode cX3_takeWord 97 = .ok (.putfield 25, 3) := by decide +kernel
theorem dX3_takeWord_100 : decode cX3_takeWord 100 = .ok (.return_, 1) := by decide +kernel
theorem dX3_isTheWord_0 : decode cX3_isTheWord 0 = .ok (.aload_n 0, 1) := by decide +kernel
theorem dX3_isTheWord_1 : decode cX3_isTheWord 1 = .ok (.getfield 22, 3) := by decide +kernel
theorem dX3_isTheWord_4 : decode cX3_isTheWord 4 = .ok (.aload_n 0, 1) := by decide +kernel
theorem dX3_isTheWord_5 : decode cX3_isTheWord 5 = .ok (.getfield 19, 3) := by decide +kernel
theorem dX3_isTheWord_8 : decode cX3_isTheWord 8 = .ok (.isub, 1) := by decide +kernel
theorem dX3_isTheWord_9 : decode cX3_isTheWord 9 = .ok (.aload_n 1, 1) := by decide +kernel
theorem dX3_isTheWord_10 : decode cX3_isTheWord 10 = .ok (.invokevirtual 92, 3) := by decide +kernel
theorem dX3_isTheWord_13 : decode cX3_isTheWord 13 = .ok (.if_icmp .eq 5, 3) := by decide +kernel
theorem dX3_isTheWord_16 : decode cX3_isTheWord 16 = .ok (.iconst 0, 1) := by decide +kernel
theorem dX3_isTheWord_17 : decode cX3_isTheWord 17 = .ok (.ireturn, 1) := by decide +kernel
theorem dX3_isTheWord_18 : decode cX3_isTheWord 18 = .ok (.iconst 0, 1) := by decide +kernel
theorem dX3_isTheWord_19 : decode cX3_isTheWord 19 = .ok (.istore_n 2, 1) := by decide +kernel
theorem dX3_isTheWord_20 : decode cX3_isTheWord 20 = .ok (.iload_n 2, 1) := by decide +kernel
theorem dX3_isTheWord_21 : decode cX3_isTheWord 21 = .ok (.aload_n 1, 1) := by decide +kernel
theorem dX3_isTheWord_22 : decode cX3_isTheWord 22 = .ok (.invokevirtual 92, 3) := by decide +kernel
theorem dX3_isTheWord_25 : decode cX3_isTheWord 25 = .ok (.if_icmp .ge 43, 3) := by decide +kernel
theorem dX3_isTheWord_28 : decode cX3_isTheWord 28 = .ok (.aload_n 0, 1) := by decide +kernel
theorem dX3_isTheWord_29 : decode cX3_isTheWord 29 = .ok (.getfield 19, 3) := by decide +kernel
theorem dX3_isTheWord_32 : decode cX3_isTheWord 32 = .ok (.iload_n 2, 1) := by decide +kernel
theorem dX3_isTheWord_33 : decode cX3_isTheWord 33 = .ok (.iadd, 1) := by decide +kernel
theorem dX3_isTheWord_34 : decode cX3_isTheWord 34 = .ok (.aload_n 0, 1) := by decide +kernel
theorem dX3_isTheWord_35 : decode cX3_isTheWord 35 = .ok (.getfield 15, 3) := by decide +kernel
theorem dX3_isTheWord_38 : decode cX3_isTheWord 38 = .ok (.if_icmp .ge 22, 3) := by decide +kernel
theorem dX3_isTheWord_41 : decode cX3_isTheWord 41 = .ok (.aload_n 0, 1) := by decide +kernel
theorem dX3_isTheWord_42 : decode cX3_isTheWord 42 = .ok (.getfield 11, 3) := by decide +kernel
theorem dX3_isTheWord_45 : decode cX3_isTheWord 45 = .ok (.aload_n 0, 1) := by decide +kernel
theorem dX3_isTheWord_46 : decode cX3_isTheWord 46 = .ok (.getfield 19, 3) := by decide +kernel
theorem dX3_isTheWord_49 : decode cX3_isTheWord 49 = .ok (.iload_n 2, 1) := by decide +kernel
theorem dX3_isTheWord_50 : decode cX3_isTheWord 50 = .ok (.iadd, 1) := by decide +kernel
theorem dX3_isTheWord_51 : decode cX3_isTheWord 51 = .ok (.baload, 1) := by decide +kernel
theorem dX3_isTheWord_52 : decode cX3_isTheWord 52 = .ok (.aload_n 1, 1) := by decide +kernel
theorem dX3_isTheWord_53 : decode cX3_isTheWord 53 = .ok (.iload_n 2, 1) := by decide +kernel
theorem dX3_isTheWord_54 : decode cX3_isTheWord 54 = .ok (.invokevirtual 97, 3) := by decide +kernel
theorem dX3_isTheWord_57 : decode cX3_isTheWord 57 = .ok (.if_icmp .eq 5, 3) := by decide +kernel
theorem dX3_isTheWord_60 : decode cX3_isTheWord 60 = .ok (.iconst 0, 1) := by decide +kernel
theorem dX3_isTheWord_61 : decode cX3_isTheWord 61 = .ok (.ireturn, 1) := by decide +kernel
theorem dX3_isTheWord_62 : decode cX3_isTheWord 62 = .ok (.iinc 2 1, 3) := by decide +kernel
theorem dX3_isTheWord_65 : decode cX3_isTheWord 65 = .ok (.goto (-45), 3) := by decide +kernel
theorem dX3_isTheWord_68 : decode cX3_isTheWord 68 = .ok (.iconst 1, 1) := by decide +kernel
theorem dX3_isTheWord_69 : decode cX3_isTheWord 69 = .ok (.ireturn, 1) := by decide +kernel
theorem dX3_takeNumber_0 : decode cX3_takeNumber 0 = .ok (.aload_n 0, 1) := by decide +kernel
theorem dX3_takeNumber_1 : decode cX3_takeNumber 1 = .ok (.iconst 0, 1) := by decide +kernel
theorem dX3_takeNumber_2 : decode cX3_takeNumber 2 = .ok (.putfield 28, 3) := by decide +kernel
theorem dX3_takeNumber_5 : decode cX3_takeNumber 5 = .ok (.aload_n 0, 1) := by decide +kernel
theorem dX3_takeNumber_6 : decode cX3_takeNumber 6 = .ok (.getfield 22, 3) := by decide +kernel
theorem dX3_takeNumber_9 : decode cX3_takeNumber 9 = .ok (.aload_n 0, 1) := by decide +kernel
theorem dX3_takeNumber_10 : decode cX3_takeNumber 10 = .ok (.getfield 15, 3) := by decide +kernel
theorem dX3_takeNumber_13 : decode cX3_takeNumber 13 = .ok (.if_icmp .ge 55, 3) := by decide +kernel
theorem dX3_takeNumber_16 : decode cX3_takeNumber 16 = .ok (.aload_n 0, 1) := by decide +kernel
theorem dX3_takeNumber_17 : decode cX3_takeNumber 17 = .ok (.aload_n 0, 1) := by decide +kernel
theorem dX3_takeNumber_18 : decode cX3_takeNumber 18 = .ok (.getfield 22, 3) := by decide +kernel
theorem dX3_takeNumber_21 : decode cX3_takeNumber 21 = .ok (.bipush 48, 2) := by decide +kernel
theorem dX3_takeNumber_23 : decode cX3_takeNumber 23 = .ok (.bipush 57, 2) := by decide +kernel
theorem dX3_takeNumber_25 : decode cX3_takeNumber 25 = .ok (.invokevirtual 72, 3) := by decide +kernel
theorem dX3_takeNumber_28 : decode cX3_takeNumber 28 = .ok (.ifCond .eq 40, 3) := by decide +kernel
theorem dX3_takeNumber_31 : decode cX3_takeNumber 31 = .ok (.aload_n 0, 1) := by decide +kernel
theorem dX3_takeNumber_32 : decode cX3_takeNumber 32 = .ok (.bipush 10, 2) := by decide +kernel
theorem dX3_takeNumber_34 : decode cX3_takeNumber 34 = .ok (.aload_n 0, 1) := by decide +kernel
theorem dX3_takeNumber_35 : decode cX3_takeNumber 35 = .ok (.getfield 28, 3) := by decide +kernel
theorem dX3_takeNumber_38 : decode cX3_takeNumber 38 = .ok (.imul, 1) := by decide +kernel
theorem dX3_takeNumber_39 : decode cX3_takeNumber 39 = .ok (.aload_n 0, 1) := by decide +kernel
theorem dX3_takeNumber_40 : decode cX3_takeNumber 40 = .ok (.getfield 11, 3) := by decide +kernel
theorem dX3_takeNumber_43 : decode cX3_takeNumber 43 = .ok (.aload_n 0, 1) := by decide +kernel
theorem dX3_takeNumber_44 : decode cX3_takeNumber 44 = .ok (.getfield 22, 3) := by decide +kernel
theorem dX3_takeNumber_47 : decode cX3_takeNumber 47 = .ok (.baload, 1) := by decide +kernel
theorem dX3_takeNumber_48 : decode cX3_takeNumber 48 = .ok (.iadd, 1) := by decide +kernel
theorem dX3_takeNumber_49 : decode cX3_takeNumber 49 = .ok (.bipush 48, 2) := by decide +kernel
theorem dX3_takeNumber_51 : decode cX3_takeNumber 51 = .ok (.isub, 1) := by decide +kernel
theorem dX3_takeNumber_52 : decode cX3_takeNumber 52 = .ok (.putfield 28, 3) := by decide +kernel
theorem dX3_takeNumber_55 : decode cX3_takeNumber 55 = .ok (.aload_n 0, 1) := by decide +kernel
theorem dX3_takeNumber_56 : decode cX3_takeNumber 56 = .ok (.dup, 1) := by decide +kernel
theorem dX3_takeNumber_57 : decode cX3_takeNumber 57 = .ok (.getfield 22, 3) := by decide +kernel
theorem dX3_takeNumber_60 : decode cX3_takeNumber 60 = .ok (.iconst 1, 1) := by decide +kernel
theorem dX3_takeNumber_61 : decode cX3_takeNumber 61 = .ok (.iadd, 1) := by decide +kernel
theorem dX3_takeNumber_62 : decode cX3_takeNumber 62 = .ok (.putfield 22, 3) := by decide +kernel
theorem dX3_takeNumber_65 : decode cX3_takeNumber 65 = .ok (.goto (-60), 3) := by decide +kernel
theorem dX3_takeNumber_68 : decode cX3_takeNumber 68 = .ok (.aload_n 0, 1) := by decide +kernel
theorem dX3_takeNumber_69 : decode cX3_takeNumber 69 = .ok (.aload_n 0, 1) := by decide +kernel
theorem dX3_takeNumber_70 : decode cX3_takeNumber 70 = .ok (.getfield 22, 3) := by decide +kernel
theorem dX3_takeNumber_73 : decode cX3_takeNumber 73 = .ok (.aload_n 0, 1) := by decide +kernel
theorem dX3_takeNumber_74 : decode cX3_takeNumber 74 = .ok (.getfield 19, 3) := by decide +kernel
theorem dX3_takeNumber_77 : decode cX3_takeNumber 77 = .ok (.isub, 1) := by decide +kernel
theorem dX3_takeNumber_78 : decode cX3_takeNumber 78 = .ok (.iconst 2, 1) := by decide +kernel
theorem dX3_takeNumber_79 : decode cX3_takeNumber 79 = .ok (.if_icmp .gt 7, 3) := by decide +kernel
theorem dX3_takeNumber_82 : decode cX3_takeNumber 82 = .ok (.iconst 2, 1) := by decide +kernel
theorem dX3_takeNumber_83 : decode cX3_takeNumber 83 = .ok (.goto 4, 3) := by decide +kernel
theorem dX3_takeNumber_86 : decode cX3_takeNumber 86 = .ok (.iconst 4, 1) := by decide +kernel
theorem dX3_takeNumber_87 : decode cX3_takeNumber 87 = .ok (.putfield 25, 3) := by decide +kernel
theorem dX3_takeNumber_90 : decode cX3_takeNumber 90 = .ok (.return_, 1) := by decide +kernel
theorem dX4_init_0 : decode cX4_init 0 = .ok (.aload_n 0, 1) := by decide +kernel
theorem dX4_init_1 : decode cX4_init 1 = .ok (.invokespecial 1, 3) := by decide +kernel
theorem dX4_init_4 : decode cX4_init 4 = .ok (.aload_n 0, 1) := by decide +kernel
theorem dX4_init_5 : decode cX4_init 5 = .ok (.new 7, 3) := by decide +kernel
theorem dX4_init_8 : decode cX4_init 8 = .ok (.dup, 1) := by decide +kernel
theorem dX4_init_9 : decode cX4_init 9 = .ok (.invokespecial 9, 3) := by decide +kernel
theorem dX4_init_12 : decode cX4_init 12 = .ok (.putfield 10, 3) := by decide +kernel
theorem dX4_init_15 : decode cX4_init 15 = .ok (.aload_n 0, 1) := by decide +kernel
theorem dX4_init_16 : decode cX4_init 16 = .ok (.new 7, 3) := by decide +kernel
theorem dX4_init_19 : decode cX4_init 19 = .ok (.dup, 1) := by decide +kernel
theorem dX4_init_20 : decode cX4_init 20 = .ok (.invokespecial 9, 3) := by decide +kernel
theorem dX4_init_23 : decode cX4_init 23 = .ok (.putfield 16, 3) := by decide +kernel
theorem dX4_init_26 : decode cX4_init 26 = .ok (.aload_n 0, 1) := by decide +kernel
theorem dX4_init_27 : decode cX4_init 27 = .ok (.iconst 2, 1) := by decide +kernel
theorem dX4_init_28 : decode cX4_init 28 = .ok (.anewarray 7, 3) := by decide +kernel
theorem dX4_init_31 : decode cX4_init 31 = .ok (.putfield 19, 3) := by decide +kernel
theorem dX4_init_34 : decode cX4_init 34 = .ok (.aload_n 0, 1) := by decide +kernel
theorem dX4_init_35 : decode cX4_init 35 = .ok (.new 23, 3) := by decide +kernel
theorem dX4_init_38 : decode cX4_init 38 = .ok (.dup, 1) := by decide +kernel
theorem dX4_init_39 : decode cX4_init 39 = .ok (.invokespecial 25, 3) := by decide +kernel
theorem dX4_init_42 : decode cX4_init 42 = .ok (.putfield 26, 3) := by decide +kernel
theorem dX4_init_45 : decode cX4_init 45 = .ok (.aload_n 0, 1) := by decide +kernel
theorem dX4_init_46 : decode cX4_init 46 = .ok (.sipush 256, 3) := by decide +kernel
theorem dX4_init_49 : decode cX4_init 49 = .ok (.newarray .long, 2) := by decide +kernel
theorem dX4_init_51 : decode cX4_init 51 = .ok (.putfield 30, 3) := by decide +kernel
theorem dX4_init_54 : decode cX4_init 54 = .ok (.aload_n 0, 1) := by decide +kernel
theorem dX4_init_55 : decode cX4_init 55 = .ok (.lconst 0, 1) := by decide +kernel
theorem dX4_init_56 : decode cX4_init 56 = .ok (.putfield 34, 3) := by decide +kernel
theorem dX4_init_59 : decode cX4_init 59 = .ok (.aload_n 0, 1) := by decide +kernel
theorem dX4_init_60 : decode cX4_init 60 = .ok (.lconst 1, 1) := by decide +kernel
theorem dX4_init_61 : decode cX4_init 61 = .ok (.putfield 38, 3) := by decide +kernel
theorem dX4_init_64 : decode cX4_init 64 = .ok (.aload_n 0, 1) := by decide +kernel
theorem dX4_init_65 : decode cX4_init 65 = .ok (.iconst 0, 1) := by decide +kernel
theorem dX4_init_66 : decode cX4_init 66 = .ok (.putfield 41, 3) := by decide +kernel
theorem dX4_init_69 : decode cX4_init 69 = .ok (.aload_n 0, 1) := by decide +kernel
theorem dX4_init_70 : decode cX4_init 70 = .ok (.iconst 0, 1) := by decide +kernel
theorem dX4_init_71 : decode cX4_init 71 = .ok (.putfield 45, 3) := by decide +kernel
theorem dX4_init_74 : decode cX4_init 74 = .ok (.aload_n 0, 1) := by decide +kernel
theorem dX4_init_75 : decode cX4_init 75 = .ok (.iconst 0, 1) := by decide +kernel
theorem dX4_init_76 : decode cX4_init 76 = .ok (.putfield 48, 3) := by decide +kernel
theorem dX4_init_79 : decode cX4_init 79 = .ok (.return_, 1) := by decide +kernel
theorem dX4_table_0 : decode cX4_table 0 = .ok (.iload_n 1, 1) := by decide +kernel
theorem dX4_table_1 : decode cX4_table 1 = .ok (.iconst 0, 1) := by decide +kernel
theorem dX4_table_2 : decode cX4_table 2 = .ok (.bipush 12, 2) := by decide +kernel
theorem dX4_table_4 : decode cX4_table 4 = .ok (.invokestatic 51, 3) := by decide +kernel
theorem dX4_table_7 : decode cX4_table 7 = .ok (.ifCond .ne 10, 3) := by decide +kernel
theorem dX4_table_10 : decode cX4_table 10 = .ok (.aload_n 0, 1) := by decide +kernel
theorem dX4_table_11 : decode cX4_table 11 = .ok (.bipush (-2), 2) := by decide +kernel
theorem dX4_table_13 : decode cX4_table 13 = .ok (.invokevirtual 55, 3) := by decide +kernel
theorem dX4_table_16 : decode cX4_table 16 = .ok (.ireturn, 1) := by decide +kernel
theorem dX4_table_17 : decode cX4_table 17 = .ok (.aload_n 0, 1) := by decide +kernel
theorem dX4_table_18 : decode cX4_table 18 = .ok (.getfield 10, 3) := by decide +kernel
theorem dX4_table_21 : decode cX4_table 21 = .ok (.invokevirtual 59, 3) := by decide +kernel
theorem dX4_table_24 : decode cX4_table 24 = .ok (.invokestatic 63, 3) := by decide +kernel
theorem dX4_table_27 : decode cX4_table 27 = .ok (.istore_n 2, 1) := by decide +kernel
theorem dX4_table_28 : decode cX4_table 28 = .ok (.aload_n 0, 1) := by decide +kernel
theorem dX4_table_29 : decode cX4_table 29 = .ok (.getfield 10, 3) := by decide +kernel
theorem dX4_table_32 : decode cX4_table 32 = .ok (.iload_n 1, 1) := by decide +kernel
theorem dX4_table_33 : decode cX4_table 33 = .ok (.invokevirtual 69, 3) := by decide +kernel
theorem dX4_table_36 : decode cX4_table 36 = .ok (.iload_n 2, 1) := by decide +kernel
theorem dX4_table_37 : decode cX4_table 37 = .ok (.ireturn, 1) := by decide +kernel
theorem dX4_cut_0 : decode cX4_cut 0 = .ok (.iload_n 1, 1) := by decide +kernel
theorem dX4_cut_1 : decode cX4_cut 1 = .ok (.iconst 0, 1) := by decide +kernel
theorem dX4_cut_2 : decode cX4_cut 2 = .ok (.iconst 1, 1) := by decide +kernel
theorem dX4_cut_3 : decode cX4_cut 3 = .ok (.invokestatic 51, 3) := by decide +kernel
theorem dX4_cut_6 : decode cX4_cut 6 = .ok (.ifCond .eq 13, 3) := by decide +kernel
theorem dX4_cut_9 : decode cX4_cut 9 = .ok (.iload_n 2, 1) := by decide +kernel
theorem dX4_cut_10 : decode cX4_cut 10 = .ok (.iconst 0, 1) := by decide +kernel
theorem dX4_cut_11 : decode cX4_cut 11 = .ok (.ldc 73, 2) := by decide +kernel
theorem dX4_cut_13 : decode cX4_cut 13 = .ok (.invokestatic 51, 3) := by decide +kernel
theorem dX4_cut_16 : decode cX4_cut 16 = .ok (.ifCond .ne 10, 3) := by decide +kernel
theorem dX4_cut_19 : decode cX4_cut 19 = .ok (.aload_n 0, 1) := by decide +kernel
theorem dX4_cut_20 : decode cX4_cut 20 = .ok (.bipush (-2), 2) := by decide +kernel
theorem dX4_cut_22 : decode cX4_cut 22 = .ok (.invokevirtual 55, 3) := by decide +kernel
theorem dX4_cut_25 : decode cX4_cut 25 = .ok (.ireturn, 1) := by decide +kernel
theorem dX4_cut_26 : decode cX4_cut 26 = .ok (.aload_n 0, 1) := by decide +kernel
theorem dX4_cut_27 : decode cX4_cut 27 = .ok (.getfield 10, 3) := by decide +kernel
theorem dX4_cut_30 : decode cX4_cut 30 = .ok (.getfield 74, 3) := by decide +kernel
theorem dX4_cut_33 : decode cX4_cut 33 = .ok (.iload_n 1, 1) := by decide +kernel
theorem dX4_cut_34 : decode cX4_cut 34 = .ok (.iaload, 1) := by decide +kernel
theorem dX4_cut_35 : decode cX4_cut 35 = .ok (.istore_n 3, 1) := by decide +kernel
theorem dX4_cut_36 : decode cX4_cut 36 = .ok (.aload_n 0, 1) := by decide +kernel
theorem dX4_cut_37 : decode cX4_cut 37 = .ok (.getfield 10, 3) := by decide +kernel
theorem dX4_cut_40 : decode cX4_cut 40 = .ok (.getfield 74, 3) := by decide +kernel
theorem dX4_cut_43 : decode cX4_cut 43 = .ok (.iload_n 1, 1) := by decide +kernel
theorem dX4_cut_44 : decode cX4_cut 44 = .ok (.iload_n 2, 1) := by decide +kernel
theorem dX4_cut_45 : decode cX4_cut 45 = .ok (.iastore, 1) := by decide +kernel
theorem dX4_cut_46 : decode cX4_cut 46 = .ok (.aload_n 0, 1) := by decide +kernel
theorem dX4_cut_47 : decode cX4_cut 47 = .ok (.getfield 10, 3) := by decide +kernel
theorem dX4_cut_50 : decode cX4_cut 50 = .ok (.iconst 0, 1) := by decide +kernel
theorem dX4_cut_51 : decode cX4_cut 51 = .ok (.putfield 78, 3) := by decide +kernel
theorem dX4_cut_54 : decode cX4_cut 54 = .ok (.iload_n 3, 1) := by decide +kernel
theorem dX4_cut_55 : decode cX4_cut 55 = .ok (.ireturn, 1) := by decide +kernel
theorem dX4_dip_0 : decode cX4_dip 0 = .ok (.iload_n 1, 1) := by decide +kernel
theorem dX4_dip_1 : decode cX4_dip 1 = .ok (.iconst 0, 1) := by decide +kernel
theorem dX4_dip_2 : decode cX4_dip 2 = .ok (.bipush 12, 2) := by decide +kernel
theorem dX4_dip_4 : decode cX4_dip 4 = .ok (.invokestatic 51, 3) := by decide +kernel
theorem dX4_dip_7 : decode cX4_dip 7 = .ok (.ifCond .ne 10, 3) := by decide +kernel
theorem dX4_dip_10 : decode cX4_dip 10 = .ok (.aload_n 0, 1) := by decide +kernel
theorem dX4_dip_11 : decode cX4_dip 11 = .ok (.bipush (-2), 2) := by decide +kernel
theorem dX4_dip_13 : decode cX4_dip 13 = .ok (.invokevirtual 55, 3) := by decide +kernel
theorem dX4_dip_16 : decode cX4_dip 16 = .ok (.ireturn, 1) := by decide +kernel
theorem dX4_dip_17 : decode cX4_dip 17 = .ok (.aload_n 0, 1) := by decide +kernel
theorem dX4_dip_18 : decode cX4_dip 18 = .ok (.getfield 10, 3) := by decide +kernel
theorem dX4_dip_21 : decode cX4_dip 21 = .ok (.getfield 81, 3) := by decide +kernel
theorem dX4_dip_24 : decode cX4_dip 24 = .ok (.istore_n 2, 1) := by decide +kernel
theorem dX4_dip_25 : decode cX4_dip 25 = .ok (.aload_n 0, 1) := by decide +kernel
theorem dX4_dip_26 : decode cX4_dip 26 = .ok (.getfield 10, 3) := by decide +kernel
theorem dX4_dip_29 : decode cX4_dip 29 = .ok (.invokevirtual 84, 3) := by decide +kernel
theorem dX4_dip_32 : decode cX4_dip 32 = .ok (.aload_n 0, 1) := by decide +kernel
theorem dX4_dip_33 : decode cX4_dip 33 = .ok (.getfield 10, 3) := by decide +kernel
theorem dX4_dip_36 : decode cX4_dip 36 = .ok (.iload_n 1, 1) := by decide +kernel
theorem dX4_dip_37 : decode cX4_dip 37 = .ok (.putfield 81, 3) := by decide +kernel
theorem dX4_dip_40 : decode cX4_dip 40 = .ok (.iload_n 2, 1) := by decide +kernel
theorem dX4_dip_41 : decode cX4_dip 41 = .ok (.ireturn, 1) := by decide +kernel
theorem dX4_print_0 : decode cX4_print 0 = .ok (.iload_n 1, 1) := by decide +kernel
theorem dX4_print_1 : decode cX4_print 1 = .ok (.iload_n 2, 1) := by decide +kernel
theorem dX4_print_2 : decode cX4_print 2 = .ok (.iload_n 3, 1) := by decide +kernel
theorem dX4_print_3 : decode cX4_print 3 = .ok (.iload 4, 2) := by decide +kernel
theorem dX4_print_5 : decode cX4_print 5 = .ok (.iload 5, 2) := by decide +kernel
theorem dX4_print_7 : decode cX4_print 7 = .ok (.invokestatic 87, 3) := by decide +kernel
theorem dX4_print_10 : decode cX4_print 10 = .ok (.ifCond .ne 10, 3) := by decide +kernel
theorem dX4_print_13 : decode cX4_print 13 = .ok (.aload_n 0, 1) := by decide +kernel
theorem dX4_print_14 : decode cX4_print 14 = .ok (.bipush (-2), 2) := by decide +kernel
theorem dX4_print_16 : decode cX4_print 16 = .ok (.invokevirtual 55, 3) := by decide +kernel
theorem dX4_print_19 : decode cX4_print 19 = .ok (.ireturn, 1) := by decide +kernel
theorem dX4_print_20 : decode cX4_print 20 = .ok (.aload_n 0, 1) := by decide +kernel
theorem dX4_print_21 : decode cX4_print 21 = .ok (.getfield 10, 3) := by decide +kernel
theorem dX4_print_24 : decode cX4_print 24 = .ok (.getfield 81, 3) := by decide +kernel
theorem dX4_print_27 : decode cX4_print 27 = .ok (.ifCond .ne 8, 3) := by decide +kernel
theorem dX4_print_30 : decode cX4_print 30 = .ok (.aload_n 0, 1) := by decide +kernel
theorem dX4_print_31 : decode cX4_print 31 = .ok (.invokevirtual 91, 3) := by decide +kernel
theorem dX4_print_34 : decode cX4_print 34 = .ok (.ireturn, 1) := by decide +kernel
theorem dX4_print_35 : decode cX4_print 35 = .ok (.aload_n 0, 1) := by decide +kernel
theorem dX4_print_36 : decode cX4_print 36 = .ok (.getfield 10, 3) := by decide +kernel
theorem dX4_print_39 : decode cX4_print 39 = .ok (.invokevirtual 84, 3) := by decide +kernel
theorem dX4_print_42 : decode cX4_print 42 = .ok (.aload_n 0, 1) := by decide +kernel
theorem dX4_print_43 : decode cX4_print 43 = .ok (.getfield 10, 3) := by decide +kernel
theorem dX4_print_46 : decode cX4_print 46 = .ok (.iload_n 1, 1) := by decide +kernel
theorem dX4_print_47 : decode cX4_print 47 = .ok (.iload_n 2, 1) := by decide +kernel
theorem dX4_print_48 : decode cX4_print 48 = .ok (.iload_n 3, 1) := by decide +kernel
theorem dX4_print_49 : decode cX4_print 49 = .ok (.iload 4, 2) := by decide +kernel
theorem dX4_print_51 : decode cX4_print 51 = .ok (.iload 5, 2) := by decide +kernel
theorem dX4_print_53 : decode cX4_print 53 = .ok (.invokevirtual 95, 3) := by decide +kernel
theorem dX4_print_56 : decode cX4_print 56 = .ok (.ireturn, 1) := by decide +kernel
theorem dX4_undo_0 : decode cX4_undo 0 = .ok (.aload_n 0, 1) := by decide +kernel
theorem dX4_undo_1 : decode cX4_undo 1 = .ok (.getfield 10, 3) := by decide +kernel
theorem dX4_undo_4 : decode cX4_undo 4 = .ok (.getfield 78, 3) := by decide +kernel
theorem dX4_undo_7 : decode cX4_undo 7 = .ok (.ifCond .ne 8, 3) := by decide +kernel
theorem dX4_undo_10 : decode cX4_undo 10 = .ok (.aload_n 0, 1) := by decide +kernel
theorem dX4_undo_11 : decode cX4_undo 11 = .ok (.invokevirtual 91, 3) := by decide +kernel
theorem dX4_undo_14 : decode cX4_undo 14 = .ok (.ireturn, 1) := by decide +kernel
theorem dX4_undo_15 : decode cX4_undo 15 = .ok (.aload_n 0, 1) := by decide +kernel
theorem dX4_undo_16 : decode cX4_undo 16 = .ok (.getfield 10, 3) := by decide +kernel
theorem dX4_undo_19 : decode cX4_undo 19 = .ok (.invokevirtual 99, 3) := by decide +kernel
theorem dX4_undo_22 : decode cX4_undo 22 = .ok (.aload_n 0, 1) := by decide +kernel
theorem dX4_undo_23 : decode cX4_undo 23 = .ok (.getfield 10, 3) := by decide +kernel
theorem dX4_undo_26 : decode cX4_undo 26 = .ok (.getfield 81, 3) := by decide +kernel
theorem dX4_undo_29 : decode cX4_undo 29 = .ok (.ireturn, 1) := by decide +kernel
theorem dX4_type_0 : decode cX4_type 0 = .ok (.iload_n 1, 1) := by decide +kernel
theorem dX4_type_1 : decode cX4_type 1 = .ok (.iconst 0, 1) := by decide +kernel
theorem dX4_type_2 : decode cX4_type 2 = .ok (.bipush 127, 2) := by decide +kernel
theorem dX4_type_4 : decode cX4_type 4 = .ok (.invokestatic 51, 3) := by decide +kernel
theorem dX4_type_7 : decode cX4_type 7 = .ok (.ifCond .ne 10, 3) := by decide +kernel
theorem dX4_type_10 : decode cX4_type 10 = .ok (.aload_n 0, 1) := by decide +kernel
theorem dX4_type_11 : decode cX4_type 11 = .ok (.bipush (-2), 2) := by decide +kernel
theorem dX4_type_13 : decode cX4_type 13 = .ok (.invokevirtual 55, 3) := by decide +kernel
theorem dX4_type_16 : decode cX4_type 16 = .ok (.ireturn, 1) := by decide +kernel
theorem dX4_type_17 : decode cX4_type 17 = .ok (.aload_n 0, 1) := by decide +kernel
theorem dX4_type_18 : decode cX4_type 18 = .ok (.getfield 26, 3) := by decide +kernel
theorem dX4_type_21 : decode cX4_type 21 = .ok (.getfield 102, 3) := by decide +kernel
theorem dX4_type_24 : decode cX4_type 24 = .ok (.sipush 150, 3) := by decide +kernel
theorem dX4_type_27 : decode cX4_type 27 = .ok (.if_icmp .lt 8, 3) := by decide +kernel
theorem dX4_type_30 : decode cX4_type 30 = .ok (.aload_n 0, 1) := by decide +kernel
theorem dX4_type_31 : decode cX4_type 31 = .ok (.invokevirtual 105, 3) := by decide +kernel
theorem dX4_type_34 : decode cX4_type 34 = .ok (.ireturn, 1) := by decide +kernel
theorem dX4_type_35 : decode cX4_type 35 = .ok (.aload_n 0, 1) := by decide +kernel
theorem dX4_type_36 : decode cX4_type 36 = .ok (.getfield 26, 3) := by decide +kernel
theorem dX4_type_39 : decode cX4_type 39 = .ok (.iload_n 1, 1) := by decide +kernel
theorem dX4_type_40 : decode cX4_type 40 = .ok (.invokevirtual 108, 3) := by decide +kernel
theorem dX4_type_43 : decode cX4_type 43 = .ok (.aload_n 0, 1) := by decide +kernel
theorem dX4_type_44 : decode cX4_type 44 = .ok (.getfield 26, 3) := by decide +kernel
theorem dX4_type_47 : decode cX4_type 47 = .ok (.getfield 102, 3) := by decide +kernel
theorem dX4_type_50 : decode cX4_type 50 = .ok (.ireturn, 1) := by decide +kernel
theorem dX4_clear_0 : decode cX4_clear 0 = .ok (.aload_n 0, 1) := by decide +kernel
theorem dX4_clear_1 : decode cX4_clear 1 = .ok (.getfield 26, 3) := by decide +kernel
theorem dX4_clear_4 : decode cX4_clear 4 = .ok (.getfield 102, 3) := by decide +kernel
theorem dX4_clear_7 : decode cX4_clear 7 = .ok (.istore_n 1, 1) := by decide +kernel
theorem dX4_clear_8 : decode cX4_clear 8 = .ok (.aload_n 0, 1) := by decide +kernel
theorem dX4_clear_9 : decode cX4_clear 9 = .ok (.getfield 26, 3) := by decide +kernel
theorem dX4_clear_12 : decode cX4_clear 12 = .ok (.iconst 0, 1) := by decide +kernel
theorem dX4_clear_13 : decode cX4_clear 13 = .ok (.putfield 102, 3) := by decide +kernel
theorem dX4_clear_16 : decode cX4_clear 16 = .ok (.iload_n 1, 1) := by decide +kernel
theorem dX4_clear_17 : decode cX4_clear 17 = .ok (.ireturn, 1) := by decide +kernel
theorem dX4_read_0 : decode cX4_read 0 = .ok (.aload_n 0, 1) := by decide +kernel
theorem dX4_read_1 : decode cX4_read 1 = .ok (.getfield 26, 3) := by decide +kernel
theorem dX4_read_4 : decode cX4_read 4 = .ok (.aload_n 0, 1) := by decide +kernel
theorem dX4_read_5 : decode cX4_read 5 = .ok (.getfield 16, 3) := by decide +kernel
theorem dX4_read_8 : decode cX4_read 8 = .ok (.invokevirtual 111, 3) := by decide +kernel
theorem dX4_read_11 : decode cX4_read 11 = .ok (.istore_n 1, 1) := by decide +kernel
theorem dX4_read_12 : decode cX4_read 12 = .ok (.iload_n 1, 1) := by decide +kernel
theorem dX4_read_13 : decode cX4_read 13 = .ok (.ifCond .ge 5, 3) := by decide +kernel
theorem dX4_read_16 : decode cX4_read 16 = .ok (.iload_n 1, 1) := by decide +kernel
theorem dX4_read_17 : decode cX4_read 17 = .ok (.ireturn, 1) := by decide +kernel
theorem dX4_read_18 : decode cX4_read 18 = .ok (.aload_n 0, 1) := by decide +kernel
theorem dX4_read_19 : decode cX4_read 19 = .ok (.getfield 10, 3) := by decide +kernel
theorem dX4_read_22 : decode cX4_read 22 = .ok (.aload_n 0, 1) := by decide +kernel
theorem dX4_read_23 : decode cX4_read 23 = .ok (.getfield 16, 3) := by decide +kernel
theorem dX4_read_26 : decode cX4_read 26 = .ok (.invokevirtual 115, 3) := by decide +kernel
theorem dX4_read_29 : decode cX4_read 29 = .ok (.iload_n 1, 1) := by decide +kernel
theorem dX4_read_30 : decode cX4_read 30 = .ok (.ireturn, 1) := by decide +kernel
theorem dX4_dark_0 : decode cX4_dark 0 = .ok (.iload_n 1, 1) := by decide +kernel
theorem dX4_dark_1 : decode cX4_dark 1 = .ok (.iload_n 2, 1) := by decide +kernel
theorem dX4_dark_2 : decode cX4_dark 2 = .ok (.invokestatic 119, 3) := by decide +kernel
theorem dX4_dark_5 : decode cX4_dark 5 = .ok (.ifCond .ne 10, 3) := by decide +kernel
theorem dX4_dark_8 : decode cX4_dark 8 = .ok (.aload_n 0, 1) := by decide +kernel
theorem dX4_dark_9 : decode cX4_dark 9 = .ok (.bipush (-2), 2) := by decide +kernel
theorem dX4_dark_11 : decode cX4_dark 11 = .ok (.invokevirtual 55, 3) := by decide +kernel
theorem dX4_dark_14 : decode cX4_dark 14 = .ok (.ireturn, 1) := by decide +kernel
theorem dX4_dark_15 : decode cX4_dark 15 = .ok (.aload_n 0, 1) := by decide +kernel
theorem dX4_dark_16 : decode cX4_dark 16 = .ok (.getfield 10, 3) := by decide +kernel
theorem dX4_dark_19 : decode cX4_dark 19 = .ok (.getfield 123, 3) := by decide +kernel
theorem dX4_dark_22 : decode cX4_dark 22 = .ok (.bipush 8, 2) := by decide +kernel
theorem dX4_dark_24 : decode cX4_dark 24 = .ok (.iload_n 2, 1) := by decide +kernel
theorem dX4_dark_25 : decode cX4_dark 25 = .ok (.imul, 1) := by decide +kernel
theorem dX4_dark_26 : decode cX4_dark 26 = .ok (.iload_n 1, 1) := by decide +kernel
theorem dX4_dark_27 : decode cX4_dark 27 = .ok (.iadd, 1) := by decide +kernel
theorem dX4_dark_28 : decode cX4_dark 28 = .ok (.iaload, 1) := by decide +kernel
theorem dX4_dark_29 : decode cX4_dark 29 = .ok (.ireturn, 1) := by decide +kernel
theorem dX4_looks_0 : decode cX4_looks 0 = .ok (.iload_n 1, 1) := by decide +kernel
theorem dX4_looks_1 : decode cX4_looks 1 = .ok (.iconst 0, 1) := by decide +kernel
theorem dX4_looks_2 : decode cX4_looks 2 = .ok (.iconst 1, 1) := by decide +kernel
theorem dX4_looks_3 : decode cX4_looks 3 = .ok (.invokestatic 51, 3) := by decide +kernel
theorem dX4_looks_6 : decode cX4_looks 6 = .ok (.ifCond .eq 12, 3) := by decide +kernel
theorem dX4_looks_9 : decode cX4_looks 9 = .ok (.iload_n 2, 1) := by decide +kernel
theorem dX4_looks_10 : decode cX4_looks 10 = .ok (.iconst 0, 1) := by decide +kernel
theorem dX4_looks_11 : decode cX4_looks 11 = .ok (.iconst 3, 1) := by decide +kernel
theorem dX4_looks_12 : decode cX4_looks 12 = .ok (.invokestatic 51, 3) := by decide +kernel
theorem dX4_looks_15 : decode cX4_looks 15 = .ok (.ifCond .ne 10, 3) := by decide +kernel
theorem dX4_looks_18 : decode cX4_looks 18 = .ok (.aload_n 0, 1) := by decide +kernel
theorem dX4_looks_19 : decode cX4_looks 19 = .ok (.bipush (-2), 2) := by decide +kernel
theorem dX4_looks_21 : decode cX4_looks 21 = .ok (.invokevirtual 55, 3) := by decide +kernel
theorem dX4_looks_24 : decode cX4_looks 24 = .ok (.ireturn, 1) := by decide +kernel
theorem dX4_looks_25 : decode cX4_looks 25 = .ok (.aload_n 0, 1) := by decide +kernel
theorem dX4_looks_26 : decode cX4_looks 26 = .ok (.getfield 10, 3) := by decide +kernel
theorem dX4_looks_29 : decode cX4_looks 29 = .ok (.getfield 74, 3) := by decide +kernel
theorem dX4_looks_32 : decode cX4_looks 32 = .ok (.iload_n 1, 1) := by decide +kernel
theorem dX4_looks_33 : decode cX4_looks 33 = .ok (.iaload, 1) := by decide +kernel
theorem dX4_looks_34 : decode cX4_looks 34 = .ok (.iload_n 2, 1) := by decide +kernel
theorem dX4_looks_35 : decode cX4_looks 35 = .ok (.invokestatic 126, 3) := by decide +kernel
theorem dX4_looks_38 : decode cX4_looks 38 = .ok (.ireturn, 1) := by decide +kernel
theorem dX4_alike_0 : decode cX4_alike 0 = .ok (.iload_n 1, 1) := by decide +kernel
theorem dX4_alike_1 : decode cX4_alike 1 = .ok (.iconst 0, 1) := by decide +kernel
theorem dX4_alike_2 : decode cX4_alike 2 = .ok (.iconst 1, 1) := by decide +kernel
theorem dX4_alike_3 : decode cX4_alike 3 = .ok (.invokestatic 51, 3) := by decide +kernel
theorem dX4_alike_6 : decode cX4_alike 6 = .ok (.ifCond .ne 10, 3) := by decide +kernel
theorem dX4_alike_9 : decode cX4_alike 9 = .ok (.aload_n 0, 1) := by decide +kernel
theorem dX4_alike_10 : decode cX4_alike 10 = .ok (.bipush (-2), 2) := by decide +kernel
theorem dX4_alike_12 : decode cX4_alike 12 = .ok (.invokevirtual 55, 3) := by decide +kernel
theorem dX4_alike_15 : decode cX4_alike 15 = .ok (.ireturn, 1) := by decide +kernel
theorem dX4_alike_16 : decode cX4_alike 16 = .ok (.aload_n 0, 1) := by decide +kernel
theorem dX4_alike_17 : decode cX4_alike 17 = .ok (.getfield 10, 3) := by decide +kernel
theorem dX4_alike_20 : decode cX4_alike 20 = .ok (.getfield 74, 3) := by decide +kernel
theorem dX4_alike_23 : decode cX4_alike 23 = .ok (.iload_n 1, 1) := by decide +kernel
theorem dX4_alike_24 : decode cX4_alike 24 = .ok (.iaload, 1) := by decide +kernel
theorem dX4_alike_25 : decode cX4_alike 25 = .ok (.iconst 0, 1) := by decide +kernel
theorem dX4_alike_26 : decode cX4_alike 26 = .ok (.invokestatic 126, 3) := by decide +kernel
theorem dX4_alike_29 : decode cX4_alike 29 = .ok (.istore_n 2, 1) := by decide +kernel
theorem dX4_alike_30 : decode cX4_alike 30 = .ok (.iconst 0, 1) := by decide +kernel
theorem dX4_alike_31 : decode cX4_alike 31 = .ok (.istore_n 3, 1) := by decide +kernel
theorem dX4_alike_32 : decode cX4_alike 32 = .ok (.iconst 0, 1) := by decide +kernel
theorem dX4_alike_33 : decode cX4_alike 33 = .ok (.istore 4, 2) := by decide +kernel
theorem dX4_alike_35 : decode cX4_alike 35 = .ok (.iload 4, 2) := by decide +kernel
theorem dX4_alike_37 : decode cX4_alike 37 = .ok (.iconst 3, 1) := by decide +kernel
theorem dX4_alike_38 : decode cX4_alike 38 = .ok (.if_icmp .gt 34, 3) := by decide +kernel
theorem dX4_alike_41 : decode cX4_alike 41 = .ok (.aload_n 0, 1) := by decide +kernel
theorem dX4_alike_42 : decode cX4_alike 42 = .ok (.getfield 10, 3) := by decide +kernel
theorem dX4_alike_45 : decode cX4_alike 45 = .ok (.getfield 74, 3) := by decide +kernel
theorem dX4_alike_48 : decode cX4_alike 48 = .ok (.iload_n 1, 1) := by decide +kernel
theorem dX4_alike_49 : decode cX4_alike 49 = .ok (.iaload, 1) := by decide +kernel
theorem dX4_alike_50 : decode cX4_alike 50 = .ok (.iload 4, 2) := by decide +kernel
theorem dX4_alike_52 : decode cX4_alike 52 = .ok (.invokestatic 126, 3) := by decide +kernel
theorem dX4_alike_55 : decode cX4_alike 55 = .ok (.iload_n 2, 1) := by decide +kernel
theorem dX4_alike_56 : decode cX4_alike 56 = .ok (.if_icmp .ne 10, 3) := by decide +kernel
theorem dX4_alike_59 : decode cX4_alike 59 = .ok (.iload_n 3, 1) := by decide +kernel
theorem dX4_alike_60 : decode cX4_alike 60 = .ok (.iconst 1, 1) := by decide +kernel
theorem dX4_alike_61 : decode cX4_alike 61 = .ok (.iload 4, 2) := by decide +kernel
theorem dX4_alike_63 : decode cX4_alike 63 = .ok (.ishl, 1) := by decide +kernel
theorem dX4_alike_64 : decode cX4_alike 64 = .ok (.ior, 1) := by decide +kernel
theorem dX4_alike_65 : decode cX4_alike 65 = .ok (.istore_n 3, 1) := by decide +kernel
theorem dX4_alike_66 : decode cX4_alike 66 = .ok (.iinc 4 1, 3) := by decide +kernel
theorem dX4_alike_69 : decode cX4_alike 69 = .ok (.goto (-34), 3) := by decide +kernel
theorem dX4_alike_72 : decode cX4_alike 72 = .ok (.iload_n 3, 1) := by decide +kernel
theorem dX4_alike_73 : decode cX4_alike 73 = .ok (.ireturn, 1) := by decide +kernel
theorem dX4_adds_0 : decode cX4_adds 0 = .ok (.iload_n 1, 1) := by decide +kernel
theorem dX4_adds_1 : decode cX4_adds 1 = .ok (.iload_n 2, 1) := by decide +kernel
theorem dX4_adds_2 : decode cX4_adds 2 = .ok (.iload_n 3, 1) := by decide +kernel
theorem dX4_adds_3 : decode cX4_adds 3 = .ok (.iload 4, 2) := by decide +kernel
theorem dX4_adds_5 : decode cX4_adds 5 = .ok (.iload 5, 2) := by decide +kernel
theorem dX4_adds_7 : decode cX4_adds 7 = .ok (.invokestatic 87, 3) := by decide +kernel
theorem dX4_adds_10 : decode cX4_adds 10 = .ok (.ifCond .ne 10, 3) := by decide +kernel
theorem dX4_adds_13 : decode cX4_adds 13 = .ok (.aload_n 0, 1) := by decide +kernel
theorem dX4_adds_14 : decode cX4_adds 14 = .ok (.bipush (-2), 2) := by decide +kernel
theorem dX4_adds_16 : decode cX4_adds 16 = .ok (.invokevirtual 55, 3) := by decide +kernel
theorem dX4_adds_19 : decode cX4_adds 19 = .ok (.ireturn, 1) := by decide +kernel
theorem dX4_adds_20 : decode cX4_adds 20 = .ok (.aload_n 0, 1) := by decide +kernel
theorem dX4_adds_21 : decode cX4_adds 21 = .ok (.getfield 10, 3) := by decide +kernel
theorem dX4_adds_24 : decode cX4_adds 24 = .ok (.getfield 81, 3) := by decide +kernel
theorem dX4_adds_27 : decode cX4_adds 27 = .ok (.ifCond .ne 8, 3) := by decide +kernel
theorem dX4_adds_30 : decode cX4_adds 30 = .ok (.aload_n 0, 1) := by decide +kernel
theorem dX4_adds_31 : decode cX4_adds 31 = .ok (.invokevirtual 91, 3) := by decide +kernel
theorem dX4_adds_34 : decode cX4_adds 34 = .ok (.ireturn, 1) := by decide +kernel
theorem dX4_adds_35 : decode cX4_adds 35 = .ok (.aload_n 0, 1) := by decide +kernel
theorem dX4_adds_36 : decode cX4_adds 36 = .ok (.getfield 16, 3) := by decide +kernel
theorem dX4_adds_39 : decode cX4_adds 39 = .ok (.aload_n 0, 1) := by decide +kernel
theorem dX4_adds_40 : decode cX4_adds 40 = .ok (.getfield 10, 3) := by decide +kernel
theorem dX4_adds_43 : decode cX4_adds 43 = .ok (.invokevirtual 132, 3) := by decide +kernel
theorem dX4_adds_46 : decode cX4_adds 46 = .ok (.aload_n 0, 1) := by decide +kernel
theorem dX4_adds_47 : decode cX4_adds 47 = .ok (.getfield 16, 3) := by decide +kernel
theorem dX4_adds_50 : decode cX4_adds 50 = .ok (.iload_n 1, 1) := by decide +kernel
theorem dX4_adds_51 : decode cX4_adds 51 = .ok (.iload_n 2, 1) := by decide +kernel
theorem dX4_adds_52 : decode cX4_adds 52 = .ok (.iload_n 3, 1) := by decide +kernel
theorem dX4_adds_53 : decode cX4_adds 53 = .ok (.iload 4, 2) := by decide +kernel
theorem dX4_adds_55 : decode cX4_adds 55 = .ok (.iload 5, 2) := by decide +kernel
theorem dX4_adds_57 : decode cX4_adds 57 = .ok (.invokevirtual 95, 3) := by decide +kernel
theorem dX4_adds_60 : decode cX4_adds 60 = .ok (.ireturn, 1) := by decide +kernel
theorem dX4_force_0 : decode cX4_force 0 = .ok (.iload_n 1, 1) := by decide +kernel
theorem dX4_force_1 : decode cX4_force 1 = .ok (.iload_n 2, 1) := by decide +kernel
theorem dX4_force_2 : decode cX4_force 2 = .ok (.invokestatic 135, 3) := by decide +kernel
theorem dX4_force_5 : decode cX4_force 5 = .ok (.ifCond .eq 12, 3) := by decide +kernel
theorem dX4_force_8 : decode cX4_force 8 = .ok (.iload_n 3, 1) := by decide +kernel
theorem dX4_force_9 : decode cX4_force 9 = .ok (.iconst 0, 1) := by decide +kernel
theorem dX4_force_10 : decode cX4_force 10 = .ok (.iconst 1, 1) := by decide +kernel
theorem dX4_force_11 : decode cX4_force 11 = .ok (.invokestatic 51, 3) := by decide +kernel
theorem dX4_force_14 : decode cX4_force 14 = .ok (.ifCond .ne 10, 3) := by decide +kernel
theorem dX4_force_17 : decode cX4_force 17 = .ok (.aload_n 0, 1) := by decide +kernel
theorem dX4_force_18 : decode cX4_force 18 = .ok (.bipush (-2), 2) := by decide +kernel
theorem dX4_force_20 : decode cX4_force 20 = .ok (.invokevirtual 55, 3) := by decide +kernel
theorem dX4_force_23 : decode cX4_force 23 = .ok (.ireturn, 1) := by decide +kernel
theorem dX4_force_24 : decode cX4_force 24 = .ok (.iload_n 3, 1) := by decide +kernel
theorem dX4_force_25 : decode cX4_force 25 = .ok (.ifCond .ne 11, 3) := by decide +kernel
theorem dX4_force_28 : decode cX4_force 28 = .ok (.iload_n 1, 1) := by decide +kernel
theorem dX4_force_29 : decode cX4_force 29 = .ok (.iload_n 2, 1) := by decide +kernel
theorem dX4_force_30 : decode cX4_force 30 = .ok (.invokestatic 138, 3) := by decide +kernel
theorem dX4_force_33 : decode cX4_force 33 = .ok (.goto 8, 3) := by decide +kernel
theorem dX4_force_36 : decode cX4_force 36 = .ok (.iload_n 1, 1) := by decide +kernel
theorem dX4_force_37 : decode cX4_force 37 = .ok (.iload_n 2, 1) := by decide +kernel
theorem dX4_force_38 : decode cX4_force 38 = .ok (.invokestatic 143, 3) := by decide +kernel
theorem dX4_force_41 : decode cX4_force 41 = .ok (.ireturn, 1) := by decide +kernel
theorem dX4_fromOne_0 : decode cX4_fromOne 0 = .ok (.iload_n 1, 1) := by decide +kernel
theorem dX4_fromOne_1 : decode cX4_fromOne 1 = .ok (.iload_n 2, 1) := by decide +kernel
theorem dX4_fromOne_2 : decode cX4_fromOne 2 = .ok (.invokestatic 135, 3) := by decide +kernel
theorem dX4_fromOne_5 : decode cX4_fromOne 5 = .ok (.ifCond .eq 13, 3) := by decide +kernel
theorem dX4_fromOne_8 : decode cX4_fromOne 8 = .ok (.iload_n 3, 1) := by decide +kernel
theorem dX4_fromOne_9 : decode cX4_fromOne 9 = .ok (.iconst 1, 1) := by decide +kernel
theorem dX4_fromOne_10 : decode cX4_fromOne 10 = .ok (.bipush 9, 2) := by decide +kernel
theorem dX4_fromOne_12 : decode cX4_fromOne 12 = .ok (.invokestatic 51, 3) := by decide +kernel
theorem dX4_fromOne_15 : decode cX4_fromOne 15 = .ok (.ifCond .ne 10, 3) := by decide +kernel
theorem dX4_fromOne_18 : decode cX4_fromOne 18 = .ok (.aload_n 0, 1) := by decide +kernel
theorem dX4_fromOne_19 : decode cX4_fromOne 19 = .ok (.bipush (-2), 2) := by decide +kernel
theorem dX4_fromOne_21 : decode cX4_fromOne 21 = .ok (.invokevirtual 55, 3) := by decide +kernel
theorem dX4_fromOne_24 : decode cX4_fromOne 24 = .ok (.ireturn, 1) := by decide +kernel
end
section
theorem dX4_fromOne_25 : decode cX4_fromOne 25 = .ok (.iload_n 1, 1) := by decide +kernel
theorem dX4_fromOne_26 : decode cX4_fromOne 26 = .ok (.iload_n 2, 1) := by decide +kernel
theorem dX4_fromOne_27 : decode cX4_fromOne 27 = .ok (.iload_n 3, 1) := by decide +kernel
theorem dX4_fromOne_28 : decode cX4_fromOne 28 = .ok (.invokestatic 146, 3) := by decide +kernel
theorem dX4_fromOne_31 : decode cX4_fromOne 31 = .ok (.ireturn, 1) := by decide +kernel
theorem dX4_dips_0 : decode cX4_dips 0 = .ok (.iload_n 1, 1) := by decide +kernel
theorem dX4_dips_1 : decode cX4_dips 1 = .ok (.iload_n 2, 1) := by decide +kernel
theorem dX4_dips_2 : decode cX4_dips 2 = .ok (.invokestatic 135, 3) := by decide +kernel
theorem dX4_dips_5 : decode cX4_dips 5 = .ok (.ifCond .eq 24, 3) := by decide +kernel
theorem dX4_dips_8 : decode cX4_dips 8 = .ok (.iload_n 3, 1) := by decide +kernel
theorem dX4_dips_9 : decode cX4_dips 9 = .ok (.iconst 1, 1) := by decide +kernel
theorem dX4_dips_10 : decode cX4_dips 10 = .ok (.bipush 9, 2) := by decide +kernel
theorem dX4_dips_12 : decode cX4_dips 12 = .ok (.invokestatic 51, 3) := by decide +kernel
theorem dX4_dips_15 : decode cX4_dips 15 = .ok (.ifCond .eq 14, 3) := by decide +kernel
theorem dX4_dips_18 : decode cX4_dips 18 = .ok (.iload 4, 2) := by decide +kernel
theorem dX4_dips_20 : decode cX4_dips 20 = .ok (.iconst 0, 1) := by decide +kernel
theorem dX4_dips_21 : decode cX4_dips 21 = .ok (.bipush 60, 2) := by decide +kernel
theorem dX4_dips_23 : decode cX4_dips 23 = .ok (.invokestatic 51, 3) := by decide +kernel
theorem dX4_dips_26 : decode cX4_dips 26 = .ok (.ifCond .ne 10, 3) := by decide +kernel
theorem dX4_dips_29 : decode cX4_dips 29 = .ok (.aload_n 0, 1) := by decide +kernel
theorem dX4_dips_30 : decode cX4_dips 30 = .ok (.bipush (-2), 2) := by decide +kernel
theorem dX4_dips_32 : decode cX4_dips 32 = .ok (.invokevirtual 55, 3) := by decide +kernel
theorem dX4_dips_35 : decode cX4_dips 35 = .ok (.ireturn, 1) := by decide +kernel
theorem dX4_dips_36 : decode cX4_dips 36 = .ok (.iload 4, 2) := by decide +kernel
theorem dX4_dips_38 : decode cX4_dips 38 = .ok (.ifCond .ne 5, 3) := by decide +kernel
theorem dX4_dips_41 : decode cX4_dips 41 = .ok (.iconst 0, 1) := by decide +kernel
theorem dX4_dips_42 : decode cX4_dips 42 = .ok (.ireturn, 1) := by decide +kernel
theorem dX4_dips_43 : decode cX4_dips 43 = .ok (.iload_n 1, 1) := by decide +kernel
theorem dX4_dips_44 : decode cX4_dips 44 = .ok (.iload_n 2, 1) := by decide +kernel
theorem dX4_dips_45 : decode cX4_dips 45 = .ok (.iload_n 3, 1) := by decide +kernel
theorem dX4_dips_46 : decode cX4_dips 46 = .ok (.invokestatic 146, 3) := by decide +kernel
theorem dX4_dips_49 : decode cX4_dips 49 = .ok (.istore 5, 2) := by decide +kernel
theorem dX4_dips_51 : decode cX4_dips 51 = .ok (.iload 5, 2) := by decide +kernel
theorem dX4_dips_53 : decode cX4_dips 53 = .ok (.ifCond .le 16, 3) := by decide +kernel
theorem dX4_dips_56 : decode cX4_dips 56 = .ok (.iload 4, 2) := by decide +kernel
theorem dX4_dips_58 : decode cX4_dips 58 = .ok (.iload 5, 2) := by decide +kernel
theorem dX4_dips_60 : decode cX4_dips 60 = .ok (.iadd, 1) := by decide +kernel
theorem dX4_dips_61 : decode cX4_dips 61 = .ok (.iconst 1, 1) := by decide +kernel
theorem dX4_dips_62 : decode cX4_dips 62 = .ok (.isub, 1) := by decide +kernel
theorem dX4_dips_63 : decode cX4_dips 63 = .ok (.iload 5, 2) := by decide +kernel
theorem dX4_dips_65 : decode cX4_dips 65 = .ok (.idiv, 1) := by decide +kernel
theorem dX4_dips_66 : decode cX4_dips 66 = .ok (.goto 4, 3) := by decide +kernel
theorem dX4_dips_69 : decode cX4_dips 69 = .ok (.iconst (-1), 1) := by decide +kernel
theorem dX4_dips_70 : decode cX4_dips 70 = .ok (.ireturn, 1) := by decide +kernel
theorem dX4_edge_0 : decode cX4_edge 0 = .ok (.iload_n 1, 1) := by decide +kernel
theorem dX4_edge_1 : decode cX4_edge 1 = .ok (.iconst 4, 1) := by decide +kernel
theorem dX4_edge_2 : decode cX4_edge 2 = .ok (.bipush 99, 2) := by decide +kernel
theorem dX4_edge_4 : decode cX4_edge 4 = .ok (.invokestatic 51, 3) := by decide +kernel
theorem dX4_edge_7 : decode cX4_edge 7 = .ok (.ifCond .eq 22, 3) := by decide +kernel
theorem dX4_edge_10 : decode cX4_edge 10 = .ok (.iload_n 2, 1) := by decide +kernel
theorem dX4_edge_11 : decode cX4_edge 11 = .ok (.iconst 0, 1) := by decide +kernel
theorem dX4_edge_12 : decode cX4_edge 12 = .ok (.bipush 9, 2) := by decide +kernel
theorem dX4_edge_14 : decode cX4_edge 14 = .ok (.invokestatic 51, 3) := by decide +kernel
theorem dX4_edge_17 : decode cX4_edge 17 = .ok (.ifCond .eq 12, 3) := by decide +kernel
theorem dX4_edge_20 : decode cX4_edge 20 = .ok (.iload_n 3, 1) := by decide +kernel
theorem dX4_edge_21 : decode cX4_edge 21 = .ok (.iconst 0, 1) := by decide +kernel
theorem dX4_edge_22 : decode cX4_edge 22 = .ok (.iconst 1, 1) := by decide +kernel
theorem dX4_edge_23 : decode cX4_edge 23 = .ok (.invokestatic 51, 3) := by decide +kernel
theorem dX4_edge_26 : decode cX4_edge 26 = .ok (.ifCond .ne 10, 3) := by decide +kernel
theorem dX4_edge_29 : decode cX4_edge 29 = .ok (.aload_n 0, 1) := by decide +kernel
theorem dX4_edge_30 : decode cX4_edge 30 = .ok (.bipush (-2), 2) := by decide +kernel
theorem dX4_edge_32 : decode cX4_edge 32 = .ok (.invokevirtual 55, 3) := by decide +kernel
theorem dX4_edge_35 : decode cX4_edge 35 = .ok (.ireturn, 1) := by decide +kernel
theorem dX4_edge_36 : decode cX4_edge 36 = .ok (.iload_n 3, 1) := by decide +kernel
theorem dX4_edge_37 : decode cX4_edge 37 = .ok (.ifCond .ne 11, 3) := by decide +kernel
theorem dX4_edge_40 : decode cX4_edge 40 = .ok (.iload_n 1, 1) := by decide +kernel
theorem dX4_edge_41 : decode cX4_edge 41 = .ok (.iload_n 2, 1) := by decide +kernel
theorem dX4_edge_42 : decode cX4_edge 42 = .ok (.invokestatic 150, 3) := by decide +kernel
theorem dX4_edge_45 : decode cX4_edge 45 = .ok (.goto 8, 3) := by decide +kernel
theorem dX4_edge_48 : decode cX4_edge 48 = .ok (.iload_n 1, 1) := by decide +kernel
theorem dX4_edge_49 : decode cX4_edge 49 = .ok (.iload_n 2, 1) := by decide +kernel
theorem dX4_edge_50 : decode cX4_edge 50 = .ok (.invokestatic 153, 3) := by decide +kernel
theorem dX4_edge_53 : decode cX4_edge 53 = .ok (.ireturn, 1) := by decide +kernel
theorem dX4_gap_0 : decode cX4_gap 0 = .ok (.iload_n 1, 1) := by decide +kernel
theorem dX4_gap_1 : decode cX4_gap 1 = .ok (.iconst 4, 1) := by decide +kernel
theorem dX4_gap_2 : decode cX4_gap 2 = .ok (.bipush 99, 2) := by decide +kernel
theorem dX4_gap_4 : decode cX4_gap 4 = .ok (.invokestatic 51, 3) := by decide +kernel
theorem dX4_gap_7 : decode cX4_gap 7 = .ok (.ifCond .ne 10, 3) := by decide +kernel
theorem dX4_gap_10 : decode cX4_gap 10 = .ok (.aload_n 0, 1) := by decide +kernel
theorem dX4_gap_11 : decode cX4_gap 11 = .ok (.bipush (-2), 2) := by decide +kernel
theorem dX4_gap_13 : decode cX4_gap 13 = .ok (.invokevirtual 55, 3) := by decide +kernel
theorem dX4_gap_16 : decode cX4_gap 16 = .ok (.ireturn, 1) := by decide +kernel
theorem dX4_gap_17 : decode cX4_gap 17 = .ok (.iconst 0, 1) := by decide +kernel
theorem dX4_gap_18 : decode cX4_gap 18 = .ok (.istore_n 2, 1) := by decide +kernel
theorem dX4_gap_19 : decode cX4_gap 19 = .ok (.iconst 1, 1) := by decide +kernel
theorem dX4_gap_20 : decode cX4_gap 20 = .ok (.istore_n 3, 1) := by decide +kernel
theorem dX4_gap_21 : decode cX4_gap 21 = .ok (.iload_n 3, 1) := by decide +kernel
theorem dX4_gap_22 : decode cX4_gap 22 = .ok (.bipush 9, 2) := by decide +kernel
theorem dX4_gap_24 : decode cX4_gap 24 = .ok (.if_icmp .gt 24, 3) := by decide +kernel
theorem dX4_gap_27 : decode cX4_gap 27 = .ok (.iload_n 1, 1) := by decide +kernel
theorem dX4_gap_28 : decode cX4_gap 28 = .ok (.iload_n 3, 1) := by decide +kernel
theorem dX4_gap_29 : decode cX4_gap 29 = .ok (.invokestatic 153, 3) := by decide +kernel
theorem dX4_gap_32 : decode cX4_gap 32 = .ok (.iload_n 1, 1) := by decide +kernel
theorem dX4_gap_33 : decode cX4_gap 33 = .ok (.iload_n 2, 1) := by decide +kernel
theorem dX4_gap_34 : decode cX4_gap 34 = .ok (.invokestatic 153, 3) := by decide +kernel
theorem dX4_gap_37 : decode cX4_gap 37 = .ok (.if_icmp .ge 5, 3) := by decide +kernel
theorem dX4_gap_40 : decode cX4_gap 40 = .ok (.iload_n 3, 1) := by decide +kernel
theorem dX4_gap_41 : decode cX4_gap 41 = .ok (.istore_n 2, 1) := by decide +kernel
theorem dX4_gap_42 : decode cX4_gap 42 = .ok (.iinc 3 1, 3) := by decide +kernel
theorem dX4_gap_45 : decode cX4_gap 45 = .ok (.goto (-24), 3) := by decide +kernel
theorem dX4_gap_48 : decode cX4_gap 48 = .ok (.iload_n 2, 1) := by decide +kernel
theorem dX4_gap_49 : decode cX4_gap 49 = .ok (.ireturn, 1) := by decide +kernel
theorem dX4_hit_0 : decode cX4_hit 0 = .ok (.iload_n 1, 1) := by decide +kernel
theorem dX4_hit_1 : decode cX4_hit 1 = .ok (.iconst 0, 1) := by decide +kernel
theorem dX4_hit_2 : decode cX4_hit 2 = .ok (.iconst 1, 1) := by decide +kernel
theorem dX4_hit_3 : decode cX4_hit 3 = .ok (.invokestatic 51, 3) := by decide +kernel
theorem dX4_hit_6 : decode cX4_hit 6 = .ok (.ifCond .eq 12, 3) := by decide +kernel
theorem dX4_hit_9 : decode cX4_hit 9 = .ok (.iload_n 2, 1) := by decide +kernel
theorem dX4_hit_10 : decode cX4_hit 10 = .ok (.iconst 0, 1) := by decide +kernel
theorem dX4_hit_11 : decode cX4_hit 11 = .ok (.iconst 1, 1) := by decide +kernel
theorem dX4_hit_12 : decode cX4_hit 12 = .ok (.invokestatic 51, 3) := by decide +kernel
theorem dX4_hit_15 : decode cX4_hit 15 = .ok (.ifCond .ne 10, 3) := by decide +kernel
theorem dX4_hit_18 : decode cX4_hit 18 = .ok (.aload_n 0, 1) := by decide +kernel
theorem dX4_hit_19 : decode cX4_hit 19 = .ok (.bipush (-2), 2) := by decide +kernel
theorem dX4_hit_21 : decode cX4_hit 21 = .ok (.invokevirtual 55, 3) := by decide +kernel
theorem dX4_hit_24 : decode cX4_hit 24 = .ok (.ireturn, 1) := by decide +kernel
theorem dX4_hit_25 : decode cX4_hit 25 = .ok (.aload_n 0, 1) := by decide +kernel
theorem dX4_hit_26 : decode cX4_hit 26 = .ok (.aload_n 0, 1) := by decide +kernel
theorem dX4_hit_27 : decode cX4_hit 27 = .ok (.getfield 10, 3) := by decide +kernel
theorem dX4_hit_30 : decode cX4_hit 30 = .ok (.getfield 74, 3) := by decide +kernel
theorem dX4_hit_33 : decode cX4_hit 33 = .ok (.iload_n 1, 1) := by decide +kernel
theorem dX4_hit_34 : decode cX4_hit 34 = .ok (.iaload, 1) := by decide +kernel
theorem dX4_hit_35 : decode cX4_hit 35 = .ok (.invokevirtual 156, 3) := by decide +kernel
theorem dX4_hit_38 : decode cX4_hit 38 = .ok (.aload_n 0, 1) := by decide +kernel
theorem dX4_hit_39 : decode cX4_hit 39 = .ok (.getfield 10, 3) := by decide +kernel
theorem dX4_hit_42 : decode cX4_hit 42 = .ok (.invokevirtual 59, 3) := by decide +kernel
theorem dX4_hit_45 : decode cX4_hit 45 = .ok (.lstore_n 3, 1) := by decide +kernel
theorem dX4_hit_46 : decode cX4_hit 46 = .ok (.iconst 0, 1) := by decide +kernel
theorem dX4_hit_47 : decode cX4_hit 47 = .ok (.istore 5, 2) := by decide +kernel
theorem dX4_hit_49 : decode cX4_hit 49 = .ok (.iconst (-1), 1) := by decide +kernel
theorem dX4_hit_50 : decode cX4_hit 50 = .ok (.istore 6, 2) := by decide +kernel
theorem dX4_hit_52 : decode cX4_hit 52 = .ok (.iconst 0, 1) := by decide +kernel
theorem dX4_hit_53 : decode cX4_hit 53 = .ok (.istore 7, 2) := by decide +kernel
theorem dX4_hit_55 : decode cX4_hit 55 = .ok (.iload 7, 2) := by decide +kernel
theorem dX4_hit_57 : decode cX4_hit 57 = .ok (.sipush 256, 3) := by decide +kernel
theorem dX4_hit_60 : decode cX4_hit 60 = .ok (.if_icmp .ge 49, 3) := by decide +kernel
theorem dX4_hit_63 : decode cX4_hit 63 = .ok (.aload_n 0, 1) := by decide +kernel
theorem dX4_hit_64 : decode cX4_hit 64 = .ok (.getfield 30, 3) := by decide +kernel
theorem dX4_hit_67 : decode cX4_hit 67 = .ok (.iload 7, 2) := by decide +kernel
theorem dX4_hit_69 : decode cX4_hit 69 = .ok (.laload, 1) := by decide +kernel
theorem dX4_hit_70 : decode cX4_hit 70 = .ok (.lload_n 3, 1) := by decide +kernel
theorem dX4_hit_71 : decode cX4_hit 71 = .ok (.land, 1) := by decide +kernel
theorem dX4_hit_72 : decode cX4_hit 72 = .ok (.invokestatic 63, 3) := by decide +kernel
theorem dX4_hit_75 : decode cX4_hit 75 = .ok (.istore 8, 2) := by decide +kernel
theorem dX4_hit_77 : decode cX4_hit 77 = .ok (.iload 7, 2) := by decide +kernel
theorem dX4_hit_79 : decode cX4_hit 79 = .ok (.invokestatic 159, 3) := by decide +kernel
theorem dX4_hit_82 : decode cX4_hit 82 = .ok (.ifCond .eq 21, 3) := by decide +kernel
theorem dX4_hit_85 : decode cX4_hit 85 = .ok (.iload 8, 2) := by decide +kernel
theorem dX4_hit_87 : decode cX4_hit 87 = .ok (.iload 5, 2) := by decide +kernel
theorem dX4_hit_89 : decode cX4_hit 89 = .ok (.if_icmp .le 14, 3) := by decide +kernel
theorem dX4_hit_92 : decode cX4_hit 92 = .ok (.iload 8, 2) := by decide +kernel
theorem dX4_hit_94 : decode cX4_hit 94 = .ok (.istore 5, 2) := by decide +kernel
theorem dX4_hit_96 : decode cX4_hit 96 = .ok (.iload 7, 2) := by decide +kernel
theorem dX4_hit_98 : decode cX4_hit 98 = .ok (.invokestatic 163, 3) := by decide +kernel
theorem dX4_hit_101 : decode cX4_hit 101 = .ok (.istore 6, 2) := by decide +kernel
theorem dX4_hit_103 : decode cX4_hit 103 = .ok (.iinc 7 1, 3) := by decide +kernel
theorem dX4_hit_106 : decode cX4_hit 106 = .ok (.goto (-51), 3) := by decide +kernel
theorem dX4_hit_109 : decode cX4_hit 109 = .ok (.iload_n 2, 1) := by decide +kernel
theorem dX4_hit_110 : decode cX4_hit 110 = .ok (.ifCond .ne 13, 3) := by decide +kernel
theorem dX4_hit_113 : decode cX4_hit 113 = .ok (.iload 5, 2) := by decide +kernel
theorem dX4_hit_115 : decode cX4_hit 115 = .ok (.ifCond .le 8, 3) := by decide +kernel
theorem dX4_hit_118 : decode cX4_hit 118 = .ok (.iload 5, 2) := by decide +kernel
theorem dX4_hit_120 : decode cX4_hit 120 = .ok (.goto 5, 3) := by decide +kernel
theorem dX4_hit_123 : decode cX4_hit 123 = .ok (.iload 6, 2) := by decide +kernel
theorem dX4_hit_125 : decode cX4_hit 125 = .ok (.ireturn, 1) := by decide +kernel
theorem dX4_want_0 : decode cX4_want 0 = .ok (.iload_n 1, 1) := by decide +kernel
theorem dX4_want_1 : decode cX4_want 1 = .ok (.iload_n 2, 1) := by decide +kernel
theorem dX4_want_2 : decode cX4_want 2 = .ok (.invokestatic 119, 3) := by decide +kernel
theorem dX4_want_5 : decode cX4_want 5 = .ok (.ifCond .ne 10, 3) := by decide +kernel
theorem dX4_want_8 : decode cX4_want 8 = .ok (.aload_n 0, 1) := by decide +kernel
theorem dX4_want_9 : decode cX4_want 9 = .ok (.bipush (-2), 2) := by decide +kernel
theorem dX4_want_11 : decode cX4_want 11 = .ok (.invokevirtual 55, 3) := by decide +kernel
theorem dX4_want_14 : decode cX4_want 14 = .ok (.ireturn, 1) := by decide +kernel
theorem dX4_want_15 : decode cX4_want 15 = .ok (.aload_n 0, 1) := by decide +kernel
theorem dX4_want_16 : decode cX4_want 16 = .ok (.getfield 10, 3) := by decide +kernel
theorem dX4_want_19 : decode cX4_want 19 = .ok (.getfield 166, 3) := by decide +kernel
theorem dX4_want_22 : decode cX4_want 22 = .ok (.bipush 8, 2) := by decide +kernel
theorem dX4_want_24 : decode cX4_want 24 = .ok (.if_icmp .lt 8, 3) := by decide +kernel
theorem dX4_want_27 : decode cX4_want 27 = .ok (.aload_n 0, 1) := by decide +kernel
theorem dX4_want_28 : decode cX4_want 28 = .ok (.invokevirtual 105, 3) := by decide +kernel
theorem dX4_want_31 : decode cX4_want 31 = .ok (.ireturn, 1) := by decide +kernel
theorem dX4_want_32 : decode cX4_want 32 = .ok (.aload_n 0, 1) := by decide +kernel
theorem dX4_want_33 : decode cX4_want 33 = .ok (.getfield 10, 3) := by decide +kernel
theorem dX4_want_36 : decode cX4_want 36 = .ok (.getfield 169, 3) := by decide +kernel
theorem dX4_want_39 : decode cX4_want 39 = .ok (.aload_n 0, 1) := by decide +kernel
theorem dX4_want_40 : decode cX4_want 40 = .ok (.getfield 10, 3) := by decide +kernel
theorem dX4_want_43 : decode cX4_want 43 = .ok (.getfield 166, 3) := by decide +kernel
theorem dX4_want_46 : decode cX4_want 46 = .ok (.bipush 8, 2) := by decide +kernel
theorem dX4_want_48 : decode cX4_want 48 = .ok (.iload_n 2, 1) := by decide +kernel
theorem dX4_want_49 : decode cX4_want 49 = .ok (.imul, 1) := by decide +kernel
theorem dX4_want_50 : decode cX4_want 50 = .ok (.iload_n 1, 1) := by decide +kernel
theorem dX4_want_51 : decode cX4_want 51 = .ok (.iadd, 1) := by decide +kernel
theorem dX4_want_52 : decode cX4_want 52 = .ok (.iastore, 1) := by decide +kernel
theorem dX4_want_53 : decode cX4_want 53 = .ok (.aload_n 0, 1) := by decide +kernel
theorem dX4_want_54 : decode cX4_want 54 = .ok (.getfield 10, 3) := by decide +kernel
theorem dX4_want_57 : decode cX4_want 57 = .ok (.dup, 1) := by decide +kernel
theorem dX4_want_58 : decode cX4_want 58 = .ok (.getfield 166, 3) := by decide +kernel
theorem dX4_want_61 : decode cX4_want 61 = .ok (.iconst 1, 1) := by decide +kernel
theorem dX4_want_62 : decode cX4_want 62 = .ok (.iadd, 1) := by decide +kernel
theorem dX4_want_63 : decode cX4_want 63 = .ok (.putfield 166, 3) := by decide +kernel
theorem dX4_want_66 : decode cX4_want 66 = .ok (.aload_n 0, 1) := by decide +kernel
theorem dX4_want_67 : decode cX4_want 67 = .ok (.getfield 10, 3) := by decide +kernel
theorem dX4_want_70 : decode cX4_want 70 = .ok (.getfield 166, 3) := by decide +kernel
theorem dX4_want_73 : decode cX4_want 73 = .ok (.ireturn, 1) := by decide +kernel
theorem dX4_cover_0 : decode cX4_cover 0 = .ok (.iload_n 1, 1) := by decide +kernel
theorem dX4_cover_1 : decode cX4_cover 1 = .ok (.iconst 0, 1) := by decide +kernel
theorem dX4_cover_2 : decode cX4_cover 2 = .ok (.iconst 1, 1) := by decide +kernel
theorem dX4_cover_3 : decode cX4_cover 3 = .ok (.invokestatic 51, 3) := by decide +kernel
theorem dX4_cover_6 : decode cX4_cover 6 = .ok (.ifCond .eq 12, 3) := by decide +kernel
theorem dX4_cover_9 : decode cX4_cover 9 = .ok (.iload_n 2, 1) := by decide +kernel
theorem dX4_cover_10 : decode cX4_cover 10 = .ok (.iconst 0, 1) := by decide +kernel
theorem dX4_cover_11 : decode cX4_cover 11 = .ok (.iconst 1, 1) := by decide +kernel
theorem dX4_cover_12 : decode cX4_cover 12 = .ok (.invokestatic 51, 3) := by decide +kernel
theorem dX4_cover_15 : decode cX4_cover 15 = .ok (.ifCond .ne 10, 3) := by decide +kernel
theorem dX4_cover_18 : decode cX4_cover 18 = .ok (.aload_n 0, 1) := by decide +kernel
theorem dX4_cover_19 : decode cX4_cover 19 = .ok (.bipush (-10), 2) := by decide +kernel
theorem dX4_cover_21 : decode cX4_cover 21 = .ok (.invokevirtual 55, 3) := by decide +kernel
theorem dX4_cover_24 : decode cX4_cover 24 = .ok (.ireturn, 1) := by decide +kernel
theorem dX4_cover_25 : decode cX4_cover 25 = .ok (.aload_n 0, 1) := by decide +kernel
theorem dX4_cover_26 : decode cX4_cover 26 = .ok (.getfield 10, 3) := by decide +kernel
theorem dX4_cover_29 : decode cX4_cover 29 = .ok (.invokevirtual 172, 3) := by decide +kernel
theorem dX4_cover_32 : decode cX4_cover 32 = .ok (.lstore_n 3, 1) := by decide +kernel
theorem dX4_cover_33 : decode cX4_cover 33 = .ok (.lload_n 3, 1) := by decide +kernel
theorem dX4_cover_34 : decode cX4_cover 34 = .ok (.lconst 0, 1) := by decide +kernel
theorem dX4_cover_35 : decode cX4_cover 35 = .ok (.lcmp, 1) := by decide +kernel
theorem dX4_cover_36 : decode cX4_cover 36 = .ok (.ifCond .ne 13, 3) := by decide +kernel
theorem dX4_cover_39 : decode cX4_cover 39 = .ok (.iload_n 2, 1) := by decide +kernel
theorem dX4_cover_40 : decode cX4_cover 40 = .ok (.ifCond .ne 7, 3) := by decide +kernel
theorem dX4_cover_43 : decode cX4_cover 43 = .ok (.iconst 0, 1) := by decide +kernel
theorem dX4_cover_44 : decode cX4_cover 44 = .ok (.goto 4, 3) := by decide +kernel
theorem dX4_cover_47 : decode cX4_cover 47 = .ok (.iconst (-1), 1) := by decide +kernel
theorem dX4_cover_48 : decode cX4_cover 48 = .ok (.ireturn, 1) := by decide +kernel
theorem dX4_cover_49 : decode cX4_cover 49 = .ok (.aload_n 0, 1) := by decide +kernel
theorem dX4_cover_50 : decode cX4_cover 50 = .ok (.aload_n 0, 1) := by decide +kernel
theorem dX4_cover_51 : decode cX4_cover 51 = .ok (.getfield 10, 3) := by decide +kernel
theorem dX4_cover_54 : decode cX4_cover 54 = .ok (.getfield 74, 3) := by decide +kernel
theorem dX4_cover_57 : decode cX4_cover 57 = .ok (.iload_n 1, 1) := by decide +kernel
theorem dX4_cover_58 : decode cX4_cover 58 = .ok (.iaload, 1) := by decide +kernel
theorem dX4_cover_59 : decode cX4_cover 59 = .ok (.invokevirtual 156, 3) := by decide +kernel
theorem dX4_cover_62 : decode cX4_cover 62 = .ok (.aload_n 0, 1) := by decide +kernel
theorem dX4_cover_63 : decode cX4_cover 63 = .ok (.lload_n 3, 1) := by decide +kernel
theorem dX4_cover_64 : decode cX4_cover 64 = .ok (.invokevirtual 175, 3) := by decide +kernel
theorem dX4_cover_67 : decode cX4_cover 67 = .ok (.istore 5, 2) := by decide +kernel
theorem dX4_cover_69 : decode cX4_cover 69 = .ok (.iload 5, 2) := by decide +kernel
theorem dX4_cover_71 : decode cX4_cover 71 = .ok (.iconst (-1), 1) := by decide +kernel
theorem dX4_cover_72 : decode cX4_cover 72 = .ok (.if_icmp .eq 14, 3) := by decide +kernel
theorem dX4_cover_75 : decode cX4_cover 75 = .ok (.iload_n 2, 1) := by decide +kernel
theorem dX4_cover_76 : decode cX4_cover 76 = .ok (.ifCond .ne 7, 3) := by decide +kernel
theorem dX4_cover_79 : decode cX4_cover 79 = .ok (.iconst 1, 1) := by decide +kernel
theorem dX4_cover_80 : decode cX4_cover 80 = .ok (.goto 5, 3) := by decide +kernel
theorem dX4_cover_83 : decode cX4_cover 83 = .ok (.iload 5, 2) := by decide +kernel
theorem dX4_cover_85 : decode cX4_cover 85 = .ok (.ireturn, 1) := by decide +kernel
theorem dX4_cover_86 : decode cX4_cover 86 = .ok (.aload_n 0, 1) := by decide +kernel
theorem dX4_cover_87 : decode cX4_cover 87 = .ok (.lload_n 3, 1) := by decide +kernel
theorem dX4_cover_88 : decode cX4_cover 88 = .ok (.invokevirtual 178, 3) := by decide +kernel
theorem dX4_cover_91 : decode cX4_cover 91 = .ok (.istore 6, 2) := by decide +kernel
theorem dX4_cover_93 : decode cX4_cover 93 = .ok (.iload_n 2, 1) := by decide +kernel
theorem dX4_cover_94 : decode cX4_cover 94 = .ok (.ifCond .ne 13, 3) := by decide +kernel
theorem dX4_cover_97 : decode cX4_cover 97 = .ok (.iload 6, 2) := by decide +kernel
theorem dX4_cover_99 : decode cX4_cover 99 = .ok (.iconst (-1), 1) := by decide +kernel
theorem dX4_cover_100 : decode cX4_cover 100 = .ok (.if_icmp .eq 7, 3) := by decide +kernel
theorem dX4_cover_103 : decode cX4_cover 103 = .ok (.iconst 2, 1) := by decide +kernel
theorem dX4_cover_104 : decode cX4_cover 104 = .ok (.goto 5, 3) := by decide +kernel
theorem dX4_cover_107 : decode cX4_cover 107 = .ok (.iload 6, 2) := by decide +kernel
theorem dX4_cover_109 : decode cX4_cover 109 = .ok (.ireturn, 1) := by decide +kernel
theorem dX4_shrinks_0 : decode cX4_shrinks 0 = .ok (.iload_n 1, 1) := by decide +kernel
theorem dX4_shrinks_1 : decode cX4_shrinks 1 = .ok (.iconst 0, 1) := by decide +kernel
theorem dX4_shrinks_2 : decode cX4_shrinks 2 = .ok (.iconst 1, 1) := by decide +kernel
theorem dX4_shrinks_3 : decode cX4_shrinks 3 = .ok (.invokestatic 51, 3) := by decide +kernel
theorem dX4_shrinks_6 : decode cX4_shrinks 6 = .ok (.ifCond .eq 12, 3) := by decide +kernel
theorem dX4_shrinks_9 : decode cX4_shrinks 9 = .ok (.iload_n 2, 1) := by decide +kernel
theorem dX4_shrinks_10 : decode cX4_shrinks 10 = .ok (.iconst 0, 1) := by decide +kernel
theorem dX4_shrinks_11 : decode cX4_shrinks 11 = .ok (.iconst 4, 1) := by decide +kernel
theorem dX4_shrinks_12 : decode cX4_shrinks 12 = .ok (.invokestatic 51, 3) := by decide +kernel
theorem dX4_shrinks_15 : decode cX4_shrinks 15 = .ok (.ifCond .ne 10, 3) := by decide +kernel
theorem dX4_shrinks_18 : decode cX4_shrinks 18 = .ok (.aload_n 0, 1) := by decide +kernel
theorem dX4_shrinks_19 : decode cX4_shrinks 19 = .ok (.bipush (-2), 2) := by decide +kernel
theorem dX4_shrinks_21 : decode cX4_shrinks 21 = .ok (.invokevirtual 55, 3) := by decide +kernel
theorem dX4_shrinks_24 : decode cX4_shrinks 24 = .ok (.ireturn, 1) := by decide +kernel
theorem dX4_shrinks_25 : decode cX4_shrinks 25 = .ok (.aload_n 0, 1) := by decide +kernel
theorem dX4_shrinks_26 : decode cX4_shrinks 26 = .ok (.getfield 10, 3) := by decide +kernel
theorem dX4_shrinks_29 : decode cX4_shrinks 29 = .ok (.getfield 74, 3) := by decide +kernel
theorem dX4_shrinks_32 : decode cX4_shrinks 32 = .ok (.iload_n 1, 1) := by decide +kernel
theorem dX4_shrinks_33 : decode cX4_shrinks 33 = .ok (.iaload, 1) := by decide +kernel
theorem dX4_shrinks_34 : decode cX4_shrinks 34 = .ok (.istore_n 3, 1) := by decide +kernel
theorem dX4_shrinks_35 : decode cX4_shrinks 35 = .ok (.iconst 0, 1) := by decide +kernel
theorem dX4_shrinks_36 : decode cX4_shrinks 36 = .ok (.istore 4, 2) := by decide +kernel
theorem dX4_shrinks_38 : decode cX4_shrinks 38 = .ok (.iload 4, 2) := by decide +kernel
theorem dX4_shrinks_40 : decode cX4_shrinks 40 = .ok (.iload_n 2, 1) := by decide +kernel
theorem dX4_shrinks_41 : decode cX4_shrinks 41 = .ok (.if_icmp .ge 14, 3) := by decide +kernel
theorem dX4_shrinks_44 : decode cX4_shrinks 44 = .ok (.iload_n 3, 1) := by decide +kernel
theorem dX4_shrinks_45 : decode cX4_shrinks 45 = .ok (.invokestatic 181, 3) := by decide +kernel
theorem dX4_shrinks_48 : decode cX4_shrinks 48 = .ok (.istore_n 3, 1) := by decide +kernel
theorem dX4_shrinks_49 : decode cX4_shrinks 49 = .ok (.iinc 4 1, 3) := by decide +kernel
theorem dX4_shrinks_52 : decode cX4_shrinks 52 = .ok (.goto (-14), 3) := by decide +kernel
theorem dX4_shrinks_55 : decode cX4_shrinks 55 = .ok (.iload_n 3, 1) := by decide +kernel
theorem dX4_shrinks_56 : decode cX4_shrinks 56 = .ok (.ireturn, 1) := by decide +kernel
theorem dX4_gone_0 : decode cX4_gone 0 = .ok (.iload_n 1, 1) := by decide +kernel
theorem dX4_gone_1 : decode cX4_gone 1 = .ok (.iconst 0, 1) := by decide +kernel
theorem dX4_gone_2 : decode cX4_gone 2 = .ok (.iconst 1, 1) := by decide +kernel
theorem dX4_gone_3 : decode cX4_gone 3 = .ok (.invokestatic 51, 3) := by decide +kernel
theorem dX4_gone_6 : decode cX4_gone 6 = .ok (.ifCond .ne 10, 3) := by decide +kernel
theorem dX4_gone_9 : decode cX4_gone 9 = .ok (.aload_n 0, 1) := by decide +kernel
theorem dX4_gone_10 : decode cX4_gone 10 = .ok (.bipush (-2), 2) := by decide +kernel
theorem dX4_gone_12 : decode cX4_gone 12 = .ok (.invokevirtual 55, 3) := by decide +kernel
theorem dX4_gone_15 : decode cX4_gone 15 = .ok (.ireturn, 1) := by decide +kernel
theorem dX4_gone_16 : decode cX4_gone 16 = .ok (.aload_n 0, 1) := by decide +kernel
theorem dX4_gone_17 : decode cX4_gone 17 = .ok (.getfield 10, 3) := by decide +kernel
theorem dX4_gone_20 : decode cX4_gone 20 = .ok (.getfield 74, 3) := by decide +kernel
theorem dX4_gone_23 : decode cX4_gone 23 = .ok (.iload_n 1, 1) := by decide +kernel
theorem dX4_gone_24 : decode cX4_gone 24 = .ok (.iaload, 1) := by decide +kernel
theorem dX4_gone_25 : decode cX4_gone 25 = .ok (.istore_n 2, 1) := by decide +kernel
theorem dX4_gone_26 : decode cX4_gone 26 = .ok (.iconst 0, 1) := by decide +kernel
theorem dX4_gone_27 : decode cX4_gone 27 = .ok (.istore_n 3, 1) := by decide +kernel
theorem dX4_gone_28 : decode cX4_gone 28 = .ok (.iload_n 2, 1) := by decide +kernel
theorem dX4_gone_29 : decode cX4_gone 29 = .ok (.ifCond .eq 19, 3) := by decide +kernel
theorem dX4_gone_32 : decode cX4_gone 32 = .ok (.iload_n 3, 1) := by decide +kernel
theorem dX4_gone_33 : decode cX4_gone 33 = .ok (.iconst 4, 1) := by decide +kernel
theorem dX4_gone_34 : decode cX4_gone 34 = .ok (.if_icmp .ge 14, 3) := by decide +kernel
theorem dX4_gone_37 : decode cX4_gone 37 = .ok (.iload_n 2, 1) := by decide +kernel
theorem dX4_gone_38 : decode cX4_gone 38 = .ok (.invokestatic 181, 3) := by decide +kernel
theorem dX4_gone_41 : decode cX4_gone 41 = .ok (.istore_n 2, 1) := by decide +kernel
theorem dX4_gone_42 : decode cX4_gone 42 = .ok (.iinc 3 1, 3) := by decide +kernel
theorem dX4_gone_45 : decode cX4_gone 45 = .ok (.goto (-17), 3) := by decide +kernel
theorem dX4_gone_48 : decode cX4_gone 48 = .ok (.iload_n 3, 1) := by decide +kernel
theorem dX4_gone_49 : decode cX4_gone 49 = .ok (.ireturn, 1) := by decide +kernel
theorem dX4_seen_0 : decode cX4_seen 0 = .ok (.iload_n 1, 1) := by decide +kernel
theorem dX4_seen_1 : decode cX4_seen 1 = .ok (.iload_n 2, 1) := by decide +kernel
theorem dX4_seen_2 : decode cX4_seen 2 = .ok (.invokestatic 119, 3) := by decide +kernel
theorem dX4_seen_5 : decode cX4_seen 5 = .ok (.ifCond .eq 12, 3) := by decide +kernel
theorem dX4_seen_8 : decode cX4_seen 8 = .ok (.iload_n 3, 1) := by decide +kernel
theorem dX4_seen_9 : decode cX4_seen 9 = .ok (.iconst 0, 1) := by decide +kernel
theorem dX4_seen_10 : decode cX4_seen 10 = .ok (.iconst 1, 1) := by decide +kernel
theorem dX4_seen_11 : decode cX4_seen 11 = .ok (.invokestatic 51, 3) := by decide +kernel
theorem dX4_seen_14 : decode cX4_seen 14 = .ok (.ifCond .ne 10, 3) := by decide +kernel
theorem dX4_seen_17 : decode cX4_seen 17 = .ok (.aload_n 0, 1) := by decide +kernel
theorem dX4_seen_18 : decode cX4_seen 18 = .ok (.bipush (-2), 2) := by decide +kernel
theorem dX4_seen_20 : decode cX4_seen 20 = .ok (.invokevirtual 55, 3) := by decide +kernel
theorem dX4_seen_23 : decode cX4_seen 23 = .ok (.ireturn, 1) := by decide +kernel
theorem dX4_seen_24 : decode cX4_seen 24 = .ok (.aload_n 0, 1) := by decide +kernel
theorem dX4_seen_25 : decode cX4_seen 25 = .ok (.getfield 10, 3) := by decide +kernel
theorem dX4_seen_28 : decode cX4_seen 28 = .ok (.getfield 184, 3) := by decide +kernel
theorem dX4_seen_31 : decode cX4_seen 31 = .ok (.bipush 8, 2) := by decide +kernel
theorem dX4_seen_33 : decode cX4_seen 33 = .ok (.if_icmp .lt 8, 3) := by decide +kernel
theorem dX4_seen_36 : decode cX4_seen 36 = .ok (.aload_n 0, 1) := by decide +kernel
theorem dX4_seen_37 : decode cX4_seen 37 = .ok (.invokevirtual 105, 3) := by decide +kernel
theorem dX4_seen_40 : decode cX4_seen 40 = .ok (.ireturn, 1) := by decide +kernel
theorem dX4_seen_41 : decode cX4_seen 41 = .ok (.aload_n 0, 1) := by decide +kernel
theorem dX4_seen_42 : decode cX4_seen 42 = .ok (.getfield 10, 3) := by decide +kernel
theorem dX4_seen_45 : decode cX4_seen 45 = .ok (.getfield 187, 3) := by decide +kernel
theorem dX4_seen_48 : decode cX4_seen 48 = .ok (.aload_n 0, 1) := by decide +kernel
theorem dX4_seen_49 : decode cX4_seen 49 = .ok (.getfield 10, 3) := by decide +kernel
theorem dX4_seen_52 : decode cX4_seen 52 = .ok (.getfield 184, 3) := by decide +kernel
theorem dX4_seen_55 : decode cX4_seen 55 = .ok (.bipush 8, 2) := by decide +kernel
theorem dX4_seen_57 : decode cX4_seen 57 = .ok (.iload_n 2, 1) := by decide +kernel
theorem dX4_seen_58 : decode cX4_seen 58 = .ok (.imul, 1) := by decide +kernel
theorem dX4_seen_59 : decode cX4_seen 59 = .ok (.iload_n 1, 1) := by decide +kernel
theorem dX4_seen_60 : decode cX4_seen 60 = .ok (.iadd, 1) := by decide +kernel
theorem dX4_seen_61 : decode cX4_seen 61 = .ok (.iastore, 1) := by decide +kernel
theorem dX4_seen_62 : decode cX4_seen 62 = .ok (.aload_n 0, 1) := by decide +kernel
theorem dX4_seen_63 : decode cX4_seen 63 = .ok (.getfield 10, 3) := by decide +kernel
theorem dX4_seen_66 : decode cX4_seen 66 = .ok (.getfield 190, 3) := by decide +kernel
theorem dX4_seen_69 : decode cX4_seen 69 = .ok (.aload_n 0, 1) := by decide +kernel
theorem dX4_seen_70 : decode cX4_seen 70 = .ok (.getfield 10, 3) := by decide +kernel
theorem dX4_seen_73 : decode cX4_seen 73 = .ok (.getfield 184, 3) := by decide +kernel
theorem dX4_seen_76 : decode cX4_seen 76 = .ok (.iload_n 3, 1) := by decide +kernel
theorem dX4_seen_77 : decode cX4_seen 77 = .ok (.iastore, 1) := by decide +kernel
theorem dX4_seen_78 : decode cX4_seen 78 = .ok (.aload_n 0, 1) := by decide +kernel
theorem dX4_seen_79 : decode cX4_seen 79 = .ok (.getfield 10, 3) := by decide +kernel
theorem dX4_seen_82 : decode cX4_seen 82 = .ok (.dup, 1) := by decide +kernel
theorem dX4_seen_83 : decode cX4_seen 83 = .ok (.getfield 184, 3) := by decide +kernel
theorem dX4_seen_86 : decode cX4_seen 86 = .ok (.iconst 1, 1) := by decide +kernel
theorem dX4_seen_87 : decode cX4_seen 87 = .ok (.iadd, 1) := by decide +kernel
theorem dX4_seen_88 : decode cX4_seen 88 = .ok (.putfield 184, 3) := by decide +kernel
theorem dX4_seen_91 : decode cX4_seen 91 = .ok (.aload_n 0, 1) := by decide +kernel
theorem dX4_seen_92 : decode cX4_seen 92 = .ok (.getfield 10, 3) := by decide +kernel
theorem dX4_seen_95 : decode cX4_seen 95 = .ok (.getfield 184, 3) := by decide +kernel
theorem dX4_seen_98 : decode cX4_seen 98 = .ok (.ireturn, 1) := by decide +kernel
theorem dX4_forget_0 : decode cX4_forget 0 = .ok (.iload_n 1, 1) := by decide +kernel
theorem dX4_forget_1 : decode cX4_forget 1 = .ok (.iconst 0, 1) := by decide +kernel
theorem dX4_forget_2 : decode cX4_forget 2 = .ok (.iconst 1, 1) := by decide +kernel
theorem dX4_forget_3 : decode cX4_forget 3 = .ok (.invokestatic 51, 3) := by decide +kernel
theorem dX4_forget_6 : decode cX4_forget 6 = .ok (.ifCond .ne 10, 3) := by decide +kernel
theorem dX4_forget_9 : decode cX4_forget 9 = .ok (.aload_n 0, 1) := by decide +kernel
theorem dX4_forget_10 : decode cX4_forget 10 = .ok (.bipush (-2), 2) := by decide +kernel
theorem dX4_forget_12 : decode cX4_forget 12 = .ok (.invokevirtual 55, 3) := by decide +kernel
theorem dX4_forget_15 : decode cX4_forget 15 = .ok (.ireturn, 1) := by decide +kernel
theorem dX4_forget_16 : decode cX4_forget 16 = .ok (.iload_n 1, 1) := by decide +kernel
theorem dX4_forget_17 : decode cX4_forget 17 = .ok (.ifCond .ne 22, 3) := by decide +kernel
theorem dX4_forget_20 : decode cX4_forget 20 = .ok (.aload_n 0, 1) := by decide +kernel
theorem dX4_forget_21 : decode cX4_forget 21 = .ok (.getfield 10, 3) := by decide +kernel
theorem dX4_forget_24 : decode cX4_forget 24 = .ok (.getfield 166, 3) := by decide +kernel
theorem dX4_forget_27 : decode cX4_forget 27 = .ok (.istore_n 2, 1) := by decide +kernel
theorem dX4_forget_28 : decode cX4_forget 28 = .ok (.aload_n 0, 1) := by decide +kernel
theorem dX4_forget_29 : decode cX4_forget 29 = .ok (.getfield 10, 3) := by decide +kernel
theorem dX4_forget_32 : decode cX4_forget 32 = .ok (.iconst 0, 1) := by decide +kernel
theorem dX4_forget_33 : decode cX4_forget 33 = .ok (.putfield 166, 3) := by decide +kernel
theorem dX4_forget_36 : decode cX4_forget 36 = .ok (.goto 19, 3) := by decide +kernel
theorem dX4_forget_39 : decode cX4_forget 39 = .ok (.aload_n 0, 1) := by decide +kernel
theorem dX4_forget_40 : decode cX4_forget 40 = .ok (.getfield 10, 3) := by decide +kernel
theorem dX4_forget_43 : decode cX4_forget 43 = .ok (.getfield 184, 3) := by decide +kernel
theorem dX4_forget_46 : decode cX4_forget 46 = .ok (.istore_n 2, 1) := by decide +kernel
theorem dX4_forget_47 : decode cX4_forget 47 = .ok (.aload_n 0, 1) := by decide +kernel
theorem dX4_forget_48 : decode cX4_forget 48 = .ok (.getfield 10, 3) := by decide +kernel
theorem dX4_forget_51 : decode cX4_forget 51 = .ok (.iconst 0, 1) := by decide +kernel
theorem dX4_forget_52 : decode cX4_forget 52 = .ok (.putfield 184, 3) := by decide +kernel
theorem dX4_forget_55 : decode cX4_forget 55 = .ok (.iload_n 2, 1) := by decide +kernel
theorem dX4_forget_56 : decode cX4_forget 56 = .ok (.ireturn, 1) := by decide +kernel
theorem dX4_which_0 : decode cX4_which 0 = .ok (.iload_n 1, 1) := by decide +kernel
theorem dX4_which_1 : decode cX4_which 1 = .ok (.iconst 0, 1) := by decide +kernel
theorem dX4_which_2 : decode cX4_which 2 = .ok (.iconst 1, 1) := by decide +kernel
theorem dX4_which_3 : decode cX4_which 3 = .ok (.invokestatic 51, 3) := by decide +kernel
theorem dX4_which_6 : decode cX4_which 6 = .ok (.ifCond .eq 12, 3) := by decide +kernel
theorem dX4_which_9 : decode cX4_which 9 = .ok (.iload_n 2, 1) := by decide +kernel
theorem dX4_which_10 : decode cX4_which 10 = .ok (.iconst 0, 1) := by decide +kernel
theorem dX4_which_11 : decode cX4_which 11 = .ok (.iconst 1, 1) := by decide +kernel
theorem dX4_which_12 : decode cX4_which 12 = .ok (.invokestatic 51, 3) := by decide +kernel
theorem dX4_which_15 : decode cX4_which 15 = .ok (.ifCond .ne 10, 3) := by decide +kernel
theorem dX4_which_18 : decode cX4_which 18 = .ok (.aload_n 0, 1) := by decide +kernel
theorem dX4_which_19 : decode cX4_which 19 = .ok (.bipush (-10), 2) := by decide +kernel
theorem dX4_which_21 : decode cX4_which 21 = .ok (.invokevirtual 55, 3) := by decide +kernel
theorem dX4_which_24 : decode cX4_which 24 = .ok (.ireturn, 1) := by decide +kernel
theorem dX4_which_25 : decode cX4_which 25 = .ok (.aload_n 0, 1) := by decide +kernel
theorem dX4_which_26 : decode cX4_which 26 = .ok (.aload_n 0, 1) := by decide +kernel
theorem dX4_which_27 : decode cX4_which 27 = .ok (.getfield 10, 3) := by decide +kernel
theorem dX4_which_30 : decode cX4_which 30 = .ok (.getfield 74, 3) := by decide +kernel
theorem dX4_which_33 : decode cX4_which 33 = .ok (.iload_n 1, 1) := by decide +kernel
theorem dX4_which_34 : decode cX4_which 34 = .ok (.iaload, 1) := by decide +kernel
theorem dX4_which_35 : decode cX4_which 35 = .ok (.invokevirtual 156, 3) := by decide +kernel
theorem dX4_which_38 : decode cX4_which 38 = .ok (.aload_n 0, 1) := by decide +kernel
theorem dX4_which_39 : decode cX4_which 39 = .ok (.getfield 10, 3) := by decide +kernel
theorem dX4_which_42 : decode cX4_which 42 = .ok (.iconst 1, 1) := by decide +kernel
theorem dX4_which_43 : decode cX4_which 43 = .ok (.invokevirtual 193, 3) := by decide +kernel
theorem dX4_which_46 : decode cX4_which 46 = .ok (.lstore_n 3, 1) := by decide +kernel
theorem dX4_which_47 : decode cX4_which 47 = .ok (.aload_n 0, 1) := by decide +kernel
theorem dX4_which_48 : decode cX4_which 48 = .ok (.getfield 10, 3) := by decide +kernel
theorem dX4_which_51 : decode cX4_which 51 = .ok (.iconst 0, 1) := by decide +kernel
theorem dX4_which_52 : decode cX4_which 52 = .ok (.invokevirtual 193, 3) := by decide +kernel
theorem dX4_which_55 : decode cX4_which 55 = .ok (.lstore 5, 2) := by decide +kernel
theorem dX4_which_57 : decode cX4_which 57 = .ok (.iconst 0, 1) := by decide +kernel
theorem dX4_which_58 : decode cX4_which 58 = .ok (.istore 7, 2) := by decide +kernel
theorem dX4_which_60 : decode cX4_which 60 = .ok (.iconst (-1), 1) := by decide +kernel
theorem dX4_which_61 : decode cX4_which 61 = .ok (.istore 8, 2) := by decide +kernel
theorem dX4_which_63 : decode cX4_which 63 = .ok (.iconst 0, 1) := by decide +kernel
theorem dX4_which_64 : decode cX4_which 64 = .ok (.istore 9, 2) := by decide +kernel
theorem dX4_which_66 : decode cX4_which 66 = .ok (.iload 9, 2) := by decide +kernel
theorem dX4_which_68 : decode cX4_which 68 = .ok (.sipush 256, 3) := by decide +kernel
theorem dX4_which_71 : decode cX4_which 71 = .ok (.if_icmp .ge 40, 3) := by decide +kernel
theorem dX4_which_74 : decode cX4_which 74 = .ok (.aload_n 0, 1) := by decide +kernel
theorem dX4_which_75 : decode cX4_which 75 = .ok (.getfield 30, 3) := by decide +kernel
theorem dX4_which_78 : decode cX4_which 78 = .ok (.iload 9, 2) := by decide +kernel
theorem dX4_which_80 : decode cX4_which 80 = .ok (.laload, 1) := by decide +kernel
theorem dX4_which_81 : decode cX4_which 81 = .ok (.lload_n 3, 1) := by decide +kernel
theorem dX4_which_82 : decode cX4_which 82 = .ok (.lload 5, 2) := by decide +kernel
theorem dX4_which_84 : decode cX4_which 84 = .ok (.invokestatic 197, 3) := by decide +kernel
theorem dX4_which_87 : decode cX4_which 87 = .ok (.ifCond .eq 18, 3) := by decide +kernel
theorem dX4_which_90 : decode cX4_which 90 = .ok (.iload 7, 2) := by decide +kernel
theorem dX4_which_92 : decode cX4_which 92 = .ok (.ifCond .ne 10, 3) := by decide +kernel
theorem dX4_which_95 : decode cX4_which 95 = .ok (.iload 9, 2) := by decide +kernel
theorem dX4_which_97 : decode cX4_which 97 = .ok (.invokestatic 163, 3) := by decide +kernel
theorem dX4_which_100 : decode cX4_which 100 = .ok (.istore 8, 2) := by decide +kernel
theorem dX4_which_102 : decode cX4_which 102 = .ok (.iinc 7 1, 3) := by decide +kernel
theorem dX4_which_105 : decode cX4_which 105 = .ok (.iinc 9 1, 3) := by decide +kernel
theorem dX4_which_108 : decode cX4_which 108 = .ok (.goto (-42), 3) := by decide +kernel
theorem dX4_which_111 : decode cX4_which 111 = .ok (.iload_n 2, 1) := by decide +kernel
theorem dX4_which_112 : decode cX4_which 112 = .ok (.ifCond .ne 8, 3) := by decide +kernel
theorem dX4_which_115 : decode cX4_which 115 = .ok (.iload 7, 2) := by decide +kernel
theorem dX4_which_117 : decode cX4_which 117 = .ok (.goto 5, 3) := by decide +kernel
theorem dX4_which_120 : decode cX4_which 120 = .ok (.iload 8, 2) := by decide +kernel
theorem dX4_which_122 : decode cX4_which 122 = .ok (.ireturn, 1) := by decide +kernel
theorem dX4_look_0 : decode cX4_look 0 = .ok (.iload_n 1, 1) := by decide +kernel
theorem dX4_look_1 : decode cX4_look 1 = .ok (.iconst 0, 1) := by decide +kernel
theorem dX4_look_2 : decode cX4_look 2 = .ok (.iconst 1, 1) := by decide +kernel
theorem dX4_look_3 : decode cX4_look 3 = .ok (.invokestatic 51, 3) := by decide +kernel
theorem dX4_look_6 : decode cX4_look 6 = .ok (.ifCond .ne 10, 3) := by decide +kernel
theorem dX4_look_9 : decode cX4_look 9 = .ok (.aload_n 0, 1) := by decide +kernel
theorem dX4_look_10 : decode cX4_look 10 = .ok (.bipush (-2), 2) := by decide +kernel
theorem dX4_look_12 : decode cX4_look 12 = .ok (.invokevirtual 55, 3) := by decide +kernel
theorem dX4_look_15 : decode cX4_look 15 = .ok (.ireturn, 1) := by decide +kernel
theorem dX4_look_16 : decode cX4_look 16 = .ok (.aload_n 0, 1) := by decide +kernel
theorem dX4_look_17 : decode cX4_look 17 = .ok (.aload_n 0, 1) := by decide +kernel
theorem dX4_look_18 : decode cX4_look 18 = .ok (.getfield 10, 3) := by decide +kernel
theorem dX4_look_21 : decode cX4_look 21 = .ok (.getfield 74, 3) := by decide +kernel
theorem dX4_look_24 : decode cX4_look 24 = .ok (.iload_n 1, 1) := by decide +kernel
theorem dX4_look_25 : decode cX4_look 25 = .ok (.iaload, 1) := by decide +kernel
theorem dX4_look_26 : decode cX4_look 26 = .ok (.invokevirtual 156, 3) := by decide +kernel
theorem dX4_look_29 : decode cX4_look 29 = .ok (.aload_n 0, 1) := by decide +kernel
theorem dX4_look_30 : decode cX4_look 30 = .ok (.invokevirtual 201, 3) := by decide +kernel
theorem dX4_look_33 : decode cX4_look 33 = .ok (.istore_n 2, 1) := by decide +kernel
theorem dX4_look_34 : decode cX4_look 34 = .ok (.iload_n 2, 1) := by decide +kernel
theorem dX4_look_35 : decode cX4_look 35 = .ok (.ifCond .ne 5, 3) := by decide +kernel
theorem dX4_look_38 : decode cX4_look 38 = .ok (.iconst (-1), 1) := by decide +kernel
theorem dX4_look_39 : decode cX4_look 39 = .ok (.ireturn, 1) := by decide +kernel
theorem dX4_look_40 : decode cX4_look 40 = .ok (.iconst 0, 1) := by decide +kernel
theorem dX4_look_41 : decode cX4_look 41 = .ok (.istore_n 3, 1) := by decide +kernel
theorem dX4_look_42 : decode cX4_look 42 = .ok (.iload_n 2, 1) := by decide +kernel
theorem dX4_look_43 : decode cX4_look 43 = .ok (.iconst 1, 1) := by decide +kernel
theorem dX4_look_44 : decode cX4_look 44 = .ok (.iadd, 1) := by decide +kernel
theorem dX4_look_45 : decode cX4_look 45 = .ok (.istore 4, 2) := by decide +kernel
theorem dX4_look_47 : decode cX4_look 47 = .ok (.iconst 0, 1) := by decide +kernel
theorem dX4_look_48 : decode cX4_look 48 = .ok (.istore 5, 2) := by decide +kernel
theorem dX4_look_50 : decode cX4_look 50 = .ok (.iload 5, 2) := by decide +kernel
theorem dX4_look_52 : decode cX4_look 52 = .ok (.bipush 63, 2) := by decide +kernel
theorem dX4_look_54 : decode cX4_look 54 = .ok (.if_icmp .gt 43, 3) := by decide +kernel
theorem dX4_look_57 : decode cX4_look 57 = .ok (.aload_n 0, 1) := by decide +kernel
theorem dX4_look_58 : decode cX4_look 58 = .ok (.iload 5, 2) := by decide +kernel
theorem dX4_look_60 : decode cX4_look 60 = .ok (.iload_n 2, 1) := by decide +kernel
theorem dX4_look_61 : decode cX4_look 61 = .ok (.invokevirtual 204, 3) := by decide +kernel
theorem dX4_look_64 : decode cX4_look 64 = .ok (.istore 6, 2) := by decide +kernel
theorem dX4_look_66 : decode cX4_look 66 = .ok (.iload 6, 2) := by decide +kernel
theorem dX4_look_68 : decode cX4_look 68 = .ok (.iload_n 2, 1) := by decide +kernel
theorem dX4_look_69 : decode cX4_look 69 = .ok (.iload 6, 2) := by decide +kernel
theorem dX4_look_71 : decode cX4_look 71 = .ok (.isub, 1) := by decide +kernel
theorem dX4_look_72 : decode cX4_look 72 = .ok (.invokestatic 207, 3) := by decide +kernel
theorem dX4_look_75 : decode cX4_look 75 = .ok (.istore 7, 2) := by decide +kernel
theorem dX4_look_77 : decode cX4_look 77 = .ok (.iload 7, 2) := by decide +kernel
theorem dX4_look_79 : decode cX4_look 79 = .ok (.iload 4, 2) := by decide +kernel
theorem dX4_look_81 : decode cX4_look 81 = .ok (.if_icmp .ge 10, 3) := by decide +kernel
theorem dX4_look_84 : decode cX4_look 84 = .ok (.iload 7, 2) := by decide +kernel
theorem dX4_look_86 : decode cX4_look 86 = .ok (.istore 4, 2) := by decide +kernel
theorem dX4_look_88 : decode cX4_look 88 = .ok (.iload 5, 2) := by decide +kernel
theorem dX4_look_90 : decode cX4_look 90 = .ok (.istore_n 3, 1) := by decide +kernel
theorem dX4_look_91 : decode cX4_look 91 = .ok (.iinc 5 1, 3) := by decide +kernel
theorem dX4_look_94 : decode cX4_look 94 = .ok (.goto (-44), 3) := by decide +kernel
theorem dX4_look_97 : decode cX4_look 97 = .ok (.iload_n 3, 1) := by decide +kernel
theorem dX4_look_98 : decode cX4_look 98 = .ok (.ireturn, 1) := by decide +kernel
theorem dX4_bitten_0 : decode cX4_bitten 0 = .ok (.iconst 0, 1) := by decide +kernel
theorem dX4_bitten_1 : decode cX4_bitten 1 = .ok (.iload_n 1, 1) := by decide +kernel
theorem dX4_bitten_2 : decode cX4_bitten 2 = .ok (.iload_n 2, 1) := by decide +kernel
theorem dX4_bitten_3 : decode cX4_bitten 3 = .ok (.iload_n 3, 1) := by decide +kernel
theorem dX4_bitten_4 : decode cX4_bitten 4 = .ok (.iload 4, 2) := by decide +kernel
theorem dX4_bitten_6 : decode cX4_bitten 6 = .ok (.invokestatic 87, 3) := by decide +kernel
theorem dX4_bitten_9 : decode cX4_bitten 9 = .ok (.ifCond .eq 13, 3) := by decide +kernel
theorem dX4_bitten_12 : decode cX4_bitten 12 = .ok (.iload 5, 2) := by decide +kernel
theorem dX4_bitten_14 : decode cX4_bitten 14 = .ok (.iconst 0, 1) := by decide +kernel
theorem dX4_bitten_15 : decode cX4_bitten 15 = .ok (.iconst 1, 1) := by decide +kernel
theorem dX4_bitten_16 : decode cX4_bitten 16 = .ok (.invokestatic 51, 3) := by decide +kernel
theorem dX4_bitten_19 : decode cX4_bitten 19 = .ok (.ifCond .ne 10, 3) := by decide +kernel
theorem dX4_bitten_22 : decode cX4_bitten 22 = .ok (.aload_n 0, 1) := by decide +kernel
theorem dX4_bitten_23 : decode cX4_bitten 23 = .ok (.bipush (-2), 2) := by decide +kernel
theorem dX4_bitten_25 : decode cX4_bitten 25 = .ok (.invokevirtual 55, 3) := by decide +kernel
theorem dX4_bitten_28 : decode cX4_bitten 28 = .ok (.ireturn, 1) := by decide +kernel
theorem dX4_bitten_29 : decode cX4_bitten 29 = .ok (.aload_n 0, 1) := by decide +kernel
theorem dX4_bitten_30 : decode cX4_bitten 30 = .ok (.getfield 10, 3) := by decide +kernel
theorem dX4_bitten_33 : decode cX4_bitten 33 = .ok (.getfield 74, 3) := by decide +kernel
theorem dX4_bitten_36 : decode cX4_bitten 36 = .ok (.iload_n 1, 1) := by decide +kernel
theorem dX4_bitten_37 : decode cX4_bitten 37 = .ok (.iaload, 1) := by decide +kernel
theorem dX4_bitten_38 : decode cX4_bitten 38 = .ok (.istore 6, 2) := by decide +kernel
theorem dX4_bitten_40 : decode cX4_bitten 40 = .ok (.iload 5, 2) := by decide +kernel
theorem dX4_bitten_42 : decode cX4_bitten 42 = .ok (.ifCond .ne 14, 3) := by decide +kernel
theorem dX4_bitten_45 : decode cX4_bitten 45 = .ok (.aload_n 0, 1) := by decide +kernel
theorem dX4_bitten_46 : decode cX4_bitten 46 = .ok (.iload 6, 2) := by decide +kernel
theorem dX4_bitten_48 : decode cX4_bitten 48 = .ok (.iload_n 2, 1) := by decide +kernel
theorem dX4_bitten_49 : decode cX4_bitten 49 = .ok (.iload_n 3, 1) := by decide +kernel
theorem dX4_bitten_50 : decode cX4_bitten 50 = .ok (.iload 4, 2) := by decide +kernel
theorem dX4_bitten_52 : decode cX4_bitten 52 = .ok (.invokevirtual 212, 3) := by decide +kernel
theorem dX4_bitten_55 : decode cX4_bitten 55 = .ok (.ireturn, 1) := by decide +kernel
theorem dX4_bitten_56 : decode cX4_bitten 56 = .ok (.iload 6, 2) := by decide +kernel
theorem dX4_bitten_58 : decode cX4_bitten 58 = .ok (.iload 4, 2) := by decide +kernel
theorem dX4_bitten_60 : decode cX4_bitten 60 = .ok (.invokestatic 126, 3) := by decide +kernel
theorem dX4_bitten_63 : decode cX4_bitten 63 = .ok (.iload_n 2, 1) := by decide +kernel
theorem dX4_bitten_64 : decode cX4_bitten 64 = .ok (.iload_n 3, 1) := by decide +kernel
theorem dX4_bitten_65 : decode cX4_bitten 65 = .ok (.invokestatic 216, 3) := by decide +kernel
theorem dX4_bitten_68 : decode cX4_bitten 68 = .ok (.lstore 7, 2) := by decide +kernel
theorem dX4_bitten_70 : decode cX4_bitten 70 = .ok (.aload_n 0, 1) := by decide +kernel
theorem dX4_bitten_71 : decode cX4_bitten 71 = .ok (.getfield 10, 3) := by decide +kernel
theorem dX4_bitten_74 : decode cX4_bitten 74 = .ok (.iconst 1, 1) := by decide +kernel
theorem dX4_bitten_75 : decode cX4_bitten 75 = .ok (.invokevirtual 193, 3) := by decide +kernel
theorem dX4_bitten_78 : decode cX4_bitten 78 = .ok (.lload 7, 2) := by decide +kernel
theorem dX4_bitten_80 : decode cX4_bitten 80 = .ok (.ldc2_w 219, 3) := by decide +kernel
theorem dX4_bitten_83 : decode cX4_bitten 83 = .ok (.lxor, 1) := by decide +kernel
theorem dX4_bitten_84 : decode cX4_bitten 84 = .ok (.land, 1) := by decide +kernel
theorem dX4_bitten_85 : decode cX4_bitten 85 = .ok (.lconst 0, 1) := by decide +kernel
theorem dX4_bitten_86 : decode cX4_bitten 86 = .ok (.lcmp, 1) := by decide +kernel
theorem dX4_bitten_87 : decode cX4_bitten 87 = .ok (.ifCond .ne 7, 3) := by decide +kernel
theorem dX4_bitten_90 : decode cX4_bitten 90 = .ok (.iconst 1, 1) := by decide +kernel
theorem dX4_bitten_91 : decode cX4_bitten 91 = .ok (.goto 4, 3) := by decide +kernel
theorem dX4_bitten_94 : decode cX4_bitten 94 = .ok (.iconst 0, 1) := by decide +kernel
theorem dX4_bitten_95 : decode cX4_bitten 95 = .ok (.ireturn, 1) := by decide +kernel
theorem dX4_slips_0 : decode cX4_slips 0 = .ok (.iload_n 1, 1) := by decide +kernel
theorem dX4_slips_1 : decode cX4_slips 1 = .ok (.iload_n 2, 1) := by decide +kernel
theorem dX4_slips_2 : decode cX4_slips 2 = .ok (.iload_n 3, 1) := by decide +kernel
theorem dX4_slips_3 : decode cX4_slips 3 = .ok (.iload 4, 2) := by decide +kernel
theorem dX4_slips_5 : decode cX4_slips 5 = .ok (.iconst 0, 1) := by decide +kernel
theorem dX4_slips_6 : decode cX4_slips 6 = .ok (.invokestatic 87, 3) := by decide +kernel
theorem dX4_slips_9 : decode cX4_slips 9 = .ok (.ifCond .eq 35, 3) := by decide +kernel
theorem dX4_slips_12 : decode cX4_slips 12 = .ok (.iload 5, 2) := by decide +kernel
theorem dX4_slips_14 : decode cX4_slips 14 = .ok (.iconst 0, 1) := by decide +kernel
theorem dX4_slips_15 : decode cX4_slips 15 = .ok (.iconst 5, 1) := by decide +kernel
theorem dX4_slips_16 : decode cX4_slips 16 = .ok (.invokestatic 51, 3) := by decide +kernel
theorem dX4_slips_19 : decode cX4_slips 19 = .ok (.ifCond .eq 25, 3) := by decide +kernel
theorem dX4_slips_22 : decode cX4_slips 22 = .ok (.iload 6, 2) := by decide +kernel
theorem dX4_slips_24 : decode cX4_slips 24 = .ok (.iconst 0, 1) := by decide +kernel
theorem dX4_slips_25 : decode cX4_slips 25 = .ok (.bipush 10, 2) := by decide +kernel
theorem dX4_slips_27 : decode cX4_slips 27 = .ok (.invokestatic 51, 3) := by decide +kernel
theorem dX4_slips_30 : decode cX4_slips 30 = .ok (.ifCond .eq 14, 3) := by decide +kernel
theorem dX4_slips_33 : decode cX4_slips 33 = .ok (.iload 7, 2) := by decide +kernel
theorem dX4_slips_35 : decode cX4_slips 35 = .ok (.iconst 0, 1) := by decide +kernel
theorem dX4_slips_36 : decode cX4_slips 36 = .ok (.bipush 63, 2) := by decide +kernel
theorem dX4_slips_38 : decode cX4_slips 38 = .ok (.invokestatic 51, 3) := by decide +kernel
theorem dX4_slips_41 : decode cX4_slips 41 = .ok (.ifCond .ne 10, 3) := by decide +kernel
theorem dX4_slips_44 : decode cX4_slips 44 = .ok (.aload_n 0, 1) := by decide +kernel
theorem dX4_slips_45 : decode cX4_slips 45 = .ok (.bipush (-2), 2) := by decide +kernel
theorem dX4_slips_47 : decode cX4_slips 47 = .ok (.invokevirtual 55, 3) := by decide +kernel
theorem dX4_slips_50 : decode cX4_slips 50 = .ok (.ireturn, 1) := by decide +kernel
theorem dX4_slips_51 : decode cX4_slips 51 = .ok (.aload_n 0, 1) := by decide +kernel
theorem dX4_slips_52 : decode cX4_slips 52 = .ok (.getfield 10, 3) := by decide +kernel
theorem dX4_slips_55 : decode cX4_slips 55 = .ok (.getfield 74, 3) := by decide +kernel
theorem dX4_slips_58 : decode cX4_slips 58 = .ok (.iload_n 2, 1) := by decide +kernel
theorem dX4_slips_59 : decode cX4_slips 59 = .ok (.iaload, 1) := by decide +kernel
theorem dX4_slips_60 : decode cX4_slips 60 = .ok (.iconst 0, 1) := by decide +kernel
theorem dX4_slips_61 : decode cX4_slips 61 = .ok (.invokestatic 126, 3) := by decide +kernel
theorem dX4_slips_64 : decode cX4_slips 64 = .ok (.istore 8, 2) := by decide +kernel
theorem dX4_slips_66 : decode cX4_slips 66 = .ok (.aload_n 0, 1) := by decide +kernel
theorem dX4_slips_67 : decode cX4_slips 67 = .ok (.getfield 10, 3) := by decide +kernel
theorem dX4_slips_70 : decode cX4_slips 70 = .ok (.getfield 81, 3) := by decide +kernel
theorem dX4_slips_73 : decode cX4_slips 73 = .ok (.istore 9, 2) := by decide +kernel
theorem dX4_slips_75 : decode cX4_slips 75 = .ok (.lconst 1, 1) := by decide +kernel
theorem dX4_slips_76 : decode cX4_slips 76 = .ok (.lstore 10, 2) := by decide +kernel
theorem dX4_slips_78 : decode cX4_slips 78 = .ok (.lconst 1, 1) := by decide +kernel
theorem dX4_slips_79 : decode cX4_slips 79 = .ok (.lstore 12, 2) := by decide +kernel
theorem dX4_slips_81 : decode cX4_slips 81 = .ok (.iconst 0, 1) := by decide +kernel
theorem dX4_slips_82 : decode cX4_slips 82 = .ok (.istore 14, 2) := by decide +kernel
theorem dX4_slips_84 : decode cX4_slips 84 = .ok (.iload 14, 2) := by decide +kernel
theorem dX4_slips_86 : decode cX4_slips 86 = .ok (.iload 5, 2) := by decide +kernel
theorem dX4_slips_88 : decode cX4_slips 88 = .ok (.if_icmp .ge 93, 3) := by decide +kernel
theorem dX4_slips_91 : decode cX4_slips 91 = .ok (.iconst 0, 1) := by decide +kernel
theorem dX4_slips_92 : decode cX4_slips 92 = .ok (.istore 15, 2) := by decide +kernel
theorem dX4_slips_94 : decode cX4_slips 94 = .ok (.iload_n 1, 1) := by decide +kernel
theorem dX4_slips_95 : decode cX4_slips 95 = .ok (.iload 9, 2) := by decide +kernel
theorem dX4_slips_97 : decode cX4_slips 97 = .ok (.iload 8, 2) := by decide +kernel
theorem dX4_slips_99 : decode cX4_slips 99 = .ok (.iload_n 3, 1) := by decide +kernel
theorem dX4_slips_100 : decode cX4_slips 100 = .ok (.iload 4, 2) := by decide +kernel
theorem dX4_slips_102 : decode cX4_slips 102 = .ok (.iload 7, 2) := by decide +kernel
theorem dX4_slips_104 : decode cX4_slips 104 = .ok (.invokestatic 221, 3) := by decide +kernel
theorem dX4_slips_107 : decode cX4_slips 107 = .ok (.ifCond .eq 13, 3) := by decide +kernel
theorem dX4_slips_110 : decode cX4_slips 110 = .ok (.iload 15, 2) := by decide +kernel
theorem dX4_slips_112 : decode cX4_slips 112 = .ok (.bipush 10, 2) := by decide +kernel
theorem dX4_slips_114 : decode cX4_slips 114 = .ok (.iload 6, 2) := by decide +kernel
theorem dX4_slips_116 : decode cX4_slips 116 = .ok (.isub, 1) := by decide +kernel
theorem dX4_slips_117 : decode cX4_slips 117 = .ok (.iadd, 1) := by decide +kernel
theorem dX4_slips_118 : decode cX4_slips 118 = .ok (.istore 15, 2) := by decide +kernel
theorem dX4_slips_120 : decode cX4_slips 120 = .ok (.iload_n 1, 1) := by decide +kernel
theorem dX4_slips_121 : decode cX4_slips 121 = .ok (.iload 9, 2) := by decide +kernel
theorem dX4_slips_123 : decode cX4_slips 123 = .ok (.iload 8, 2) := by decide +kernel
theorem dX4_slips_125 : decode cX4_slips 125 = .ok (.iload_n 3, 1) := by decide +kernel
theorem dX4_slips_126 : decode cX4_slips 126 = .ok (.iconst 1, 1) := by decide +kernel
theorem dX4_slips_127 : decode cX4_slips 127 = .ok (.iadd, 1) := by decide +kernel
theorem dX4_slips_128 : decode cX4_slips 128 = .ok (.iload 4, 2) := by decide +kernel
theorem dX4_slips_130 : decode cX4_slips 130 = .ok (.iload 7, 2) := by decide +kernel
theorem dX4_slips_132 : decode cX4_slips 132 = .ok (.invokestatic 221, 3) := by decide +kernel
theorem dX4_slips_135 : decode cX4_slips 135 = .ok (.ifCond .eq 10, 3) := by decide +kernel
theorem dX4_slips_138 : decode cX4_slips 138 = .ok (.iload 15, 2) := by decide +kernel
theorem dX4_slips_140 : decode cX4_slips 140 = .ok (.iload 6, 2) := by decide +kernel
theorem dX4_slips_142 : decode cX4_slips 142 = .ok (.iadd, 1) := by decide +kernel
theorem dX4_slips_143 : decode cX4_slips 143 = .ok (.istore 15, 2) := by decide +kernel
theorem dX4_slips_145 : decode cX4_slips 145 = .ok (.lload 10, 2) := by decide +kernel
theorem dX4_slips_147 : decode cX4_slips 147 = .ok (.bipush 10, 2) := by decide +kernel
theorem dX4_slips_149 : decode cX4_slips 149 = .ok (.iload 15, 2) := by decide +kernel
theorem dX4_slips_151 : decode cX4_slips 151 = .ok (.isub, 1) := by decide +kernel
theorem dX4_slips_152 : decode cX4_slips 152 = .ok (.i2l, 1) := by decide +kernel
theorem dX4_slips_153 : decode cX4_slips 153 = .ok (.lmul, 1) := by decide +kernel
theorem dX4_slips_154 : decode cX4_slips 154 = .ok (.lstore 10, 2) := by decide +kernel
theorem dX4_slips_156 : decode cX4_slips 156 = .ok (.lload 12, 2) := by decide +kernel
theorem dX4_slips_158 : decode cX4_slips 158 = .ok (.ldc2_w 225, 3) := by decide +kernel
theorem dX4_slips_161 : decode cX4_slips 161 = .ok (.lmul, 1) := by decide +kernel
theorem dX4_slips_162 : decode cX4_slips 162 = .ok (.lstore 12, 2) := by decide +kernel
theorem dX4_slips_164 : decode cX4_slips 164 = .ok (.iload 9, 2) := by decide +kernel
theorem dX4_slips_166 : decode cX4_slips 166 = .ok (.iload_n 1, 1) := by decide +kernel
theorem dX4_slips_167 : decode cX4_slips 167 = .ok (.iload 9, 2) := by decide +kernel
theorem dX4_slips_169 : decode cX4_slips 169 = .ok (.invokestatic 143, 3) := by decide +kernel
theorem dX4_slips_172 : decode cX4_slips 172 = .ok (.isub, 1) := by decide +kernel
theorem dX4_slips_173 : decode cX4_slips 173 = .ok (.istore 9, 2) := by decide +kernel
theorem dX4_slips_175 : decode cX4_slips 175 = .ok (.iinc 14 1, 3) := by decide +kernel
theorem dX4_slips_178 : decode cX4_slips 178 = .ok (.goto (-94), 3) := by decide +kernel
theorem dX4_slips_181 : decode cX4_slips 181 = .ok (.aload_n 0, 1) := by decide +kernel
theorem dX4_slips_182 : decode cX4_slips 182 = .ok (.lload 12, 2) := by decide +kernel
theorem dX4_slips_184 : decode cX4_slips 184 = .ok (.lload 10, 2) := by decide +kernel
theorem dX4_slips_186 : decode cX4_slips 186 = .ok (.lsub, 1) := by decide +kernel
theorem dX4_slips_187 : decode cX4_slips 187 = .ok (.lload 12, 2) := by decide +kernel
theorem dX4_slips_189 : decode cX4_slips 189 = .ok (.invokevirtual 227, 3) := by decide +kernel
theorem dX4_slips_192 : decode cX4_slips 192 = .ok (.iconst 1, 1) := by decide +kernel
theorem dX4_slips_193 : decode cX4_slips 193 = .ok (.ireturn, 1) := by decide +kernel
theorem dX4_sheets_0 : decode cX4_sheets 0 = .ok (.iload_n 1, 1) := by decide +kernel
theorem dX4_sheets_1 : decode cX4_sheets 1 = .ok (.iconst 0, 1) := by decide +kernel
theorem dX4_sheets_2 : decode cX4_sheets 2 = .ok (.ldc 231, 2) := by decide +kernel
theorem dX4_sheets_4 : decode cX4_sheets 4 = .ok (.invokestatic 51, 3) := by decide +kernel
theorem dX4_sheets_7 : decode cX4_sheets 7 = .ok (.ifCond .eq 13, 3) := by decide +kernel
theorem dX4_sheets_10 : decode cX4_sheets 10 = .ok (.iload_n 2, 1) := by decide +kernel
theorem dX4_sheets_11 : decode cX4_sheets 11 = .ok (.iconst 0, 1) := by decide +kernel
theorem dX4_sheets_12 : decode cX4_sheets 12 = .ok (.bipush 30, 2) := by decide +kernel
theorem dX4_sheets_14 : decode cX4_sheets 14 = .ok (.invokestatic 51, 3) := by decide +kernel
theorem dX4_sheets_17 : decode cX4_sheets 17 = .ok (.ifCond .ne 10, 3) := by decide +kernel
theorem dX4_sheets_20 : decode cX4_sheets 20 = .ok (.aload_n 0, 1) := by decide +kernel
theorem dX4_sheets_21 : decode cX4_sheets 21 = .ok (.bipush (-2), 2) := by decide +kernel
theorem dX4_sheets_23 : decode cX4_sheets 23 = .ok (.invokevirtual 55, 3) := by decide +kernel
theorem dX4_sheets_26 : decode cX4_sheets 26 = .ok (.ireturn, 1) := by decide +kernel
theorem dX4_sheets_27 : decode cX4_sheets 27 = .ok (.aload_n 0, 1) := by decide +kernel
theorem dX4_sheets_28 : decode cX4_sheets 28 = .ok (.getfield 16, 3) := by decide +kernel
theorem dX4_sheets_31 : decode cX4_sheets 31 = .ok (.aload_n 0, 1) := by decide +kernel
theorem dX4_sheets_32 : decode cX4_sheets 32 = .ok (.getfield 10, 3) := by decide +kernel
theorem dX4_sheets_35 : decode cX4_sheets 35 = .ok (.invokevirtual 132, 3) := by decide +kernel
theorem dX4_sheets_38 : decode cX4_sheets 38 = .ok (.iload_n 1, 1) := by decide +kernel
theorem dX4_sheets_39 : decode cX4_sheets 39 = .ok (.i2l, 1) := by decide +kernel
theorem dX4_sheets_40 : decode cX4_sheets 40 = .ok (.lstore_n 3, 1) := by decide +kernel
theorem dX4_sheets_41 : decode cX4_sheets 41 = .ok (.iconst 0, 1) := by decide +kernel
theorem dX4_sheets_42 : decode cX4_sheets 42 = .ok (.istore 5, 2) := by decide +kernel
theorem dX4_sheets_44 : decode cX4_sheets 44 = .ok (.iload 5, 2) := by decide +kernel
theorem dX4_sheets_46 : decode cX4_sheets 46 = .ok (.iload_n 2, 1) := by decide +kernel
theorem dX4_sheets_47 : decode cX4_sheets 47 = .ok (.if_icmp .ge 101, 3) := by decide +kernel
theorem dX4_sheets_50 : decode cX4_sheets 50 = .ok (.lload_n 3, 1) := by decide +kernel
theorem dX4_sheets_51 : decode cX4_sheets 51 = .ok (.invokestatic 232, 3) := by decide +kernel
theorem dX4_sheets_54 : decode cX4_sheets 54 = .ok (.lstore_n 3, 1) := by decide +kernel
theorem dX4_sheets_55 : decode cX4_sheets 55 = .ok (.lload_n 3, 1) := by decide +kernel
theorem dX4_sheets_56 : decode cX4_sheets 56 = .ok (.iconst 5, 1) := by decide +kernel
theorem dX4_sheets_57 : decode cX4_sheets 57 = .ok (.invokestatic 236, 3) := by decide +kernel
theorem dX4_sheets_60 : decode cX4_sheets 60 = .ok (.istore 6, 2) := by decide +kernel
theorem dX4_sheets_62 : decode cX4_sheets 62 = .ok (.lload_n 3, 1) := by decide +kernel
theorem dX4_sheets_63 : decode cX4_sheets 63 = .ok (.invokestatic 232, 3) := by decide +kernel
theorem dX4_sheets_66 : decode cX4_sheets 66 = .ok (.lstore_n 3, 1) := by decide +kernel
theorem dX4_sheets_67 : decode cX4_sheets 67 = .ok (.lload_n 3, 1) := by decide +kernel
theorem dX4_sheets_68 : decode cX4_sheets 68 = .ok (.iconst 1, 1) := by decide +kernel
theorem dX4_sheets_69 : decode cX4_sheets 69 = .ok (.invokestatic 236, 3) := by decide +kernel
theorem dX4_sheets_72 : decode cX4_sheets 72 = .ok (.istore 7, 2) := by decide +kernel
theorem dX4_sheets_74 : decode cX4_sheets 74 = .ok (.lload_n 3, 1) := by decide +kernel
theorem dX4_sheets_75 : decode cX4_sheets 75 = .ok (.invokestatic 232, 3) := by decide +kernel
theorem dX4_sheets_78 : decode cX4_sheets 78 = .ok (.lstore_n 3, 1) := by decide +kernel
theorem dX4_sheets_79 : decode cX4_sheets 79 = .ok (.lload_n 3, 1) := by decide +kernel
theorem dX4_sheets_80 : decode cX4_sheets 80 = .ok (.bipush 63, 2) := by decide +kernel
theorem dX4_sheets_82 : decode cX4_sheets 82 = .ok (.invokestatic 236, 3) := by decide +kernel
theorem dX4_sheets_85 : decode cX4_sheets 85 = .ok (.istore 8, 2) := by decide +kernel
theorem dX4_sheets_87 : decode cX4_sheets 87 = .ok (.lload_n 3, 1) := by decide +kernel
theorem dX4_sheets_88 : decode cX4_sheets 88 = .ok (.invokestatic 232, 3) := by decide +kernel
theorem dX4_sheets_91 : decode cX4_sheets 91 = .ok (.lstore_n 3, 1) := by decide +kernel
theorem dX4_sheets_92 : decode cX4_sheets 92 = .ok (.lload_n 3, 1) := by decide +kernel
theorem dX4_sheets_93 : decode cX4_sheets 93 = .ok (.iconst 3, 1) := by decide +kernel
theorem dX4_sheets_94 : decode cX4_sheets 94 = .ok (.invokestatic 236, 3) := by decide +kernel
theorem dX4_sheets_97 : decode cX4_sheets 97 = .ok (.istore 9, 2) := by decide +kernel
theorem dX4_sheets_99 : decode cX4_sheets 99 = .ok (.aload_n 0, 1) := by decide +kernel
theorem dX4_sheets_100 : decode cX4_sheets 100 = .ok (.getfield 16, 3) := by decide +kernel
theorem dX4_sheets_103 : decode cX4_sheets 103 = .ok (.getfield 81, 3) := by decide +kernel
theorem dX4_sheets_106 : decode cX4_sheets 106 = .ok (.ifCond .ne 12, 3) := by decide +kernel
theorem dX4_sheets_109 : decode cX4_sheets 109 = .ok (.aload_n 0, 1) := by decide +kernel
theorem dX4_sheets_110 : decode cX4_sheets 110 = .ok (.getfield 16, 3) := by decide +kernel
theorem dX4_sheets_113 : decode cX4_sheets 113 = .ok (.bipush 12, 2) := by decide +kernel
theorem dX4_sheets_115 : decode cX4_sheets 115 = .ok (.putfield 81, 3) := by decide +kernel
theorem dX4_sheets_118 : decode cX4_sheets 118 = .ok (.aload_n 0, 1) := by decide +kernel
theorem dX4_sheets_119 : decode cX4_sheets 119 = .ok (.getfield 16, 3) := by decide +kernel
theorem dX4_sheets_122 : decode cX4_sheets 122 = .ok (.iload 6, 2) := by decide +kernel
theorem dX4_sheets_124 : decode cX4_sheets 124 = .ok (.iload 7, 2) := by decide +kernel
theorem dX4_sheets_126 : decode cX4_sheets 126 = .ok (.iload 8, 2) := by decide +kernel
theorem dX4_sheets_128 : decode cX4_sheets 128 = .ok (.bipush 8, 2) := by decide +kernel
theorem dX4_sheets_130 : decode cX4_sheets 130 = .ok (.irem, 1) := by decide +kernel
theorem dX4_sheets_131 : decode cX4_sheets 131 = .ok (.iload 8, 2) := by decide +kernel
theorem dX4_sheets_133 : decode cX4_sheets 133 = .ok (.bipush 8, 2) := by decide +kernel
theorem dX4_sheets_135 : decode cX4_sheets 135 = .ok (.idiv, 1) := by decide +kernel
theorem dX4_sheets_136 : decode cX4_sheets 136 = .ok (.iload 9, 2) := by decide +kernel
theorem dX4_sheets_138 : decode cX4_sheets 138 = .ok (.invokevirtual 95, 3) := by decide +kernel
theorem dX4_sheets_141 : decode cX4_sheets 141 = .ok (.pop, 1) := by decide +kernel
theorem dX4_sheets_142 : decode cX4_sheets 142 = .ok (.iinc 5 1, 3) := by decide +kernel
theorem dX4_sheets_145 : decode cX4_sheets 145 = .ok (.goto (-101), 3) := by decide +kernel
theorem dX4_sheets_148 : decode cX4_sheets 148 = .ok (.aload_n 0, 1) := by decide +kernel
theorem dX4_sheets_149 : decode cX4_sheets 149 = .ok (.getfield 16, 3) := by decide +kernel
theorem dX4_sheets_152 : decode cX4_sheets 152 = .ok (.invokevirtual 240, 3) := by decide +kernel
theorem dX4_sheets_155 : decode cX4_sheets 155 = .ok (.ireturn, 1) := by decide +kernel
theorem dX4_part_0 : decode cX4_part 0 = .ok (.iload_n 1, 1) := by decide +kernel
theorem dX4_part_1 : decode cX4_part 1 = .ok (.iconst 0, 1) := by decide +kernel
theorem dX4_part_2 : decode cX4_part 2 = .ok (.iconst 1, 1) := by decide +kernel
theorem dX4_part_3 : decode cX4_part 3 = .ok (.invokestatic 51, 3) := by decide +kernel
theorem dX4_part_6 : decode cX4_part 6 = .ok (.ifCond .ne 11, 3) := by decide +kernel
theorem dX4_part_9 : decode cX4_part 9 = .ok (.aload_n 0, 1) := by decide +kernel
theorem dX4_part_10 : decode cX4_part 10 = .ok (.bipush (-2), 2) := by decide +kernel
theorem dX4_part_12 : decode cX4_part 12 = .ok (.invokevirtual 55, 3) := by decide +kernel
theorem dX4_part_15 : decode cX4_part 15 = .ok (.i2l, 1) := by decide +kernel
theorem dX4_part_16 : decode cX4_part 16 = .ok (.lreturn, 1) := by decide +kernel
theorem dX4_part_17 : decode cX4_part 17 = .ok (.iload_n 1, 1) := by decide +kernel
theorem dX4_part_18 : decode cX4_part 18 = .ok (.ifCond .ne 10, 3) := by decide +kernel
theorem dX4_part_21 : decode cX4_part 21 = .ok (.aload_n 0, 1) := by decide +kernel
theorem dX4_part_22 : decode cX4_part 22 = .ok (.getfield 34, 3) := by decide +kernel
theorem dX4_part_25 : decode cX4_part 25 = .ok (.goto 7, 3) := by decide +kernel
theorem dX4_part_28 : decode cX4_part 28 = .ok (.aload_n 0, 1) := by decide +kernel
theorem dX4_part_29 : decode cX4_part 29 = .ok (.getfield 38, 3) := by decide +kernel
theorem dX4_part_32 : decode cX4_part 32 = .ok (.lreturn, 1) := by decide +kernel
theorem dX4_image_0 : decode cX4_image 0 = .ok (.iload_n 1, 1) := by decide +kernel
theorem dX4_image_1 : decode cX4_image 1 = .ok (.iconst 0, 1) := by decide +kernel
theorem dX4_image_2 : decode cX4_image 2 = .ok (.iconst 1, 1) := by decide +kernel
theorem dX4_image_3 : decode cX4_image 3 = .ok (.invokestatic 51, 3) := by decide +kernel
theorem dX4_image_6 : decode cX4_image 6 = .ok (.ifCond .ne 10, 3) := by decide +kernel
theorem dX4_image_9 : decode cX4_image 9 = .ok (.aload_n 0, 1) := by decide +kernel
theorem dX4_image_10 : decode cX4_image 10 = .ok (.bipush (-2), 2) := by decide +kernel
theorem dX4_image_12 : decode cX4_image 12 = .ok (.invokevirtual 55, 3) := by decide +kernel
theorem dX4_image_15 : decode cX4_image 15 = .ok (.ireturn, 1) := by decide +kernel
theorem dX4_image_16 : decode cX4_image 16 = .ok (.aload_n 0, 1) := by decide +kernel
theorem dX4_image_17 : decode cX4_image 17 = .ok (.getfield 19, 3) := by decide +kernel
theorem dX4_image_20 : decode cX4_image 20 = .ok (.iload_n 1, 1) := by decide +kernel
theorem dX4_image_21 : decode cX4_image 21 = .ok (.aaload, 1) := by decide +kernel
theorem dX4_image_22 : decode cX4_image 22 = .ok (.astore_n 2, 1) := by decide +kernel
theorem dX4_image_23 : decode cX4_image 23 = .ok (.aload_n 2, 1) := by decide +kernel
theorem dX4_image_24 : decode cX4_image 24 = .ok (.ifnonnull 18, 3) := by decide +kernel
theorem dX4_image_27 : decode cX4_image 27 = .ok (.new 7, 3) := by decide +kernel
theorem dX4_image_30 : decode cX4_image 30 = .ok (.dup, 1) := by decide +kernel
theorem dX4_image_31 : decode cX4_image 31 = .ok (.invokespecial 9, 3) := by decide +kernel
theorem dX4_image_34 : decode cX4_image 34 = .ok (.astore_n 2, 1) := by decide +kernel
theorem dX4_image_35 : decode cX4_image 35 = .ok (.aload_n 0, 1) := by decide +kernel
theorem dX4_image_36 : decode cX4_image 36 = .ok (.getfield 19, 3) := by decide +kernel
theorem dX4_image_39 : decode cX4_image 39 = .ok (.iload_n 1, 1) := by decide +kernel
theorem dX4_image_40 : decode cX4_image 40 = .ok (.aload_n 2, 1) := by decide +kernel
theorem dX4_image_41 : decode cX4_image 41 = .ok (.aastore, 1) := by decide +kernel
theorem dX4_image_42 : decode cX4_image 42 = .ok (.aload_n 2, 1) := by decide +kernel
theorem dX4_image_43 : decode cX4_image 43 = .ok (.aload_n 0, 1) := by decide +kernel
theorem dX4_image_44 : decode cX4_image 44 = .ok (.getfield 10, 3) := by decide +kernel
theorem dX4_image_47 : decode cX4_image 47 = .ok (.invokevirtual 115, 3) := by decide +kernel
theorem dX4_image_50 : decode cX4_image 50 = .ok (.iconst 1, 1) := by decide +kernel
theorem dX4_image_51 : decode cX4_image 51 = .ok (.ireturn, 1) := by decide +kernel
theorem dX4_from_0 : decode cX4_from 0 = .ok (.iload_n 1, 1) := by decide +kernel
theorem dX4_from_1 : decode cX4_from 1 = .ok (.iconst 0, 1) := by decide +kernel
theorem dX4_from_2 : decode cX4_from 2 = .ok (.iconst 1, 1) := by decide +kernel
theorem dX4_from_3 : decode cX4_from 3 = .ok (.invokestatic 51, 3) := by decide +kernel
theorem dX4_from_6 : decode cX4_from 6 = .ok (.ifCond .ne 10, 3) := by decide +kernel
theorem dX4_from_9 : decode cX4_from 9 = .ok (.aload_n 0, 1) := by decide +kernel
theorem dX4_from_10 : decode cX4_from 10 = .ok (.bipush (-2), 2) := by decide +kernel
theorem dX4_from_12 : decode cX4_from 12 = .ok (.invokevirtual 55, 3) := by decide +kernel
theorem dX4_from_15 : decode cX4_from 15 = .ok (.ireturn, 1) := by decide +kernel
theorem dX4_from_16 : decode cX4_from 16 = .ok (.aload_n 0, 1) := by decide +kernel
theorem dX4_from_17 : decode cX4_from 17 = .ok (.getfield 19, 3) := by decide +kernel
theorem dX4_from_20 : decode cX4_from 20 = .ok (.iload_n 1, 1) := by decide +kernel
theorem dX4_from_21 : decode cX4_from 21 = .ok (.aaload, 1) := by decide +kernel
theorem dX4_from_22 : decode cX4_from 22 = .ok (.astore_n 2, 1) := by decide +kernel
theorem dX4_from_23 : decode cX4_from 23 = .ok (.aload_n 2, 1) := by decide +kernel
theorem dX4_from_24 : decode cX4_from 24 = .ok (.ifnonnull 8, 3) := by decide +kernel
theorem dX4_from_27 : decode cX4_from 27 = .ok (.aload_n 0, 1) := by decide +kernel
theorem dX4_from_28 : decode cX4_from 28 = .ok (.invokevirtual 91, 3) := by decide +kernel
theorem dX4_from_31 : decode cX4_from 31 = .ok (.ireturn, 1) := by decide +kernel
theorem dX4_from_32 : decode cX4_from 32 = .ok (.aload_n 0, 1) := by decide +kernel
theorem dX4_from_33 : decode cX4_from 33 = .ok (.getfield 10, 3) := by decide +kernel
theorem dX4_from_36 : decode cX4_from 36 = .ok (.aload_n 2, 1) := by decide +kernel
theorem dX4_from_37 : decode cX4_from 37 = .ok (.invokevirtual 115, 3) := by decide +kernel
theorem dX4_from_40 : decode cX4_from 40 = .ok (.iconst 1, 1) := by decide +kernel
theorem dX4_from_41 : decode cX4_from 41 = .ok (.ireturn, 1) := by decide +kernel
theorem dX4_status_0 : decode cX4_status 0 = .ok (.iload_n 1, 1) := by decide +kernel
theorem dX4_status_1 : decode cX4_status 1 = .ok (.tableswitch 42 0 2 #[27, 32, 37], 27) := by decide +kernel
theorem dX4_status_28 : decode cX4_status 28 = .ok (.aload_n 0, 1) := by decide +kernel
theorem dX4_status_29 : decode cX4_status 29 = .ok (.getfield 41, 3) := by decide +kernel
theorem dX4_status_32 : decode cX4_status 32 = .ok (.ireturn, 1) := by decide +kernel
theorem dX4_status_33 : decode cX4_status 33 = .ok (.aload_n 0, 1) := by decide +kernel
theorem dX4_status_34 : decode cX4_status 34 = .ok (.getfield 45, 3) := by decide +kernel
theorem dX4_status_37 : decode cX4_status 37 = .ok (.ireturn, 1) := by decide +kernel
theorem dX4_status_38 : decode cX4_status 38 = .ok (.aload_n 0, 1) := by decide +kernel
theorem dX4_status_39 : decode cX4_status 39 = .ok (.getfield 48, 3) := by decide +kernel
theorem dX4_status_42 : decode cX4_status 42 = .ok (.ireturn, 1) := by decide +kernel
theorem dX4_status_43 : decode cX4_status 43 = .ok (.aload_n 0, 1) := by decide +kernel
theorem dX4_status_44 : decode cX4_status 44 = .ok (.iconst (-1), 1) := by decide +kernel
theorem dX4_status_45 : decode cX4_status 45 = .ok (.invokevirtual 55, 3) := by decide +kernel
theorem dX4_status_48 : decode cX4_status 48 = .ok (.ireturn, 1) := by decide +kernel
theorem dX4_count_0 : decode cX4_count 0 = .ok (.iload_n 1, 1) := by decide +kernel
theorem dX4_count_1 : decode cX4_count 1 = .ok (.iconst 0, 1) := by decide +kernel
theorem dX4_count_2 : decode cX4_count 2 = .ok (.iconst 5, 1) := by decide +kernel
theorem dX4_count_3 : decode cX4_count 3 = .ok (.invokestatic 51, 3) := by decide +kernel
theorem dX4_count_6 : decode cX4_count 6 = .ok (.ifCond .ne 10, 3) := by decide +kernel
theorem dX4_count_9 : decode cX4_count 9 = .ok (.aload_n 0, 1) := by decide +kernel
theorem dX4_count_10 : decode cX4_count 10 = .ok (.bipush (-2), 2) := by decide +kernel
theorem dX4_count_12 : decode cX4_count 12 = .ok (.invokevirtual 55, 3) := by decide +kernel
theorem dX4_count_15 : decode cX4_count 15 = .ok (.ireturn, 1) := by decide +kernel
theorem dX4_count_16 : decode cX4_count 16 = .ok (.aload_n 0, 1) := by decide +kernel
theorem dX4_count_17 : decode cX4_count 17 = .ok (.iload_n 1, 1) := by decide +kernel
theorem dX4_count_18 : decode cX4_count 18 = .ok (.invokevirtual 243, 3) := by decide +kernel
theorem dX4_count_21 : decode cX4_count 21 = .ok (.ireturn, 1) := by decide +kernel
theorem dX4_digest_0 : decode cX4_digest 0 = .ok (.ldc2_w 246, 3) := by decide +kernel
theorem dX4_digest_3 : decode cX4_digest 3 = .ok (.lstore_n 1, 1) := by decide +kernel
theorem dX4_digest_4 : decode cX4_digest 4 = .ok (.iconst 0, 1) := by decide +kernel
theorem dX4_digest_5 : decode cX4_digest 5 = .ok (.istore_n 3, 1) := by decide +kernel
theorem dX4_digest_6 : decode cX4_digest 6 = .ok (.iload_n 3, 1) := by decide +kernel
theorem dX4_digest_7 : decode cX4_digest 7 = .ok (.iconst 5, 1) := by decide +kernel
theorem dX4_digest_8 : decode cX4_digest 8 = .ok (.if_icmp .gt 22, 3) := by decide +kernel
theorem dX4_digest_11 : decode cX4_digest 11 = .ok (.ldc2_w 248, 3) := by decide +kernel
theorem dX4_digest_14 : decode cX4_digest 14 = .ok (.lload_n 1, 1) := by decide +kernel
theorem dX4_digest_15 : decode cX4_digest 15 = .ok (.lmul, 1) := by decide +kernel
theorem dX4_digest_16 : decode cX4_digest 16 = .ok (.aload_n 0, 1) := by decide +kernel
theorem dX4_digest_17 : decode cX4_digest 17 = .ok (.iload_n 3, 1) := by decide +kernel
theorem dX4_digest_18 : decode cX4_digest 18 = .ok (.invokevirtual 243, 3) := by decide +kernel
theorem dX4_digest_21 : decode cX4_digest 21 = .ok (.i2l, 1) := by decide +kernel
theorem dX4_digest_22 : decode cX4_digest 22 = .ok (.ladd, 1) := by decide +kernel
theorem dX4_digest_23 : decode cX4_digest 23 = .ok (.lstore_n 1, 1) := by decide +kernel
theorem dX4_digest_24 : decode cX4_digest 24 = .ok (.iinc 3 1, 3) := by decide +kernel
theorem dX4_digest_27 : decode cX4_digest 27 = .ok (.goto (-21), 3) := by decide +kernel
theorem dX4_digest_30 : decode cX4_digest 30 = .ok (.iconst 0, 1) := by decide +kernel
theorem dX4_digest_31 : decode cX4_digest 31 = .ok (.istore_n 3, 1) := by decide +kernel
theorem dX4_digest_32 : decode cX4_digest 32 = .ok (.iload_n 3, 1) := by decide +kernel
theorem dX4_digest_33 : decode cX4_digest 33 = .ok (.iconst 1, 1) := by decide +kernel
theorem dX4_digest_34 : decode cX4_digest 34 = .ok (.if_icmp .gt 26, 3) := by decide +kernel
theorem dX4_digest_37 : decode cX4_digest 37 = .ok (.ldc2_w 248, 3) := by decide +kernel
theorem dX4_digest_40 : decode cX4_digest 40 = .ok (.lload_n 1, 1) := by decide +kernel
theorem dX4_digest_41 : decode cX4_digest 41 = .ok (.lmul, 1) := by decide +kernel
theorem dX4_digest_42 : decode cX4_digest 42 = .ok (.aload_n 0, 1) := by decide +kernel
theorem dX4_digest_43 : decode cX4_digest 43 = .ok (.getfield 10, 3) := by decide +kernel
theorem dX4_digest_46 : decode cX4_digest 46 = .ok (.getfield 74, 3) := by decide +kernel
theorem dX4_digest_49 : decode cX4_digest 49 = .ok (.iload_n 3, 1) := by decide +kernel
theorem dX4_digest_50 : decode cX4_digest 50 = .ok (.iaload, 1) := by decide +kernel
theorem dX4_digest_51 : decode cX4_digest 51 = .ok (.i2l, 1) := by decide +kernel
theorem dX4_digest_52 : decode cX4_digest 52 = .ok (.ladd, 1) := by decide +kernel
theorem dX4_digest_53 : decode cX4_digest 53 = .ok (.lstore_n 1, 1) := by decide +kernel
theorem dX4_digest_54 : decode cX4_digest 54 = .ok (.iinc 3 1, 3) := by decide +kernel
theorem dX4_digest_57 : decode cX4_digest 57 = .ok (.goto (-25), 3) := by decide +kernel
theorem dX4_digest_60 : decode cX4_digest 60 = .ok (.iconst 0, 1) := by decide +kernel
theorem dX4_digest_61 : decode cX4_digest 61 = .ok (.istore_n 3, 1) := by decide +kernel
theorem dX4_digest_62 : decode cX4_digest 62 = .ok (.iload_n 3, 1) := by decide +kernel
theorem dX4_digest_63 : decode cX4_digest 63 = .ok (.bipush 63, 2) := by decide +kernel
theorem dX4_digest_65 : decode cX4_digest 65 = .ok (.if_icmp .gt 26, 3) := by decide +kernel
theorem dX4_digest_68 : decode cX4_digest 68 = .ok (.ldc2_w 248, 3) := by decide +kernel
theorem dX4_digest_71 : decode cX4_digest 71 = .ok (.lload_n 1, 1) := by decide +kernel
theorem dX4_digest_72 : decode cX4_digest 72 = .ok (.lmul, 1) := by decide +kernel
theorem dX4_digest_73 : decode cX4_digest 73 = .ok (.aload_n 0, 1) := by decide +kernel
theorem dX4_digest_74 : decode cX4_digest 74 = .ok (.getfield 10, 3) := by decide +kernel
theorem dX4_digest_77 : decode cX4_digest 77 = .ok (.getfield 123, 3) := by decide +kernel
theorem dX4_digest_80 : decode cX4_digest 80 = .ok (.iload_n 3, 1) := by decide +kernel
theorem dX4_digest_81 : decode cX4_digest 81 = .ok (.iaload, 1) := by decide +kernel
theorem dX4_digest_82 : decode cX4_digest 82 = .ok (.i2l, 1) := by decide +kernel
theorem dX4_digest_83 : decode cX4_digest 83 = .ok (.ladd, 1) := by decide +kernel
theorem dX4_digest_84 : decode cX4_digest 84 = .ok (.lstore_n 1, 1) := by decide +kernel
theorem dX4_digest_85 : decode cX4_digest 85 = .ok (.iinc 3 1, 3) := by decide +kernel
theorem dX4_digest_88 : decode cX4_digest 88 = .ok (.goto (-26), 3) := by decide +kernel
theorem dX4_digest_91 : decode cX4_digest 91 = .ok (.iconst 0, 1) := by decide +kernel
theorem dX4_digest_92 : decode cX4_digest 92 = .ok (.istore_n 3, 1) := by decide +kernel
theorem dX4_digest_93 : decode cX4_digest 93 = .ok (.iload_n 3, 1) := by decide +kernel
theorem dX4_digest_94 : decode cX4_digest 94 = .ok (.aload_n 0, 1) := by decide +kernel
theorem dX4_digest_95 : decode cX4_digest 95 = .ok (.getfield 10, 3) := by decide +kernel
theorem dX4_digest_98 : decode cX4_digest 98 = .ok (.getfield 166, 3) := by decide +kernel
theorem dX4_digest_101 : decode cX4_digest 101 = .ok (.if_icmp .ge 26, 3) := by decide +kernel
theorem dX4_digest_104 : decode cX4_digest 104 = .ok (.ldc2_w 248, 3) := by decide +kernel
theorem dX4_digest_107 : decode cX4_digest 107 = .ok (.lload_n 1, 1) := by decide +kernel
theorem dX4_digest_108 : decode cX4_digest 108 = .ok (.lmul, 1) := by decide +kernel
theorem dX4_digest_109 : decode cX4_digest 109 = .ok (.aload_n 0, 1) := by decide +kernel
theorem dX4_digest_110 : decode cX4_digest 110 = .ok (.getfield 10, 3) := by decide +kernel
theorem dX4_digest_113 : decode cX4_digest 113 = .ok (.getfield 169, 3) := by decide +kernel
theorem dX4_digest_116 : decode cX4_digest 116 = .ok (.iload_n 3, 1) := by decide +kernel
theorem dX4_digest_117 : decode cX4_digest 117 = .ok (.iaload, 1) := by decide +kernel
theorem dX4_digest_118 : decode cX4_digest 118 = .ok (.i2l, 1) := by decide +kernel
theorem dX4_digest_119 : decode cX4_digest 119 = .ok (.ladd, 1) := by decide +kernel
theorem dX4_digest_120 : decode cX4_digest 120 = .ok (.lstore_n 1, 1) := by decide +kernel
theorem dX4_digest_121 : decode cX4_digest 121 = .ok (.iinc 3 1, 3) := by decide +kernel
theorem dX4_digest_124 : decode cX4_digest 124 = .ok (.goto (-31), 3) := by decide +kernel
theorem dX4_digest_127 : decode cX4_digest 127 = .ok (.iconst 0, 1) := by decide +kernel
theorem dX4_digest_128 : decode cX4_digest 128 = .ok (.istore_n 3, 1) := by decide +kernel
theorem dX4_digest_129 : decode cX4_digest 129 = .ok (.iload_n 3, 1) := by decide +kernel
theorem dX4_digest_130 : decode cX4_digest 130 = .ok (.aload_n 0, 1) := by decide +kernel
theorem dX4_digest_131 : decode cX4_digest 131 = .ok (.getfield 10, 3) := by decide +kernel
theorem dX4_digest_134 : decode cX4_digest 134 = .ok (.getfield 184, 3) := by decide +kernel
theorem dX4_digest_137 : decode cX4_digest 137 = .ok (.if_icmp .ge 43, 3) := by decide +kernel
theorem dX4_digest_140 : decode cX4_digest 140 = .ok (.ldc2_w 248, 3) := by decide +kernel
theorem dX4_digest_143 : decode cX4_digest 143 = .ok (.lload_n 1, 1) := by decide +kernel
theorem dX4_digest_144 : decode cX4_digest 144 = .ok (.lmul, 1) := by decide +kernel
theorem dX4_digest_145 : decode cX4_digest 145 = .ok (.aload_n 0, 1) := by decide +kernel
theorem dX4_digest_146 : decode cX4_digest 146 = .ok (.getfield 10, 3) := by decide +kernel
theorem dX4_digest_149 : decode cX4_digest 149 = .ok (.getfield 187, 3) := by decide +kernel
theorem dX4_digest_152 : decode cX4_digest 152 = .ok (.iload_n 3, 1) := by decide +kernel
theorem dX4_digest_153 : decode cX4_digest 153 = .ok (.iaload, 1) := by decide +kernel
theorem dX4_digest_154 : decode cX4_digest 154 = .ok (.i2l, 1) := by decide +kernel
theorem dX4_digest_155 : decode cX4_digest 155 = .ok (.ladd, 1) := by decide +kernel
theorem dX4_digest_156 : decode cX4_digest 156 = .ok (.lstore_n 1, 1) := by decide +kernel
theorem dX4_digest_157 : decode cX4_digest 157 = .ok (.ldc2_w 248, 3) := by decide +kernel
theorem dX4_digest_160 : decode cX4_digest 160 = .ok (.lload_n 1, 1) := by decide +kernel
theorem dX4_digest_161 : decode cX4_digest 161 = .ok (.lmul, 1) := by decide +kernel
theorem dX4_digest_162 : decode cX4_digest 162 = .ok (.aload_n 0, 1) := by decide +kernel
theorem dX4_digest_163 : decode cX4_digest 163 = .ok (.getfield 10, 3) := by decide +kernel
theorem dX4_digest_166 : decode cX4_digest 166 = .ok (.getfield 190, 3) := by decide +kernel
theorem dX4_digest_169 : decode cX4_digest 169 = .ok (.iload_n 3, 1) := by decide +kernel
theorem dX4_digest_170 : decode cX4_digest 170 = .ok (.iaload, 1) := by decide +kernel
theorem dX4_digest_171 : decode cX4_digest 171 = .ok (.i2l, 1) := by decide +kernel
theorem dX4_digest_172 : decode cX4_digest 172 = .ok (.ladd, 1) := by decide +kernel
theorem dX4_digest_173 : decode cX4_digest 173 = .ok (.lstore_n 1, 1) := by decide +kernel
theorem dX4_digest_174 : decode cX4_digest 174 = .ok (.iinc 3 1, 3) := by decide +kernel
theorem dX4_digest_177 : decode cX4_digest 177 = .ok (.goto (-48), 3) := by decide +kernel
theorem dX4_digest_180 : decode cX4_digest 180 = .ok (.ldc2_w 248, 3) := by decide +kernel
theorem dX4_digest_183 : decode cX4_digest 183 = .ok (.lload_n 1, 1) := by decide +kernel
theorem dX4_digest_184 : decode cX4_digest 184 = .ok (.lmul, 1) := by decide +kernel
theorem dX4_digest_185 : decode cX4_digest 185 = .ok (.aload_n 0, 1) := by decide +kernel
theorem dX4_digest_186 : decode cX4_digest 186 = .ok (.getfield 34, 3) := by decide +kernel
theorem dX4_digest_189 : decode cX4_digest 189 = .ok (.ladd, 1) := by decide +kernel
theorem dX4_digest_190 : decode cX4_digest 190 = .ok (.lstore_n 1, 1) := by decide +kernel
theorem dX4_digest_191 : decode cX4_digest 191 = .ok (.ldc2_w 248, 3) := by decide +kernel
theorem dX4_digest_194 : decode cX4_digest 194 = .ok (.lload_n 1, 1) := by decide +kernel
theorem dX4_digest_195 : decode cX4_digest 195 = .ok (.lmul, 1) := by decide +kernel
theorem dX4_digest_196 : decode cX4_digest 196 = .ok (.aload_n 0, 1) := by decide +kernel
theorem dX4_digest_197 : decode cX4_digest 197 = .ok (.getfield 38, 3) := by decide +kernel
theorem dX4_digest_200 : decode cX4_digest 200 = .ok (.ladd, 1) := by decide +kernel
theorem dX4_digest_201 : decode cX4_digest 201 = .ok (.lreturn, 1) := by decide +kernel
theorem dX4_refuseBad_0 : decode cX4_refuseBad 0 = .ok (.aload_n 0, 1) := by decide +kernel
theorem dX4_refuseBad_1 : decode cX4_refuseBad 1 = .ok (.dup, 1) := by decide +kernel
theorem dX4_refuseBad_2 : decode cX4_refuseBad 2 = .ok (.getfield 41, 3) := by decide +kernel
theorem dX4_refuseBad_5 : decode cX4_refuseBad 5 = .ok (.iconst 1, 1) := by decide +kernel
theorem dX4_refuseBad_6 : decode cX4_refuseBad 6 = .ok (.iadd, 1) := by decide +kernel
theorem dX4_refuseBad_7 : decode cX4_refuseBad 7 = .ok (.putfield 41, 3) := by decide +kernel
theorem dX4_refuseBad_10 : decode cX4_refuseBad 10 = .ok (.iload_n 1, 1) := by decide +kernel
theorem dX4_refuseBad_11 : decode cX4_refuseBad 11 = .ok (.ireturn, 1) := by decide +kernel
theorem dX4_refuseNo_0 : decode cX4_refuseNo 0 = .ok (.aload_n 0, 1) := by decide +kernel
theorem dX4_refuseNo_1 : decode cX4_refuseNo 1 = .ok (.dup, 1) := by decide +kernel
theorem dX4_refuseNo_2 : decode cX4_refuseNo 2 = .ok (.getfield 45, 3) := by decide +kernel
theorem dX4_refuseNo_5 : decode cX4_refuseNo 5 = .ok (.iconst 1, 1) := by decide +kernel
theorem dX4_refuseNo_6 : decode cX4_refuseNo 6 = .ok (.iadd, 1) := by decide +kernel
theorem dX4_refuseNo_7 : decode cX4_refuseNo 7 = .ok (.putfield 45, 3) := by decide +kernel
theorem dX4_refuseNo_10 : decode cX4_refuseNo 10 = .ok (.bipush (-3), 2) := by decide +kernel
theorem dX4_refuseNo_12 : decode cX4_refuseNo 12 = .ok (.ireturn, 1) := by decide +kernel
theorem dX4_refuseFull_0 : decode cX4_refuseFull 0 = .ok (.aload_n 0, 1) := by decide +kernel
theorem dX4_refuseFull_1 : decode cX4_refuseFull 1 = .ok (.dup, 1) := by decide +kernel
theorem dX4_refuseFull_2 : decode cX4_refuseFull 2 = .ok (.getfield 48, 3) := by decide +kernel
theorem dX4_refuseFull_5 : decode cX4_refuseFull 5 = .ok (.iconst 1, 1) := by decide +kernel
theorem dX4_refuseFull_6 : decode cX4_refuseFull 6 = .ok (.iadd, 1) := by decide +kernel
theorem dX4_refuseFull_7 : decode cX4_refuseFull 7 = .ok (.putfield 48, 3) := by decide +kernel
theorem dX4_refuseFull_10 : decode cX4_refuseFull 10 = .ok (.bipush (-4), 2) := by decide +kernel
theorem dX4_refuseFull_12 : decode cX4_refuseFull 12 = .ok (.ireturn, 1) := by decide +kernel
theorem dX4_within_0 : decode cX4_within 0 = .ok (.iload_n 0, 1) := by decide +kernel
theorem dX4_within_1 : decode cX4_within 1 = .ok (.iload_n 1, 1) := by decide +kernel
theorem dX4_within_2 : decode cX4_within 2 = .ok (.if_icmp .lt 12, 3) := by decide +kernel
theorem dX4_within_5 : decode cX4_within 5 = .ok (.iload_n 0, 1) := by decide +kernel
theorem dX4_within_6 : decode cX4_within 6 = .ok (.iload_n 2, 1) := by decide +kernel
theorem dX4_within_7 : decode cX4_within 7 = .ok (.if_icmp .gt 7, 3) := by decide +kernel
theorem dX4_within_10 : decode cX4_within 10 = .ok (.iconst 1, 1) := by decide +kernel
theorem dX4_within_11 : decode cX4_within 11 = .ok (.goto 4, 3) := by decide +kernel
theorem dX4_within_14 : decode cX4_within 14 = .ok (.iconst 0, 1) := by decide +kernel
theorem dX4_within_15 : decode cX4_within 15 = .ok (.ireturn, 1) := by decide +kernel
theorem dX4_isPlace_0 : decode cX4_isPlace 0 = .ok (.iload_n 0, 1) := by decide +kernel
theorem dX4_isPlace_1 : decode cX4_isPlace 1 = .ok (.iconst 0, 1) := by decide +kernel
theorem dX4_isPlace_2 : decode cX4_isPlace 2 = .ok (.bipush 7, 2) := by decide +kernel
theorem dX4_isPlace_4 : decode cX4_isPlace 4 = .ok (.invokestatic 51, 3) := by decide +kernel
theorem dX4_isPlace_7 : decode cX4_isPlace 7 = .ok (.ifCond .eq 17, 3) := by decide +kernel
theorem dX4_isPlace_10 : decode cX4_isPlace 10 = .ok (.iload_n 1, 1) := by decide +kernel
theorem dX4_isPlace_11 : decode cX4_isPlace 11 = .ok (.iconst 0, 1) := by decide +kernel
theorem dX4_isPlace_12 : decode cX4_isPlace 12 = .ok (.bipush 7, 2) := by decide +kernel
theorem dX4_isPlace_14 : decode cX4_isPlace 14 = .ok (.invokestatic 51, 3) := by decide +kernel
theorem dX4_isPlace_17 : decode cX4_isPlace 17 = .ok (.ifCond .eq 7, 3) := by decide +kernel
theorem dX4_isPlace_20 : decode cX4_isPlace 20 = .ok (.iconst 1, 1) := by decide +kernel
theorem dX4_isPlace_21 : decode cX4_isPlace 21 = .ok (.goto 4, 3) := by decide +kernel
theorem dX4_isPlace_24 : decode cX4_isPlace 24 = .ok (.iconst 0, 1) := by decide +kernel
theorem dX4_isPlace_25 : decode cX4_isPlace 25 = .ok (.ireturn, 1) := by decide +kernel
theorem dX4_isPrint_0 : decode cX4_isPrint 0 = .ok (.iload_n 0, 1) := by decide +kernel
theorem dX4_isPrint_1 : decode cX4_isPrint 1 = .ok (.iconst 0, 1) := by decide +kernel
theorem dX4_isPrint_2 : decode cX4_isPrint 2 = .ok (.iconst 5, 1) := by decide +kernel
theorem dX4_isPrint_3 : decode cX4_isPrint 3 = .ok (.invokestatic 51, 3) := by decide +kernel
theorem dX4_isPrint_6 : decode cX4_isPrint 6 = .ok (.ifCond .eq 34, 3) := by decide +kernel
theorem dX4_isPrint_9 : decode cX4_isPrint 9 = .ok (.iload_n 1, 1) := by decide +kernel
theorem dX4_isPrint_10 : decode cX4_isPrint 10 = .ok (.iconst 0, 1) := by decide +kernel
theorem dX4_isPrint_11 : decode cX4_isPrint 11 = .ok (.iconst 1, 1) := by decide +kernel
theorem dX4_isPrint_12 : decode cX4_isPrint 12 = .ok (.invokestatic 51, 3) := by decide +kernel
theorem dX4_isPrint_15 : decode cX4_isPrint 15 = .ok (.ifCond .eq 25, 3) := by decide +kernel
theorem dX4_isPrint_18 : decode cX4_isPrint 18 = .ok (.iload_n 2, 1) := by decide +kernel
theorem dX4_isPrint_19 : decode cX4_isPrint 19 = .ok (.iload_n 3, 1) := by decide +kernel
theorem dX4_isPrint_20 : decode cX4_isPrint 20 = .ok (.invokestatic 119, 3) := by decide +kernel
theorem dX4_isPrint_23 : decode cX4_isPrint 23 = .ok (.ifCond .eq 17, 3) := by decide +kernel
theorem dX4_isPrint_26 : decode cX4_isPrint 26 = .ok (.iload 4, 2) := by decide +kernel
theorem dX4_isPrint_28 : decode cX4_isPrint 28 = .ok (.iconst 0, 1) := by decide +kernel
theorem dX4_isPrint_29 : decode cX4_isPrint 29 = .ok (.iconst 3, 1) := by decide +kernel
theorem dX4_isPrint_30 : decode cX4_isPrint 30 = .ok (.invokestatic 51, 3) := by decide +kernel
theorem dX4_isPrint_33 : decode cX4_isPrint 33 = .ok (.ifCond .eq 7, 3) := by decide +kernel
theorem dX4_isPrint_36 : decode cX4_isPrint 36 = .ok (.iconst 1, 1) := by decide +kernel
theorem dX4_isPrint_37 : decode cX4_isPrint 37 = .ok (.goto 4, 3) := by decide +kernel
theorem dX4_isPrint_40 : decode cX4_isPrint 40 = .ok (.iconst 0, 1) := by decide +kernel
theorem dX4_isPrint_41 : decode cX4_isPrint 41 = .ok (.ireturn, 1) := by decide +kernel
theorem dX4_isDip_0 : decode cX4_isDip 0 = .ok (.iload_n 0, 1) := by decide +kernel
theorem dX4_isDip_1 : decode cX4_isDip 1 = .ok (.iconst 0, 1) := by decide +kernel
theorem dX4_isDip_2 : decode cX4_isDip 2 = .ok (.iconst 5, 1) := by decide +kernel
theorem dX4_isDip_3 : decode cX4_isDip 3 = .ok (.invokestatic 51, 3) := by decide +kernel
theorem dX4_isDip_6 : decode cX4_isDip 6 = .ok (.ifCond .eq 17, 3) := by decide +kernel
theorem dX4_isDip_9 : decode cX4_isDip 9 = .ok (.iload_n 1, 1) := by decide +kernel
theorem dX4_isDip_10 : decode cX4_isDip 10 = .ok (.iconst 0, 1) := by decide +kernel
theorem dX4_isDip_11 : decode cX4_isDip 11 = .ok (.bipush 12, 2) := by decide +kernel
theorem dX4_isDip_13 : decode cX4_isDip 13 = .ok (.invokestatic 51, 3) := by decide +kernel
theorem dX4_isDip_16 : decode cX4_isDip 16 = .ok (.ifCond .eq 7, 3) := by decide +kernel
theorem dX4_isDip_19 : decode cX4_isDip 19 = .ok (.iconst 1, 1) := by decide +kernel
theorem dX4_isDip_20 : decode cX4_isDip 20 = .ok (.goto 4, 3) := by decide +kernel
theorem dX4_isDip_23 : decode cX4_isDip 23 = .ok (.iconst 0, 1) := by decide +kernel
theorem dX4_isDip_24 : decode cX4_isDip 24 = .ok (.ireturn, 1) := by decide +kernel
theorem dX4_wholePrints_0 : decode cX4_wholePrints 0 = .ok (.iconst 4, 1) := by decide +kernel
theorem dX4_wholePrints_1 : decode cX4_wholePrints 1 = .ok (.iload_n 1, 1) := by decide +kernel
theorem dX4_wholePrints_2 : decode cX4_wholePrints 2 = .ok (.iadd, 1) := by decide +kernel
theorem dX4_wholePrints_3 : decode cX4_wholePrints 3 = .ok (.istore_n 2, 1) := by decide +kernel
theorem dX4_wholePrints_4 : decode cX4_wholePrints 4 = .ok (.iload_n 2, 1) := by decide +kernel
theorem dX4_wholePrints_5 : decode cX4_wholePrints 5 = .ok (.ifCond .le 11, 3) := by decide +kernel
theorem dX4_wholePrints_8 : decode cX4_wholePrints 8 = .ok (.iload_n 0, 1) := by decide +kernel
theorem dX4_wholePrints_9 : decode cX4_wholePrints 9 = .ok (.iload_n 1, 1) := by decide +kernel
theorem dX4_wholePrints_10 : decode cX4_wholePrints 10 = .ok (.iadd, 1) := by decide +kernel
theorem dX4_wholePrints_11 : decode cX4_wholePrints 11 = .ok (.iload_n 2, 1) := by decide +kernel
theorem dX4_wholePrints_12 : decode cX4_wholePrints 12 = .ok (.idiv, 1) := by decide +kernel
theorem dX4_wholePrints_13 : decode cX4_wholePrints 13 = .ok (.goto 4, 3) := by decide +kernel
theorem dX4_wholePrints_16 : decode cX4_wholePrints 16 = .ok (.iconst 0, 1) := by decide +kernel
theorem dX4_wholePrints_17 : decode cX4_wholePrints 17 = .ok (.ireturn, 1) := by decide +kernel
theorem dX4_leftOfEdge_0 : decode cX4_leftOfEdge 0 = .ok (.iload_n 0, 1) := by decide +kernel
theorem dX4_leftOfEdge_1 : decode cX4_leftOfEdge 1 = .ok (.iload_n 1, 1) := by decide +kernel
theorem dX4_leftOfEdge_2 : decode cX4_leftOfEdge 2 = .ok (.invokestatic 150, 3) := by decide +kernel
theorem dX4_leftOfEdge_5 : decode cX4_leftOfEdge 5 = .ok (.istore_n 2, 1) := by decide +kernel
theorem dX4_leftOfEdge_6 : decode cX4_leftOfEdge 6 = .ok (.iload_n 0, 1) := by decide +kernel
theorem dX4_leftOfEdge_7 : decode cX4_leftOfEdge 7 = .ok (.iload_n 1, 1) := by decide +kernel
theorem dX4_leftOfEdge_8 : decode cX4_leftOfEdge 8 = .ok (.iadd, 1) := by decide +kernel
theorem dX4_leftOfEdge_9 : decode cX4_leftOfEdge 9 = .ok (.iload_n 2, 1) := by decide +kernel
theorem dX4_leftOfEdge_10 : decode cX4_leftOfEdge 10 = .ok (.iconst 4, 1) := by decide +kernel
theorem dX4_leftOfEdge_11 : decode cX4_leftOfEdge 11 = .ok (.iload_n 1, 1) := by decide +kernel
theorem dX4_leftOfEdge_12 : decode cX4_leftOfEdge 12 = .ok (.iadd, 1) := by decide +kernel
theorem dX4_leftOfEdge_13 : decode cX4_leftOfEdge 13 = .ok (.imul, 1) := by decide +kernel
theorem dX4_leftOfEdge_14 : decode cX4_leftOfEdge 14 = .ok (.isub, 1) := by decide +kernel
theorem dX4_leftOfEdge_15 : decode cX4_leftOfEdge 15 = .ok (.ireturn, 1) := by decide +kernel
theorem dX4_placeEverywhere_0 : decode cX4_placeEverywhere 0 = .ok (.iconst 0, 1) := by decide +kernel
theorem dX4_placeEverywhere_1 : decode cX4_placeEverywhere 1 = .ok (.istore_n 2, 1) := by decide +kernel
theorem dX4_placeEverywhere_2 : decode cX4_placeEverywhere 2 = .ok (.iload_n 2, 1) := by decide +kernel
theorem dX4_placeEverywhere_3 : decode cX4_placeEverywhere 3 = .ok (.iconst 3, 1) := by decide +kernel
theorem dX4_placeEverywhere_4 : decode cX4_placeEverywhere 4 = .ok (.if_icmp .gt 57, 3) := by decide +kernel
theorem dX4_placeEverywhere_7 : decode cX4_placeEverywhere 7 = .ok (.iload_n 1, 1) := by decide +kernel
theorem dX4_placeEverywhere_8 : decode cX4_placeEverywhere 8 = .ok (.iload_n 2, 1) := by decide +kernel
theorem dX4_placeEverywhere_9 : decode cX4_placeEverywhere 9 = .ok (.invokestatic 126, 3) := by decide +kernel
theorem dX4_placeEverywhere_12 : decode cX4_placeEverywhere 12 = .ok (.istore_n 3, 1) := by decide +kernel
theorem dX4_placeEverywhere_13 : decode cX4_placeEverywhere 13 = .ok (.iconst 0, 1) := by decide +kernel
theorem dX4_placeEverywhere_14 : decode cX4_placeEverywhere 14 = .ok (.istore 4, 2) := by decide +kernel
theorem dX4_placeEverywhere_16 : decode cX4_placeEverywhere 16 = .ok (.iload 4, 2) := by decide +kernel
theorem dX4_placeEverywhere_18 : decode cX4_placeEverywhere 18 = .ok (.bipush 63, 2) := by decide +kernel
theorem dX4_placeEverywhere_20 : decode cX4_placeEverywhere 20 = .ok (.if_icmp .gt 35, 3) := by decide +kernel
theorem dX4_placeEverywhere_23 : decode cX4_placeEverywhere 23 = .ok (.aload_n 0, 1) := by decide +kernel
theorem dX4_placeEverywhere_24 : decode cX4_placeEverywhere 24 = .ok (.getfield 30, 3) := by decide +kernel
theorem dX4_placeEverywhere_27 : decode cX4_placeEverywhere 27 = .ok (.bipush 64, 2) := by decide +kernel
theorem dX4_placeEverywhere_29 : decode cX4_placeEverywhere 29 = .ok (.iload_n 2, 1) := by decide +kernel
theorem dX4_placeEverywhere_30 : decode cX4_placeEverywhere 30 = .ok (.imul, 1) := by decide +kernel
theorem dX4_placeEverywhere_31 : decode cX4_placeEverywhere 31 = .ok (.iload 4, 2) := by decide +kernel
theorem dX4_placeEverywhere_33 : decode cX4_placeEverywhere 33 = .ok (.iadd, 1) := by decide +kernel
theorem dX4_placeEverywhere_34 : decode cX4_placeEverywhere 34 = .ok (.iload_n 3, 1) := by decide +kernel
theorem dX4_placeEverywhere_35 : decode cX4_placeEverywhere 35 = .ok (.iload 4, 2) := by decide +kernel
theorem dX4_placeEverywhere_37 : decode cX4_placeEverywhere 37 = .ok (.bipush 8, 2) := by decide +kernel
theorem dX4_placeEverywhere_39 : decode cX4_placeEverywhere 39 = .ok (.irem, 1) := by decide +kernel
theorem dX4_placeEverywhere_40 : decode cX4_placeEverywhere 40 = .ok (.iload 4, 2) := by decide +kernel
theorem dX4_placeEverywhere_42 : decode cX4_placeEverywhere 42 = .ok (.bipush 8, 2) := by decide +kernel
theorem dX4_placeEverywhere_44 : decode cX4_placeEverywhere 44 = .ok (.idiv, 1) := by decide +kernel
theorem dX4_placeEverywhere_45 : decode cX4_placeEverywhere 45 = .ok (.invokestatic 216, 3) := by decide +kernel
theorem dX4_placeEverywhere_48 : decode cX4_placeEverywhere 48 = .ok (.lastore, 1) := by decide +kernel
theorem dX4_placeEverywhere_49 : decode cX4_placeEverywhere 49 = .ok (.iinc 4 1, 3) := by decide +kernel
theorem dX4_placeEverywhere_52 : decode cX4_placeEverywhere 52 = .ok (.goto (-36), 3) := by decide +kernel
theorem dX4_placeEverywhere_55 : decode cX4_placeEverywhere 55 = .ok (.iinc 2 1, 3) := by decide +kernel
theorem dX4_placeEverywhere_58 : decode cX4_placeEverywhere 58 = .ok (.goto (-56), 3) := by decide +kernel
theorem dX4_placeEverywhere_61 : decode cX4_placeEverywhere 61 = .ok (.return_, 1) := by decide +kernel
theorem dX4_placingNumber_0 : decode cX4_placingNumber 0 = .ok (.bipush 100, 2) := by decide +kernel
theorem dX4_placingNumber_2 : decode cX4_placingNumber 2 = .ok (.iload_n 0, 1) := by decide +kernel
theorem dX4_placingNumber_3 : decode cX4_placingNumber 3 = .ok (.bipush 64, 2) := by decide +kernel
theorem dX4_placingNumber_5 : decode cX4_placingNumber 5 = .ok (.idiv, 1) := by decide +kernel
theorem dX4_placingNumber_6 : decode cX4_placingNumber 6 = .ok (.imul, 1) := by decide +kernel
theorem dX4_placingNumber_7 : decode cX4_placingNumber 7 = .ok (.bipush 10, 2) := by decide +kernel
theorem dX4_placingNumber_9 : decode cX4_placingNumber 9 = .ok (.iload_n 0, 1) := by decide +kernel
theorem dX4_placingNumber_10 : decode cX4_placingNumber 10 = .ok (.bipush 8, 2) := by decide +kernel
theorem dX4_placingNumber_12 : decode cX4_placingNumber 12 = .ok (.idiv, 1) := by decide +kernel
theorem dX4_placingNumber_13 : decode cX4_placingNumber 13 = .ok (.bipush 8, 2) := by decide +kernel
theorem dX4_placingNumber_15 : decode cX4_placingNumber 15 = .ok (.irem, 1) := by decide +kernel
theorem dX4_placingNumber_16 : decode cX4_placingNumber 16 = .ok (.imul, 1) := by decide +kernel
theorem dX4_placingNumber_17 : decode cX4_placingNumber 17 = .ok (.iadd, 1) := by decide +kernel
theorem dX4_placingNumber_18 : decode cX4_placingNumber 18 = .ok (.iload_n 0, 1) := by decide +kernel
theorem dX4_placingNumber_19 : decode cX4_placingNumber 19 = .ok (.bipush 8, 2) := by decide +kernel
theorem dX4_placingNumber_21 : decode cX4_placingNumber 21 = .ok (.irem, 1) := by decide +kernel
theorem dX4_placingNumber_22 : decode cX4_placingNumber 22 = .ok (.iadd, 1) := by decide +kernel
theorem dX4_placingNumber_23 : decode cX4_placingNumber 23 = .ok (.ireturn, 1) := by decide +kernel
theorem dX4_isWhollyOnSheet_0 : decode cX4_isWhollyOnSheet 0 = .ok (.iload_n 0, 1) := by decide +kernel
theorem dX4_isWhollyOnSheet_1 : decode cX4_isWhollyOnSheet 1 = .ok (.bipush 8, 2) := by decide +kernel
theorem dX4_isWhollyOnSheet_3 : decode cX4_isWhollyOnSheet 3 = .ok (.idiv, 1) := by decide +kernel
theorem dX4_isWhollyOnSheet_4 : decode cX4_isWhollyOnSheet 4 = .ok (.bipush 8, 2) := by decide +kernel
theorem dX4_isWhollyOnSheet_6 : decode cX4_isWhollyOnSheet 6 = .ok (.irem, 1) := by decide +kernel
theorem dX4_isWhollyOnSheet_7 : decode cX4_isWhollyOnSheet 7 = .ok (.iconst 4, 1) := by decide +kernel
theorem dX4_isWhollyOnSheet_8 : decode cX4_isWhollyOnSheet 8 = .ok (.if_icmp .gt 15, 3) := by decide +kernel
theorem dX4_isWhollyOnSheet_11 : decode cX4_isWhollyOnSheet 11 = .ok (.iload_n 0, 1) := by decide +kernel
theorem dX4_isWhollyOnSheet_12 : decode cX4_isWhollyOnSheet 12 = .ok (.bipush 8, 2) := by decide +kernel
theorem dX4_isWhollyOnSheet_14 : decode cX4_isWhollyOnSheet 14 = .ok (.irem, 1) := by decide +kernel
theorem dX4_isWhollyOnSheet_15 : decode cX4_isWhollyOnSheet 15 = .ok (.iconst 4, 1) := by decide +kernel
theorem dX4_isWhollyOnSheet_16 : decode cX4_isWhollyOnSheet 16 = .ok (.if_icmp .gt 7, 3) := by decide +kernel
theorem dX4_isWhollyOnSheet_19 : decode cX4_isWhollyOnSheet 19 = .ok (.iconst 1, 1) := by decide +kernel
theorem dX4_isWhollyOnSheet_20 : decode cX4_isWhollyOnSheet 20 = .ok (.goto 4, 3) := by decide +kernel
theorem dX4_isWhollyOnSheet_23 : decode cX4_isWhollyOnSheet 23 = .ok (.iconst 0, 1) := by decide +kernel
theorem dX4_isWhollyOnSheet_24 : decode cX4_isWhollyOnSheet 24 = .ok (.ireturn, 1) := by decide +kernel
theorem dX4_firstCovering_0 : decode cX4_firstCovering 0 = .ok (.iconst 0, 1) := by decide +kernel
theorem dX4_firstCovering_1 : decode cX4_firstCovering 1 = .ok (.istore_n 3, 1) := by decide +kernel
theorem dX4_firstCovering_2 : decode cX4_firstCovering 2 = .ok (.iload_n 3, 1) := by decide +kernel
theorem dX4_firstCovering_3 : decode cX4_firstCovering 3 = .ok (.sipush 256, 3) := by decide +kernel
theorem dX4_firstCovering_6 : decode cX4_firstCovering 6 = .ok (.if_icmp .ge 31, 3) := by decide +kernel
theorem dX4_firstCovering_9 : decode cX4_firstCovering 9 = .ok (.lload_n 1, 1) := by decide +kernel
theorem dX4_firstCovering_10 : decode cX4_firstCovering 10 = .ok (.aload_n 0, 1) := by decide +kernel
theorem dX4_firstCovering_11 : decode cX4_firstCovering 11 = .ok (.getfield 30, 3) := by decide +kernel
theorem dX4_firstCovering_14 : decode cX4_firstCovering 14 = .ok (.iload_n 3, 1) := by decide +kernel
theorem dX4_firstCovering_15 : decode cX4_firstCovering 15 = .ok (.laload, 1) := by decide +kernel
theorem dX4_firstCovering_16 : decode cX4_firstCovering 16 = .ok (.ldc2_w 219, 3) := by decide +kernel
theorem dX4_firstCovering_19 : decode cX4_firstCovering 19 = .ok (.lxor, 1) := by decide +kernel
theorem dX4_firstCovering_20 : decode cX4_firstCovering 20 = .ok (.land, 1) := by decide +kernel
theorem dX4_firstCovering_21 : decode cX4_firstCovering 21 = .ok (.lconst 0, 1) := by decide +kernel
theorem dX4_firstCovering_22 : decode cX4_firstCovering 22 = .ok (.lcmp, 1) := by decide +kernel
theorem dX4_firstCovering_23 : decode cX4_firstCovering 23 = .ok (.ifCond .ne 8, 3) := by decide +kernel
theorem dX4_firstCovering_26 : decode cX4_firstCovering 26 = .ok (.iload_n 3, 1) := by decide +kernel
theorem dX4_firstCovering_27 : decode cX4_firstCovering 27 = .ok (.invokestatic 163, 3) := by decide +kernel
theorem dX4_firstCovering_30 : decode cX4_firstCovering 30 = .ok (.ireturn, 1) := by decide +kernel
theorem dX4_firstCovering_31 : decode cX4_firstCovering 31 = .ok (.iinc 3 1, 3) := by decide +kernel
theorem dX4_firstCovering_34 : decode cX4_firstCovering 34 = .ok (.goto (-32), 3) := by decide +kernel
theorem dX4_firstCovering_37 : decode cX4_firstCovering 37 = .ok (.iconst (-1), 1) := by decide +kernel
theorem dX4_firstCovering_38 : decode cX4_firstCovering 38 = .ok (.ireturn, 1) := by decide +kernel
theorem dX4_firstOfTwoCovering_0 : decode cX4_firstOfTwoCovering 0 = .ok (.iconst 0, 1) := by decide +kernel
theorem dX4_firstOfTwoCovering_1 : decode cX4_firstOfTwoCovering 1 = .ok (.istore_n 3, 1) := by decide +kernel
theorem dX4_firstOfTwoCovering_2 : decode cX4_firstOfTwoCovering 2 = .ok (.iload_n 3, 1) := by decide +kernel
theorem dX4_firstOfTwoCovering_3 : decode cX4_firstOfTwoCovering 3 = .ok (.sipush 256, 3) := by decide +kernel
theorem dX4_firstOfTwoCovering_6 : decode cX4_firstOfTwoCovering 6 = .ok (.if_icmp .ge 47, 3) := by decide +kernel
theorem dX4_firstOfTwoCovering_9 : decode cX4_firstOfTwoCovering 9 = .ok (.lload_n 1, 1) := by decide +kernel
theorem dX4_firstOfTwoCovering_10 : decode cX4_firstOfTwoCovering 10 = .ok (.aload_n 0, 1) := by decide +kernel
theorem dX4_firstOfTwoCovering_11 : decode cX4_firstOfTwoCovering 11 = .ok (.getfield 30, 3) := by decide +kernel
theorem dX4_firstOfTwoCovering_14 : decode cX4_firstOfTwoCovering 14 = .ok (.iload_n 3, 1) := by decide +kernel
theorem dX4_firstOfTwoCovering_15 : decode cX4_firstOfTwoCovering 15 = .ok (.laload, 1) := by decide +kernel
theorem dX4_firstOfTwoCovering_16 : decode cX4_firstOfTwoCovering 16 = .ok (.land, 1) := by decide +kernel
theorem dX4_firstOfTwoCovering_17 : decode cX4_firstOfTwoCovering 17 = .ok (.lconst 0, 1) := by decide +kernel
theorem dX4_firstOfTwoCovering_18 : decode cX4_firstOfTwoCovering 18 = .ok (.lcmp, 1) := by decide +kernel
theorem dX4_firstOfTwoCovering_19 : decode cX4_firstOfTwoCovering 19 = .ok (.ifCond .eq 28, 3) := by decide +kernel
theorem dX4_firstOfTwoCovering_22 : decode cX4_firstOfTwoCovering 22 = .ok (.aload_n 0, 1) := by decide +kernel
theorem dX4_firstOfTwoCovering_23 : decode cX4_firstOfTwoCovering 23 = .ok (.lload_n 1, 1) := by decide +kernel
theorem dX4_firstOfTwoCovering_24 : decode cX4_firstOfTwoCovering 24 = .ok (.aload_n 0, 1) := by decide +kernel
theorem dX4_firstOfTwoCovering_25 : decode cX4_firstOfTwoCovering 25 = .ok (.getfield 30, 3) := by decide +kernel
theorem dX4_firstOfTwoCovering_28 : decode cX4_firstOfTwoCovering 28 = .ok (.iload_n 3, 1) := by decide +kernel
theorem dX4_firstOfTwoCovering_29 : decode cX4_firstOfTwoCovering 29 = .ok (.laload, 1) := by decide +kernel
theorem dX4_firstOfTwoCovering_30 : decode cX4_firstOfTwoCovering 30 = .ok (.ldc2_w 219, 3) := by decide +kernel
theorem dX4_firstOfTwoCovering_33 : decode cX4_firstOfTwoCovering 33 = .ok (.lxor, 1) := by decide +kernel
theorem dX4_firstOfTwoCovering_34 : decode cX4_firstOfTwoCovering 34 = .ok (.land, 1) := by decide +kernel
theorem dX4_firstOfTwoCovering_35 : decode cX4_firstOfTwoCovering 35 = .ok (.invokevirtual 175, 3) := by decide +kernel
theorem dX4_firstOfTwoCovering_38 : decode cX4_firstOfTwoCovering 38 = .ok (.iconst (-1), 1) := by decide +kernel
theorem dX4_firstOfTwoCovering_39 : decode cX4_firstOfTwoCovering 39 = .ok (.if_icmp .eq 8, 3) := by decide +kernel
theorem dX4_firstOfTwoCovering_42 : decode cX4_firstOfTwoCovering 42 = .ok (.iload_n 3, 1) := by decide +kernel
theorem dX4_firstOfTwoCovering_43 : decode cX4_firstOfTwoCovering 43 = .ok (.invokestatic 163, 3) := by decide +kernel
theorem dX4_firstOfTwoCovering_46 : decode cX4_firstOfTwoCovering 46 = .ok (.ireturn, 1) := by decide +kernel
theorem dX4_firstOfTwoCovering_47 : decode cX4_firstOfTwoCovering 47 = .ok (.iinc 3 1, 3) := by decide +kernel
theorem dX4_firstOfTwoCovering_50 : decode cX4_firstOfTwoCovering 50 = .ok (.goto (-48), 3) := by decide +kernel
theorem dX4_firstOfTwoCovering_53 : decode cX4_firstOfTwoCovering 53 = .ok (.iconst (-1), 1) := by decide +kernel
theorem dX4_firstOfTwoCovering_54 : decode cX4_firstOfTwoCovering 54 = .ok (.ireturn, 1) := by decide +kernel
theorem dX4_fits_0 : decode cX4_fits 0 = .ok (.lload_n 2, 1) := by decide +kernel
theorem dX4_fits_1 : decode cX4_fits 1 = .ok (.lload_n 0, 1) := by decide +kernel
theorem dX4_fits_2 : decode cX4_fits 2 = .ok (.ldc2_w 219, 3) := by decide +kernel
theorem dX4_fits_5 : decode cX4_fits 5 = .ok (.lxor, 1) := by decide +kernel
theorem dX4_fits_6 : decode cX4_fits 6 = .ok (.land, 1) := by decide +kernel
theorem dX4_fits_7 : decode cX4_fits 7 = .ok (.lconst 0, 1) := by decide +kernel
theorem dX4_fits_8 : decode cX4_fits 8 = .ok (.lcmp, 1) := by decide +kernel
theorem dX4_fits_9 : decode cX4_fits 9 = .ok (.ifCond .ne 16, 3) := by decide +kernel
theorem dX4_fits_12 : decode cX4_fits 12 = .ok (.lload 4, 2) := by decide +kernel
theorem dX4_fits_14 : decode cX4_fits 14 = .ok (.lload_n 0, 1) := by decide +kernel
theorem dX4_fits_15 : decode cX4_fits 15 = .ok (.land, 1) := by decide +kernel
theorem dX4_fits_16 : decode cX4_fits 16 = .ok (.lconst 0, 1) := by decide +kernel
theorem dX4_fits_17 : decode cX4_fits 17 = .ok (.lcmp, 1) := by decide +kernel
theorem dX4_fits_18 : decode cX4_fits 18 = .ok (.ifCond .ne 7, 3) := by decide +kernel
theorem dX4_fits_21 : decode cX4_fits 21 = .ok (.iconst 1, 1) := by decide +kernel
theorem dX4_fits_22 : decode cX4_fits 22 = .ok (.goto 4, 3) := by decide +kernel
theorem dX4_fits_25 : decode cX4_fits 25 = .ok (.iconst 0, 1) := by decide +kernel
theorem dX4_fits_26 : decode cX4_fits 26 = .ok (.ireturn, 1) := by decide +kernel
theorem dX4_keepFitting_0 : decode cX4_keepFitting 0 = .ok (.aload_n 0, 1) := by decide +kernel
theorem dX4_keepFitting_1 : decode cX4_keepFitting 1 = .ok (.getfield 10, 3) := by decide +kernel
theorem dX4_keepFitting_4 : decode cX4_keepFitting 4 = .ok (.iconst 1, 1) := by decide +kernel
theorem dX4_keepFitting_5 : decode cX4_keepFitting 5 = .ok (.invokevirtual 193, 3) := by decide +kernel
theorem dX4_keepFitting_8 : decode cX4_keepFitting 8 = .ok (.lstore_n 1, 1) := by decide +kernel
theorem dX4_keepFitting_9 : decode cX4_keepFitting 9 = .ok (.aload_n 0, 1) := by decide +kernel
theorem dX4_keepFitting_10 : decode cX4_keepFitting 10 = .ok (.getfield 10, 3) := by decide +kernel
theorem dX4_keepFitting_13 : decode cX4_keepFitting 13 = .ok (.iconst 0, 1) := by decide +kernel
theorem dX4_keepFitting_14 : decode cX4_keepFitting 14 = .ok (.invokevirtual 193, 3) := by decide +kernel
theorem dX4_keepFitting_17 : decode cX4_keepFitting 17 = .ok (.lstore_n 3, 1) := by decide +kernel
theorem dX4_keepFitting_18 : decode cX4_keepFitting 18 = .ok (.iconst 0, 1) := by decide +kernel
theorem dX4_keepFitting_19 : decode cX4_keepFitting 19 = .ok (.istore 5, 2) := by decide +kernel
theorem dX4_keepFitting_21 : decode cX4_keepFitting 21 = .ok (.iconst 0, 1) := by decide +kernel
theorem dX4_keepFitting_22 : decode cX4_keepFitting 22 = .ok (.istore 6, 2) := by decide +kernel
theorem dX4_keepFitting_24 : decode cX4_keepFitting 24 = .ok (.iload 6, 2) := by decide +kernel
theorem dX4_keepFitting_26 : decode cX4_keepFitting 26 = .ok (.sipush 256, 3) := by decide +kernel
theorem dX4_keepFitting_29 : decode cX4_keepFitting 29 = .ok (.if_icmp .ge 41, 3) := by decide +kernel
theorem dX4_keepFitting_32 : decode cX4_keepFitting 32 = .ok (.aload_n 0, 1) := by decide +kernel
theorem dX4_keepFitting_33 : decode cX4_keepFitting 33 = .ok (.getfield 30, 3) := by decide +kernel
theorem dX4_keepFitting_36 : decode cX4_keepFitting 36 = .ok (.iload 6, 2) := by decide +kernel
theorem dX4_keepFitting_38 : decode cX4_keepFitting 38 = .ok (.laload, 1) := by decide +kernel
theorem dX4_keepFitting_39 : decode cX4_keepFitting 39 = .ok (.lload_n 1, 1) := by decide +kernel
theorem dX4_keepFitting_40 : decode cX4_keepFitting 40 = .ok (.lload_n 3, 1) := by decide +kernel
theorem dX4_keepFitting_41 : decode cX4_keepFitting 41 = .ok (.invokestatic 197, 3) := by decide +kernel
theorem dX4_keepFitting_44 : decode cX4_keepFitting 44 = .ok (.ifCond .eq 20, 3) := by decide +kernel
theorem dX4_keepFitting_47 : decode cX4_keepFitting 47 = .ok (.aload_n 0, 1) := by decide +kernel
theorem dX4_keepFitting_48 : decode cX4_keepFitting 48 = .ok (.getfield 30, 3) := by decide +kernel
theorem dX4_keepFitting_51 : decode cX4_keepFitting 51 = .ok (.iload 5, 2) := by decide +kernel
theorem dX4_keepFitting_53 : decode cX4_keepFitting 53 = .ok (.aload_n 0, 1) := by decide +kernel
theorem dX4_keepFitting_54 : decode cX4_keepFitting 54 = .ok (.getfield 30, 3) := by decide +kernel
theorem dX4_keepFitting_57 : decode cX4_keepFitting 57 = .ok (.iload 6, 2) := by decide +kernel
theorem dX4_keepFitting_59 : decode cX4_keepFitting 59 = .ok (.laload, 1) := by decide +kernel
theorem dX4_keepFitting_60 : decode cX4_keepFitting 60 = .ok (.lastore, 1) := by decide +kernel
theorem dX4_keepFitting_61 : decode cX4_keepFitting 61 = .ok (.iinc 5 1, 3) := by decide +kernel
theorem dX4_keepFitting_64 : decode cX4_keepFitting 64 = .ok (.iinc 6 1, 3) := by decide +kernel
theorem dX4_keepFitting_67 : decode cX4_keepFitting 67 = .ok (.goto (-43), 3) := by decide +kernel
theorem dX4_keepFitting_70 : decode cX4_keepFitting 70 = .ok (.iload 5, 2) := by decide +kernel
theorem dX4_keepFitting_72 : decode cX4_keepFitting 72 = .ok (.ireturn, 1) := by decide +kernel
theorem dX4_howManyInk_0 : decode cX4_howManyInk 0 = .ok (.iconst 0, 1) := by decide +kernel
theorem dX4_howManyInk_1 : decode cX4_howManyInk 1 = .ok (.istore_n 3, 1) := by decide +kernel
theorem dX4_howManyInk_2 : decode cX4_howManyInk 2 = .ok (.iconst 0, 1) := by decide +kernel
theorem dX4_howManyInk_3 : decode cX4_howManyInk 3 = .ok (.istore 4, 2) := by decide +kernel
theorem dX4_howManyInk_5 : decode cX4_howManyInk 5 = .ok (.iload 4, 2) := by decide +kernel
theorem dX4_howManyInk_7 : decode cX4_howManyInk 7 = .ok (.iload_n 2, 1) := by decide +kernel
theorem dX4_howManyInk_8 : decode cX4_howManyInk 8 = .ok (.if_icmp .ge 36, 3) := by decide +kernel
theorem dX4_howManyInk_11 : decode cX4_howManyInk 11 = .ok (.iload 4, 2) := by decide +kernel
theorem dX4_howManyInk_13 : decode cX4_howManyInk 13 = .ok (.sipush 256, 3) := by decide +kernel
theorem dX4_howManyInk_16 : decode cX4_howManyInk 16 = .ok (.if_icmp .ge 28, 3) := by decide +kernel
theorem dX4_howManyInk_19 : decode cX4_howManyInk 19 = .ok (.aload_n 0, 1) := by decide +kernel
theorem dX4_howManyInk_20 : decode cX4_howManyInk 20 = .ok (.getfield 30, 3) := by decide +kernel
theorem dX4_howManyInk_23 : decode cX4_howManyInk 23 = .ok (.iload 4, 2) := by decide +kernel
theorem dX4_howManyInk_25 : decode cX4_howManyInk 25 = .ok (.laload, 1) := by decide +kernel
theorem dX4_howManyInk_26 : decode cX4_howManyInk 26 = .ok (.iload_n 1, 1) := by decide +kernel
theorem dX4_howManyInk_27 : decode cX4_howManyInk 27 = .ok (.lushr, 1) := by decide +kernel
theorem dX4_howManyInk_28 : decode cX4_howManyInk 28 = .ok (.lconst 1, 1) := by decide +kernel
theorem dX4_howManyInk_29 : decode cX4_howManyInk 29 = .ok (.land, 1) := by decide +kernel
theorem dX4_howManyInk_30 : decode cX4_howManyInk 30 = .ok (.lconst 1, 1) := by decide +kernel
theorem dX4_howManyInk_31 : decode cX4_howManyInk 31 = .ok (.lcmp, 1) := by decide +kernel
theorem dX4_howManyInk_32 : decode cX4_howManyInk 32 = .ok (.ifCond .ne 6, 3) := by decide +kernel
theorem dX4_howManyInk_35 : decode cX4_howManyInk 35 = .ok (.iinc 3 1, 3) := by decide +kernel
theorem dX4_howManyInk_38 : decode cX4_howManyInk 38 = .ok (.iinc 4 1, 3) := by decide +kernel
theorem dX4_howManyInk_41 : decode cX4_howManyInk 41 = .ok (.goto (-36), 3) := by decide +kernel
theorem dX4_howManyInk_44 : decode cX4_howManyInk 44 = .ok (.iload_n 3, 1) := by decide +kernel
theorem dX4_howManyInk_45 : decode cX4_howManyInk 45 = .ok (.ireturn, 1) := by decide +kernel
theorem dX4_cutAway_0 : decode cX4_cutAway 0 = .ok (.aload_n 0, 1) := by decide +kernel
theorem dX4_cutAway_1 : decode cX4_cutAway 1 = .ok (.getfield 10, 3) := by decide +kernel
theorem dX4_cutAway_4 : decode cX4_cutAway 4 = .ok (.iconst 0, 1) := by decide +kernel
theorem dX4_cutAway_5 : decode cX4_cutAway 5 = .ok (.invokevirtual 193, 3) := by decide +kernel
theorem dX4_cutAway_8 : decode cX4_cutAway 8 = .ok (.lstore 5, 2) := by decide +kernel
theorem dX4_cutAway_10 : decode cX4_cutAway 10 = .ok (.iconst 0, 1) := by decide +kernel
theorem dX4_cutAway_11 : decode cX4_cutAway 11 = .ok (.istore 7, 2) := by decide +kernel
theorem dX4_cutAway_13 : decode cX4_cutAway 13 = .ok (.iconst 0, 1) := by decide +kernel
theorem dX4_cutAway_14 : decode cX4_cutAway 14 = .ok (.istore 8, 2) := by decide +kernel
theorem dX4_cutAway_16 : decode cX4_cutAway 16 = .ok (.iload 8, 2) := by decide +kernel
theorem dX4_cutAway_18 : decode cX4_cutAway 18 = .ok (.bipush 16, 2) := by decide +kernel
theorem dX4_cutAway_20 : decode cX4_cutAway 20 = .ok (.if_icmp .ge 44, 3) := by decide +kernel
theorem dX4_cutAway_23 : decode cX4_cutAway 23 = .ok (.iload_n 1, 1) := by decide +kernel
theorem dX4_cutAway_24 : decode cX4_cutAway 24 = .ok (.iconst 1, 1) := by decide +kernel
theorem dX4_cutAway_25 : decode cX4_cutAway 25 = .ok (.iload 8, 2) := by decide +kernel
theorem dX4_cutAway_27 : decode cX4_cutAway 27 = .ok (.ishl, 1) := by decide +kernel
theorem dX4_cutAway_28 : decode cX4_cutAway 28 = .ok (.iand, 1) := by decide +kernel
theorem dX4_cutAway_29 : decode cX4_cutAway 29 = .ok (.istore 9, 2) := by decide +kernel
theorem dX4_cutAway_31 : decode cX4_cutAway 31 = .ok (.iload 9, 2) := by decide +kernel
theorem dX4_cutAway_33 : decode cX4_cutAway 33 = .ok (.iload 4, 2) := by decide +kernel
theorem dX4_cutAway_35 : decode cX4_cutAway 35 = .ok (.invokestatic 126, 3) := by decide +kernel
theorem dX4_cutAway_38 : decode cX4_cutAway 38 = .ok (.iload_n 2, 1) := by decide +kernel
theorem dX4_cutAway_39 : decode cX4_cutAway 39 = .ok (.iload_n 3, 1) := by decide +kernel
theorem dX4_cutAway_40 : decode cX4_cutAway 40 = .ok (.invokestatic 216, 3) := by decide +kernel
theorem dX4_cutAway_43 : decode cX4_cutAway 43 = .ok (.lload 5, 2) := by decide +kernel
theorem dX4_cutAway_45 : decode cX4_cutAway 45 = .ok (.land, 1) := by decide +kernel
theorem dX4_cutAway_46 : decode cX4_cutAway 46 = .ok (.lconst 0, 1) := by decide +kernel
theorem dX4_cutAway_47 : decode cX4_cutAway 47 = .ok (.lcmp, 1) := by decide +kernel
theorem dX4_cutAway_48 : decode cX4_cutAway 48 = .ok (.ifCond .eq 10, 3) := by decide +kernel
theorem dX4_cutAway_51 : decode cX4_cutAway 51 = .ok (.iload 7, 2) := by decide +kernel
theorem dX4_cutAway_53 : decode cX4_cutAway 53 = .ok (.iload 9, 2) := by decide +kernel
theorem dX4_cutAway_55 : decode cX4_cutAway 55 = .ok (.ior, 1) := by decide +kernel
theorem dX4_cutAway_56 : decode cX4_cutAway 56 = .ok (.istore 7, 2) := by decide +kernel
theorem dX4_cutAway_58 : decode cX4_cutAway 58 = .ok (.iinc 8 1, 3) := by decide +kernel
theorem dX4_cutAway_61 : decode cX4_cutAway 61 = .ok (.goto (-45), 3) := by decide +kernel
theorem dX4_cutAway_64 : decode cX4_cutAway 64 = .ok (.iload 7, 2) := by decide +kernel
theorem dX4_cutAway_66 : decode cX4_cutAway 66 = .ok (.ireturn, 1) := by decide +kernel
theorem dX4_setFraction_0 : decode cX4_setFraction 0 = .ok (.lload_n 3, 1) := by decide +kernel
theorem dX4_setFraction_1 : decode cX4_setFraction 1 = .ok (.lstore 5, 2) := by decide +kernel
theorem dX4_setFraction_3 : decode cX4_setFraction 3 = .ok (.lload_n 1, 1) := by decide +kernel
theorem dX4_setFraction_4 : decode cX4_setFraction 4 = .ok (.lstore 7, 2) := by decide +kernel
theorem dX4_setFraction_6 : decode cX4_setFraction 6 = .ok (.iconst 0, 1) := by decide +kernel
theorem dX4_setFraction_7 : decode cX4_setFraction 7 = .ok (.istore 9, 2) := by decide +kernel
theorem dX4_setFraction_9 : decode cX4_setFraction 9 = .ok (.iload 9, 2) := by decide +kernel
theorem dX4_setFraction_11 : decode cX4_setFraction 11 = .ok (.bipush 100, 2) := by decide +kernel
theorem dX4_setFraction_13 : decode cX4_setFraction 13 = .ok (.if_icmp .ge 31, 3) := by decide +kernel
theorem dX4_setFraction_16 : decode cX4_setFraction 16 = .ok (.lload 7, 2) := by decide +kernel
theorem dX4_setFraction_18 : decode cX4_setFraction 18 = .ok (.lconst 0, 1) := by decide +kernel
theorem dX4_setFraction_19 : decode cX4_setFraction 19 = .ok (.lcmp, 1) := by decide +kernel
theorem dX4_setFraction_20 : decode cX4_setFraction 20 = .ok (.ifCond .le 24, 3) := by decide +kernel
theorem dX4_setFraction_23 : decode cX4_setFraction 23 = .ok (.lload 5, 2) := by decide +kernel
theorem dX4_setFraction_25 : decode cX4_setFraction 25 = .ok (.lload 7, 2) := by decide +kernel
theorem dX4_setFraction_27 : decode cX4_setFraction 27 = .ok (.lrem, 1) := by decide +kernel
theorem dX4_setFraction_28 : decode cX4_setFraction 28 = .ok (.lstore 10, 2) := by decide +kernel
theorem dX4_setFraction_30 : decode cX4_setFraction 30 = .ok (.lload 7, 2) := by decide +kernel
theorem dX4_setFraction_32 : decode cX4_setFraction 32 = .ok (.lstore 5, 2) := by decide +kernel
theorem dX4_setFraction_34 : decode cX4_setFraction 34 = .ok (.lload 10, 2) := by decide +kernel
theorem dX4_setFraction_36 : decode cX4_setFraction 36 = .ok (.lstore 7, 2) := by decide +kernel
theorem dX4_setFraction_38 : decode cX4_setFraction 38 = .ok (.iinc 9 1, 3) := by decide +kernel
theorem dX4_setFraction_41 : decode cX4_setFraction 41 = .ok (.goto (-32), 3) := by decide +kernel
theorem dX4_setFraction_44 : decode cX4_setFraction 44 = .ok (.lload 5, 2) := by decide +kernel
theorem dX4_setFraction_46 : decode cX4_setFraction 46 = .ok (.lconst 0, 1) := by decide +kernel
theorem dX4_setFraction_47 : decode cX4_setFraction 47 = .ok (.lcmp, 1) := by decide +kernel
theorem dX4_setFraction_48 : decode cX4_setFraction 48 = .ok (.ifCond .le 19, 3) := by decide +kernel
theorem dX4_setFraction_51 : decode cX4_setFraction 51 = .ok (.aload_n 0, 1) := by decide +kernel
theorem dX4_setFraction_52 : decode cX4_setFraction 52 = .ok (.lload_n 1, 1) := by decide +kernel
theorem dX4_setFraction_53 : decode cX4_setFraction 53 = .ok (.lload 5, 2) := by decide +kernel
theorem dX4_setFraction_55 : decode cX4_setFraction 55 = .ok (.ldiv, 1) := by decide +kernel
theorem dX4_setFraction_56 : decode cX4_setFraction 56 = .ok (.putfield 34, 3) := by decide +kernel
theorem dX4_setFraction_59 : decode cX4_setFraction 59 = .ok (.aload_n 0, 1) := by decide +kernel
theorem dX4_setFraction_60 : decode cX4_setFraction 60 = .ok (.lload_n 3, 1) := by decide +kernel
theorem dX4_setFraction_61 : decode cX4_setFraction 61 = .ok (.lload 5, 2) := by decide +kernel
theorem dX4_setFraction_63 : decode cX4_setFraction 63 = .ok (.ldiv, 1) := by decide +kernel
theorem dX4_setFraction_64 : decode cX4_setFraction 64 = .ok (.putfield 38, 3) := by decide +kernel
theorem dX4_setFraction_67 : decode cX4_setFraction 67 = .ok (.return_, 1) := by decide +kernel
theorem dX4_nextNumber_0 : decode cX4_nextNumber 0 = .ok (.lload_n 0, 1) := by decide +kernel
theorem dX4_nextNumber_1 : decode cX4_nextNumber 1 = .ok (.ldc2_w 250, 3) := by decide +kernel
theorem dX4_nextNumber_4 : decode cX4_nextNumber 4 = .ok (.lmul, 1) := by decide +kernel
theorem dX4_nextNumber_5 : decode cX4_nextNumber 5 = .ok (.ldc2_w 252, 3) := by decide +kernel
theorem dX4_nextNumber_8 : decode cX4_nextNumber 8 = .ok (.ladd, 1) := by decide +kernel
theorem dX4_nextNumber_9 : decode cX4_nextNumber 9 = .ok (.ldc2_w 254, 3) := by decide +kernel
theorem dX4_nextNumber_12 : decode cX4_nextNumber 12 = .ok (.lrem, 1) := by decide +kernel
theorem dX4_nextNumber_13 : decode cX4_nextNumber 13 = .ok (.lreturn, 1) := by decide +kernel
theorem dX4_drawn_0 : decode cX4_drawn 0 = .ok (.iload_n 2, 1) := by decide +kernel
theorem dX4_drawn_1 : decode cX4_drawn 1 = .ok (.ifCond .ge 7, 3) := by decide +kernel
theorem dX4_drawn_4 : decode cX4_drawn 4 = .ok (.iconst 0, 1) := by decide +kernel
theorem dX4_drawn_5 : decode cX4_drawn 5 = .ok (.goto 14, 3) := by decide +kernel
theorem dX4_drawn_8 : decode cX4_drawn 8 = .ok (.lload_n 0, 1) := by decide +kernel
theorem dX4_drawn_9 : decode cX4_drawn 9 = .ok (.ldc2_w 256, 3) := by decide +kernel
theorem dX4_drawn_12 : decode cX4_drawn 12 = .ok (.ldiv, 1) := by decide +kernel
theorem dX4_drawn_13 : decode cX4_drawn 13 = .ok (.iload_n 2, 1) := by decide +kernel
theorem dX4_drawn_14 : decode cX4_drawn 14 = .ok (.iconst 1, 1) := by decide +kernel
theorem dX4_drawn_15 : decode cX4_drawn 15 = .ok (.iadd, 1) := by decide +kernel
theorem dX4_drawn_16 : decode cX4_drawn 16 = .ok (.i2l, 1) := by decide +kernel
theorem dX4_drawn_17 : decode cX4_drawn 17 = .ok (.lrem, 1) := by decide +kernel
theorem dX4_drawn_18 : decode cX4_drawn 18 = .ok (.l2i, 1) := by decide +kernel
theorem dX4_drawn_19 : decode cX4_drawn 19 = .ok (.ireturn, 1) := by decide +kernel
theorem dX4_howMany_0 : decode cX4_howMany 0 = .ok (.iload_n 1, 1) := by decide +kernel
theorem dX4_howMany_1 : decode cX4_howMany 1 = .ok (.tableswitch 78 0 4 #[35, 46, 54, 62, 70], 35) := by decide +kernel
theorem dX4_howMany_36 : decode cX4_howMany 36 = .ok (.aload_n 0, 1) := by decide +kernel
theorem dX4_howMany_37 : decode cX4_howMany 37 = .ok (.getfield 10, 3) := by decide +kernel
theorem dX4_howMany_40 : decode cX4_howMany 40 = .ok (.invokevirtual 59, 3) := by decide +kernel
theorem dX4_howMany_43 : decode cX4_howMany 43 = .ok (.invokestatic 63, 3) := by decide +kernel
theorem dX4_howMany_46 : decode cX4_howMany 46 = .ok (.ireturn, 1) := by decide +kernel
theorem dX4_howMany_47 : decode cX4_howMany 47 = .ok (.aload_n 0, 1) := by decide +kernel
theorem dX4_howMany_48 : decode cX4_howMany 48 = .ok (.getfield 10, 3) := by decide +kernel
theorem dX4_howMany_51 : decode cX4_howMany 51 = .ok (.getfield 81, 3) := by decide +kernel
theorem dX4_howMany_54 : decode cX4_howMany 54 = .ok (.ireturn, 1) := by decide +kernel
theorem dX4_howMany_55 : decode cX4_howMany 55 = .ok (.aload_n 0, 1) := by decide +kernel
theorem dX4_howMany_56 : decode cX4_howMany 56 = .ok (.getfield 10, 3) := by decide +kernel
theorem dX4_howMany_59 : decode cX4_howMany 59 = .ok (.getfield 166, 3) := by decide +kernel
theorem dX4_howMany_62 : decode cX4_howMany 62 = .ok (.ireturn, 1) := by decide +kernel
theorem dX4_howMany_63 : decode cX4_howMany 63 = .ok (.aload_n 0, 1) := by decide +kernel
theorem dX4_howMany_64 : decode cX4_howMany 64 = .ok (.getfield 10, 3) := by decide +kernel
theorem dX4_howMany_67 : decode cX4_howMany 67 = .ok (.getfield 184, 3) := by decide +kernel
theorem dX4_howMany_70 : decode cX4_howMany 70 = .ok (.ireturn, 1) := by decide +kernel
theorem dX4_howMany_71 : decode cX4_howMany 71 = .ok (.aload_n 0, 1) := by decide +kernel
theorem dX4_howMany_72 : decode cX4_howMany 72 = .ok (.getfield 10, 3) := by decide +kernel
theorem dX4_howMany_75 : decode cX4_howMany 75 = .ok (.getfield 78, 3) := by decide +kernel
theorem dX4_howMany_78 : decode cX4_howMany 78 = .ok (.ireturn, 1) := by decide +kernel
theorem dX4_howMany_79 : decode cX4_howMany 79 = .ok (.aload_n 0, 1) := by decide +kernel
theorem dX4_howMany_80 : decode cX4_howMany 80 = .ok (.getfield 26, 3) := by decide +kernel
theorem dX4_howMany_83 : decode cX4_howMany 83 = .ok (.getfield 102, 3) := by decide +kernel
theorem dX4_howMany_86 : decode cX4_howMany 86 = .ok (.ireturn, 1) := by decide +kernel
theorem dX5_init_0 : decode cX5_init 0 = .ok (.aload_n 0, 1) := by decide +kernel
theorem dX5_init_1 : decode cX5_init 1 = .ok (.invokespecial 1, 3) := by decide +kernel
theorem dX5_init_4 : decode cX5_init 4 = .ok (.aload_n 0, 1) := by decide +kernel
theorem dX5_init_5 : decode cX5_init 5 = .ok (.bipush 99, 2) := by decide +kernel
theorem dX5_init_7 : decode cX5_init 7 = .ok (.newarray .int, 2) := by decide +kernel
theorem dX5_init_9 : decode cX5_init 9 = .ok (.putfield 7, 3) := by decide +kernel
theorem dX5_init_12 : decode cX5_init 12 = .ok (.aload_n 0, 1) := by decide +kernel
theorem dX5_init_13 : decode cX5_init 13 = .ok (.lconst 1, 1) := by decide +kernel
theorem dX5_init_14 : decode cX5_init 14 = .ok (.putfield 13, 3) := by decide +kernel
theorem dX5_init_17 : decode cX5_init 17 = .ok (.aload_n 0, 1) := by decide +kernel
theorem dX5_init_18 : decode cX5_init 18 = .ok (.iconst 3, 1) := by decide +kernel
theorem dX5_init_19 : decode cX5_init 19 = .ok (.newarray .int, 2) := by decide +kernel
theorem dX5_init_21 : decode cX5_init 21 = .ok (.putfield 17, 3) := by decide +kernel
theorem dX5_init_24 : decode cX5_init 24 = .ok (.aload_n 0, 1) := by decide +kernel
theorem dX5_init_25 : decode cX5_init 25 = .ok (.bipush 64, 2) := by decide +kernel
theorem dX5_init_27 : decode cX5_init 27 = .ok (.newarray .int, 2) := by decide +kernel
theorem dX5_init_29 : decode cX5_init 29 = .ok (.putfield 20, 3) := by decide +kernel
theorem dX5_init_32 : decode cX5_init 32 = .ok (.aload_n 0, 1) := by decide +kernel
theorem dX5_init_33 : decode cX5_init 33 = .ok (.sipush 520, 3) := by decide +kernel
theorem dX5_init_36 : decode cX5_init 36 = .ok (.newarray .int, 2) := by decide +kernel
theorem dX5_init_38 : decode cX5_init 38 = .ok (.putfield 23, 3) := by decide +kernel
theorem dX5_init_41 : decode cX5_init 41 = .ok (.aload_n 0, 1) := by decide +kernel
theorem dX5_init_42 : decode cX5_init 42 = .ok (.sipush 150, 3) := by decide +kernel
theorem dX5_init_45 : decode cX5_init 45 = .ok (.newarray .int, 2) := by decide +kernel
theorem dX5_init_47 : decode cX5_init 47 = .ok (.putfield 26, 3) := by decide +kernel
theorem dX5_init_50 : decode cX5_init 50 = .ok (.aload_n 0, 1) := by decide +kernel
theorem dX5_init_51 : decode cX5_init 51 = .ok (.iconst 5, 1) := by decide +kernel
theorem dX5_init_52 : decode cX5_init 52 = .ok (.newarray .int, 2) := by decide +kernel
theorem dX5_init_54 : decode cX5_init 54 = .ok (.putfield 29, 3) := by decide +kernel
theorem dX5_init_57 : decode cX5_init 57 = .ok (.aload_n 0, 1) := by decide +kernel
theorem dX5_init_58 : decode cX5_init 58 = .ok (.sipush 256, 3) := by decide +kernel
theorem dX5_init_61 : decode cX5_init 61 = .ok (.newarray .int, 2) := by decide +kernel
theorem dX5_init_63 : decode cX5_init 63 = .ok (.putfield 32, 3) := by decide +kernel
theorem dX5_init_66 : decode cX5_init 66 = .ok (.aload_n 0, 1) := by decide +kernel
theorem dX5_init_67 : decode cX5_init 67 = .ok (.bipush 64, 2) := by decide +kernel
theorem dX5_init_69 : decode cX5_init 69 = .ok (.newarray .int, 2) := by decide +kernel
theorem dX5_init_71 : decode cX5_init 71 = .ok (.putfield 35, 3) := by decide +kernel
theorem dX5_init_74 : decode cX5_init 74 = .ok (.aload_n 0, 1) := by decide +kernel
theorem dX5_init_75 : decode cX5_init 75 = .ok (.bipush 99, 2) := by decide +kernel
theorem dX5_init_77 : decode cX5_init 77 = .ok (.newarray .int, 2) := by decide +kernel
theorem dX5_init_79 : decode cX5_init 79 = .ok (.putfield 38, 3) := by decide +kernel
theorem dX5_init_82 : decode cX5_init 82 = .ok (.aload_n 0, 1) := by decide +kernel
theorem dX5_init_83 : decode cX5_init 83 = .ok (.iconst 2, 1) := by decide +kernel
theorem dX5_init_84 : decode cX5_init 84 = .ok (.newarray .boolean, 2) := by decide +kernel
theorem dX5_init_86 : decode cX5_init 86 = .ok (.putfield 41, 3) := by decide +kernel
theorem dX5_init_89 : decode cX5_init 89 = .ok (.aload_n 0, 1) := by decide +kernel
theorem dX5_init_90 : decode cX5_init 90 = .ok (.sipush 198, 3) := by decide +kernel
theorem dX5_init_93 : decode cX5_init 93 = .ok (.newarray .int, 2) := by decide +kernel
theorem dX5_init_95 : decode cX5_init 95 = .ok (.putfield 45, 3) := by decide +kernel
theorem dX5_init_98 : decode cX5_init 98 = .ok (.aload_n 0, 1) := by decide +kernel
theorem dX5_init_99 : decode cX5_init 99 = .ok (.sipush 1040, 3) := by decide +kernel
theorem dX5_init_102 : decode cX5_init 102 = .ok (.newarray .int, 2) := by decide +kernel
theorem dX5_init_104 : decode cX5_init 104 = .ok (.putfield 48, 3) := by decide +kernel
theorem dX5_init_107 : decode cX5_init 107 = .ok (.aload_n 0, 1) := by decide +kernel
theorem dX5_init_108 : decode cX5_init 108 = .ok (.iconst 2, 1) := by decide +kernel
theorem dX5_init_109 : decode cX5_init 109 = .ok (.newarray .int, 2) := by decide +kernel
theorem dX5_init_111 : decode cX5_init 111 = .ok (.putfield 51, 3) := by decide +kernel
theorem dX5_init_114 : decode cX5_init 114 = .ok (.return_, 1) := by decide +kernel
theorem dX5_in_0 : decode cX5_in 0 = .ok (.lload_n 0, 1) := by decide +kernel
theorem dX5_in_1 : decode cX5_in 1 = .ok (.lload_n 2, 1) := by decide +kernel
theorem dX5_in_2 : decode cX5_in 2 = .ok (.lcmp, 1) := by decide +kernel
theorem dX5_in_3 : decode cX5_in 3 = .ok (.ifCond .lt 14, 3) := by decide +kernel
theorem dX5_in_6 : decode cX5_in 6 = .ok (.lload_n 0, 1) := by decide +kernel
theorem dX5_in_7 : decode cX5_in 7 = .ok (.lload 4, 2) := by decide +kernel
theorem dX5_in_9 : decode cX5_in 9 = .ok (.lcmp, 1) := by decide +kernel
theorem dX5_in_10 : decode cX5_in 10 = .ok (.ifCond .gt 7, 3) := by decide +kernel
theorem dX5_in_13 : decode cX5_in 13 = .ok (.iconst 1, 1) := by decide +kernel
theorem dX5_in_14 : decode cX5_in 14 = .ok (.goto 4, 3) := by decide +kernel
theorem dX5_in_17 : decode cX5_in 17 = .ok (.iconst 0, 1) := by decide +kernel
theorem dX5_in_18 : decode cX5_in 18 = .ok (.ireturn, 1) := by decide +kernel
theorem dX5_has_0 : decode cX5_has 0 = .ok (.iload_n 0, 1) := by decide +kernel
theorem dX5_has_1 : decode cX5_has 1 = .ok (.iload_n 1, 1) := by decide +kernel
theorem dX5_has_2 : decode cX5_has 2 = .ok (.ishr, 1) := by decide +kernel
theorem dX5_has_3 : decode cX5_has 3 = .ok (.iconst 1, 1) := by decide +kernel
theorem dX5_has_4 : decode cX5_has 4 = .ok (.iand, 1) := by decide +kernel
theorem dX5_has_5 : decode cX5_has 5 = .ok (.iconst 1, 1) := by decide +kernel
theorem dX5_has_6 : decode cX5_has 6 = .ok (.if_icmp .ne 7, 3) := by decide +kernel
theorem dX5_has_9 : decode cX5_has 9 = .ok (.iconst 1, 1) := by decide +kernel
theorem dX5_has_10 : decode cX5_has 10 = .ok (.goto 4, 3) := by decide +kernel
theorem dX5_has_13 : decode cX5_has 13 = .ok (.iconst 0, 1) := by decide +kernel
theorem dX5_has_14 : decode cX5_has 14 = .ok (.ireturn, 1) := by decide +kernel
theorem dX5_bad_0 : decode cX5_bad 0 = .ok (.aload_n 0, 1) := by decide +kernel
theorem dX5_bad_1 : decode cX5_bad 1 = .ok (.getfield 17, 3) := by decide +kernel
theorem dX5_bad_4 : decode cX5_bad 4 = .ok (.iconst 0, 1) := by decide +kernel
theorem dX5_bad_5 : decode cX5_bad 5 = .ok (.dup2, 1) := by decide +kernel
theorem dX5_bad_6 : decode cX5_bad 6 = .ok (.iaload, 1) := by decide +kernel
theorem dX5_bad_7 : decode cX5_bad 7 = .ok (.iconst 1, 1) := by decide +kernel
theorem dX5_bad_8 : decode cX5_bad 8 = .ok (.iadd, 1) := by decide +kernel
theorem dX5_bad_9 : decode cX5_bad 9 = .ok (.iastore, 1) := by decide +kernel
theorem dX5_bad_10 : decode cX5_bad 10 = .ok (.bipush (-2), 2) := by decide +kernel
theorem dX5_bad_12 : decode cX5_bad 12 = .ok (.ireturn, 1) := by decide +kernel
theorem dX5_no_0 : decode cX5_no 0 = .ok (.aload_n 0, 1) := by decide +kernel
theorem dX5_no_1 : decode cX5_no 1 = .ok (.getfield 17, 3) := by decide +kernel
theorem dX5_no_4 : decode cX5_no 4 = .ok (.iconst 1, 1) := by decide +kernel
theorem dX5_no_5 : decode cX5_no 5 = .ok (.dup2, 1) := by decide +kernel
theorem dX5_no_6 : decode cX5_no 6 = .ok (.iaload, 1) := by decide +kernel
theorem dX5_no_7 : decode cX5_no 7 = .ok (.iconst 1, 1) := by decide +kernel
theorem dX5_no_8 : decode cX5_no 8 = .ok (.iadd, 1) := by decide +kernel
theorem dX5_no_9 : decode cX5_no 9 = .ok (.iastore, 1) := by decide +kernel
theorem dX5_no_10 : decode cX5_no 10 = .ok (.bipush (-3), 2) := by decide +kernel
theorem dX5_no_12 : decode cX5_no 12 = .ok (.ireturn, 1) := by decide +kernel
theorem dX5_full_0 : decode cX5_full 0 = .ok (.aload_n 0, 1) := by decide +kernel
theorem dX5_full_1 : decode cX5_full 1 = .ok (.getfield 17, 3) := by decide +kernel
theorem dX5_full_4 : decode cX5_full 4 = .ok (.iconst 2, 1) := by decide +kernel
theorem dX5_full_5 : decode cX5_full 5 = .ok (.dup2, 1) := by decide +kernel
theorem dX5_full_6 : decode cX5_full 6 = .ok (.iaload, 1) := by decide +kernel
theorem dX5_full_7 : decode cX5_full 7 = .ok (.iconst 1, 1) := by decide +kernel
theorem dX5_full_8 : decode cX5_full 8 = .ok (.iadd, 1) := by decide +kernel
theorem dX5_full_9 : decode cX5_full 9 = .ok (.iastore, 1) := by decide +kernel
theorem dX5_full_10 : decode cX5_full 10 = .ok (.bipush (-4), 2) := by decide +kernel
theorem dX5_full_12 : decode cX5_full 12 = .ok (.ireturn, 1) := by decide +kernel
theorem dX5_isWhat_0 : decode cX5_isWhat 0 = .ok (.iload_n 0, 1) := by decide +kernel
theorem dX5_isWhat_1 : decode cX5_isWhat 1 = .ok (.i2l, 1) := by decide +kernel
theorem dX5_isWhat_2 : decode cX5_isWhat 2 = .ok (.lconst 0, 1) := by decide +kernel
theorem dX5_isWhat_3 : decode cX5_isWhat 3 = .ok (.lconst 1, 1) := by decide +kernel
theorem dX5_isWhat_4 : decode cX5_isWhat 4 = .ok (.invokestatic 54, 3) := by decide +kernel
theorem dX5_isWhat_7 : decode cX5_isWhat 7 = .ok (.ireturn, 1) := by decide +kernel
theorem dX5_isPlace_0 : decode cX5_isPlace 0 = .ok (.iload_n 0, 1) := by decide +kernel
theorem dX5_isPlace_1 : decode cX5_isPlace 1 = .ok (.i2l, 1) := by decide +kernel
theorem dX5_isPlace_2 : decode cX5_isPlace 2 = .ok (.lconst 0, 1) := by decide +kernel
theorem dX5_isPlace_3 : decode cX5_isPlace 3 = .ok (.ldc2_w 58, 3) := by decide +kernel
theorem dX5_isPlace_6 : decode cX5_isPlace 6 = .ok (.invokestatic 54, 3) := by decide +kernel
theorem dX5_isPlace_9 : decode cX5_isPlace 9 = .ok (.ifCond .eq 19, 3) := by decide +kernel
theorem dX5_isPlace_12 : decode cX5_isPlace 12 = .ok (.iload_n 1, 1) := by decide +kernel
theorem dX5_isPlace_13 : decode cX5_isPlace 13 = .ok (.i2l, 1) := by decide +kernel
theorem dX5_isPlace_14 : decode cX5_isPlace 14 = .ok (.lconst 0, 1) := by decide +kernel
theorem dX5_isPlace_15 : decode cX5_isPlace 15 = .ok (.ldc2_w 58, 3) := by decide +kernel
theorem dX5_isPlace_18 : decode cX5_isPlace 18 = .ok (.invokestatic 54, 3) := by decide +kernel
theorem dX5_isPlace_21 : decode cX5_isPlace 21 = .ok (.ifCond .eq 7, 3) := by decide +kernel
theorem dX5_isPlace_24 : decode cX5_isPlace 24 = .ok (.iconst 1, 1) := by decide +kernel
theorem dX5_isPlace_25 : decode cX5_isPlace 25 = .ok (.goto 4, 3) := by decide +kernel
theorem dX5_isPlace_28 : decode cX5_isPlace 28 = .ok (.iconst 0, 1) := by decide +kernel
theorem dX5_isPlace_29 : decode cX5_isPlace 29 = .ok (.ireturn, 1) := by decide +kernel
theorem dX5_isPrint_0 : decode cX5_isPrint 0 = .ok (.iload_n 0, 1) := by decide +kernel
theorem dX5_isPrint_1 : decode cX5_isPrint 1 = .ok (.i2l, 1) := by decide +kernel
theorem dX5_isPrint_2 : decode cX5_isPrint 2 = .ok (.lconst 0, 1) := by decide +kernel
theorem dX5_isPrint_3 : decode cX5_isPrint 3 = .ok (.ldc2_w 60, 3) := by decide +kernel
theorem dX5_isPrint_6 : decode cX5_isPrint 6 = .ok (.invokestatic 54, 3) := by decide +kernel
theorem dX5_isPrint_9 : decode cX5_isPrint 9 = .ok (.ifCond .eq 35, 3) := by decide +kernel
theorem dX5_isPrint_12 : decode cX5_isPrint 12 = .ok (.iload_n 1, 1) := by decide +kernel
theorem dX5_isPrint_13 : decode cX5_isPrint 13 = .ok (.invokestatic 62, 3) := by decide +kernel
theorem dX5_isPrint_16 : decode cX5_isPrint 16 = .ok (.ifCond .eq 28, 3) := by decide +kernel
theorem dX5_isPrint_19 : decode cX5_isPrint 19 = .ok (.iload_n 2, 1) := by decide +kernel
theorem dX5_isPrint_20 : decode cX5_isPrint 20 = .ok (.iload_n 3, 1) := by decide +kernel
theorem dX5_isPrint_21 : decode cX5_isPrint 21 = .ok (.invokestatic 66, 3) := by decide +kernel
theorem dX5_isPrint_24 : decode cX5_isPrint 24 = .ok (.ifCond .eq 20, 3) := by decide +kernel
theorem dX5_isPrint_27 : decode cX5_isPrint 27 = .ok (.iload 4, 2) := by decide +kernel
theorem dX5_isPrint_29 : decode cX5_isPrint 29 = .ok (.i2l, 1) := by decide +kernel
theorem dX5_isPrint_30 : decode cX5_isPrint 30 = .ok (.lconst 0, 1) := by decide +kernel
theorem dX5_isPrint_31 : decode cX5_isPrint 31 = .ok (.ldc2_w 70, 3) := by decide +kernel
theorem dX5_isPrint_34 : decode cX5_isPrint 34 = .ok (.invokestatic 54, 3) := by decide +kernel
theorem dX5_isPrint_37 : decode cX5_isPrint 37 = .ok (.ifCond .eq 7, 3) := by decide +kernel
theorem dX5_isPrint_40 : decode cX5_isPrint 40 = .ok (.iconst 1, 1) := by decide +kernel
theorem dX5_isPrint_41 : decode cX5_isPrint 41 = .ok (.goto 4, 3) := by decide +kernel
theorem dX5_isPrint_44 : decode cX5_isPrint 44 = .ok (.iconst 0, 1) := by decide +kernel
theorem dX5_isPrint_45 : decode cX5_isPrint 45 = .ok (.ireturn, 1) := by decide +kernel
theorem dX5_lands_0 : decode cX5_lands 0 = .ok (.iconst 3, 1) := by decide +kernel
theorem dX5_lands_1 : decode cX5_lands 1 = .ok (.iload_n 0, 1) := by decide +kernel
theorem dX5_lands_2 : decode cX5_lands 2 = .ok (.iconst 4, 1) := by decide +kernel
theorem dX5_lands_3 : decode cX5_lands 3 = .ok (.irem, 1) := by decide +kernel
theorem dX5_lands_4 : decode cX5_lands 4 = .ok (.isub, 1) := by decide +kernel
theorem dX5_lands_5 : decode cX5_lands 5 = .ok (.istore_n 2, 1) := by decide +kernel
theorem dX5_lands_6 : decode cX5_lands 6 = .ok (.iload_n 0, 1) := by decide +kernel
theorem dX5_lands_7 : decode cX5_lands 7 = .ok (.iconst 4, 1) := by decide +kernel
theorem dX5_lands_8 : decode cX5_lands 8 = .ok (.idiv, 1) := by decide +kernel
theorem dX5_lands_9 : decode cX5_lands 9 = .ok (.istore_n 3, 1) := by decide +kernel
theorem dX5_lands_10 : decode cX5_lands 10 = .ok (.iconst 0, 1) := by decide +kernel
theorem dX5_lands_11 : decode cX5_lands 11 = .ok (.istore 4, 2) := by decide +kernel
theorem dX5_lands_13 : decode cX5_lands 13 = .ok (.iload 4, 2) := by decide +kernel
theorem dX5_lands_15 : decode cX5_lands 15 = .ok (.iload_n 1, 1) := by decide +kernel
end
section
theorem dX5_lands_16 : decode cX5_lands 16 = .ok (.if_icmp .ge 19, 3) := by decide +kernel
theorem dX5_lands_19 : decode cX5_lands 19 = .ok (.iconst 3, 1) := by decide +kernel
theorem dX5_lands_20 : decode cX5_lands 20 = .ok (.iload_n 3, 1) := by decide +kernel
theorem dX5_lands_21 : decode cX5_lands 21 = .ok (.isub, 1) := by decide +kernel
theorem dX5_lands_22 : decode cX5_lands 22 = .ok (.istore 5, 2) := by decide +kernel
theorem dX5_lands_24 : decode cX5_lands 24 = .ok (.iload_n 2, 1) := by decide +kernel
theorem dX5_lands_25 : decode cX5_lands 25 = .ok (.istore_n 3, 1) := by decide +kernel
theorem dX5_lands_26 : decode cX5_lands 26 = .ok (.iload 5, 2) := by decide +kernel
theorem dX5_lands_28 : decode cX5_lands 28 = .ok (.istore_n 2, 1) := by decide +kernel
theorem dX5_lands_29 : decode cX5_lands 29 = .ok (.iinc 4 1, 3) := by decide +kernel
theorem dX5_lands_32 : decode cX5_lands 32 = .ok (.goto (-19), 3) := by decide +kernel
theorem dX5_lands_35 : decode cX5_lands 35 = .ok (.iconst 4, 1) := by decide +kernel
theorem dX5_lands_36 : decode cX5_lands 36 = .ok (.iload_n 3, 1) := by decide +kernel
theorem dX5_lands_37 : decode cX5_lands 37 = .ok (.imul, 1) := by decide +kernel
theorem dX5_lands_38 : decode cX5_lands 38 = .ok (.iload_n 2, 1) := by decide +kernel
theorem dX5_lands_39 : decode cX5_lands 39 = .ok (.iadd, 1) := by decide +kernel
theorem dX5_lands_40 : decode cX5_lands 40 = .ok (.ireturn, 1) := by decide +kernel
theorem dX5_looksOf_0 : decode cX5_looksOf 0 = .ok (.iconst 0, 1) := by decide +kernel
theorem dX5_looksOf_1 : decode cX5_looksOf 1 = .ok (.istore_n 3, 1) := by decide +kernel
theorem dX5_looksOf_2 : decode cX5_looksOf 2 = .ok (.iconst 0, 1) := by decide +kernel
theorem dX5_looksOf_3 : decode cX5_looksOf 3 = .ok (.istore 4, 2) := by decide +kernel
theorem dX5_looksOf_5 : decode cX5_looksOf 5 = .ok (.iload 4, 2) := by decide +kernel
theorem dX5_looksOf_7 : decode cX5_looksOf 7 = .ok (.bipush 16, 2) := by decide +kernel
theorem dX5_looksOf_9 : decode cX5_looksOf 9 = .ok (.if_icmp .ge 41, 3) := by decide +kernel
theorem dX5_looksOf_12 : decode cX5_looksOf 12 = .ok (.iload_n 3, 1) := by decide +kernel
theorem dX5_looksOf_13 : decode cX5_looksOf 13 = .ok (.aload_n 0, 1) := by decide +kernel
theorem dX5_looksOf_14 : decode cX5_looksOf 14 = .ok (.getfield 7, 3) := by decide +kernel
theorem dX5_looksOf_17 : decode cX5_looksOf 17 = .ok (.bipush 65, 2) := by decide +kernel
theorem dX5_looksOf_19 : decode cX5_looksOf 19 = .ok (.iload_n 1, 1) := by decide +kernel
theorem dX5_looksOf_20 : decode cX5_looksOf 20 = .ok (.iadd, 1) := by decide +kernel
theorem dX5_looksOf_21 : decode cX5_looksOf 21 = .ok (.iaload, 1) := by decide +kernel
theorem dX5_looksOf_22 : decode cX5_looksOf 22 = .ok (.iload 4, 2) := by decide +kernel
theorem dX5_looksOf_24 : decode cX5_looksOf 24 = .ok (.invokestatic 72, 3) := by decide +kernel
theorem dX5_looksOf_27 : decode cX5_looksOf 27 = .ok (.ifCond .eq 14, 3) := by decide +kernel
theorem dX5_looksOf_30 : decode cX5_looksOf 30 = .ok (.iconst 1, 1) := by decide +kernel
theorem dX5_looksOf_31 : decode cX5_looksOf 31 = .ok (.iload 4, 2) := by decide +kernel
theorem dX5_looksOf_33 : decode cX5_looksOf 33 = .ok (.iload_n 2, 1) := by decide +kernel
theorem dX5_looksOf_34 : decode cX5_looksOf 34 = .ok (.invokestatic 75, 3) := by decide +kernel
theorem dX5_looksOf_37 : decode cX5_looksOf 37 = .ok (.ishl, 1) := by decide +kernel
theorem dX5_looksOf_38 : decode cX5_looksOf 38 = .ok (.goto 4, 3) := by decide +kernel
theorem dX5_looksOf_41 : decode cX5_looksOf 41 = .ok (.iconst 0, 1) := by decide +kernel
theorem dX5_looksOf_42 : decode cX5_looksOf 42 = .ok (.ior, 1) := by decide +kernel
theorem dX5_looksOf_43 : decode cX5_looksOf 43 = .ok (.istore_n 3, 1) := by decide +kernel
theorem dX5_looksOf_44 : decode cX5_looksOf 44 = .ok (.iinc 4 1, 3) := by decide +kernel
theorem dX5_looksOf_47 : decode cX5_looksOf 47 = .ok (.goto (-42), 3) := by decide +kernel
theorem dX5_looksOf_50 : decode cX5_looksOf 50 = .ok (.iload_n 3, 1) := by decide +kernel
theorem dX5_looksOf_51 : decode cX5_looksOf 51 = .ok (.ireturn, 1) := by decide +kernel
theorem dX5_plain_0 : decode cX5_plain 0 = .ok (.iload_n 0, 1) := by decide +kernel
theorem dX5_plain_1 : decode cX5_plain 1 = .ok (.bipush 9, 2) := by decide +kernel
theorem dX5_plain_3 : decode cX5_plain 3 = .ok (.if_icmp .le 8, 3) := by decide +kernel
theorem dX5_plain_6 : decode cX5_plain 6 = .ok (.bipush 9, 2) := by decide +kernel
theorem dX5_plain_8 : decode cX5_plain 8 = .ok (.goto 4, 3) := by decide +kernel
theorem dX5_plain_11 : decode cX5_plain 11 = .ok (.iload_n 0, 1) := by decide +kernel
theorem dX5_plain_12 : decode cX5_plain 12 = .ok (.ireturn, 1) := by decide +kernel
theorem dX5_darkBy_0 : decode cX5_darkBy 0 = .ok (.iload_n 1, 1) := by decide +kernel
theorem dX5_darkBy_1 : decode cX5_darkBy 1 = .ok (.invokestatic 79, 3) := by decide +kernel
theorem dX5_darkBy_4 : decode cX5_darkBy 4 = .ok (.istore_n 2, 1) := by decide +kernel
theorem dX5_darkBy_5 : decode cX5_darkBy 5 = .ok (.iload_n 0, 1) := by decide +kernel
theorem dX5_darkBy_6 : decode cX5_darkBy 6 = .ok (.ifCond .ne 5, 3) := by decide +kernel
theorem dX5_darkBy_9 : decode cX5_darkBy 9 = .ok (.iload_n 2, 1) := by decide +kernel
theorem dX5_darkBy_10 : decode cX5_darkBy 10 = .ok (.ireturn, 1) := by decide +kernel
theorem dX5_darkBy_11 : decode cX5_darkBy 11 = .ok (.iload_n 0, 1) := by decide +kernel
theorem dX5_darkBy_12 : decode cX5_darkBy 12 = .ok (.iconst 2, 1) := by decide +kernel
theorem dX5_darkBy_13 : decode cX5_darkBy 13 = .ok (.if_icmp .eq 8, 3) := by decide +kernel
theorem dX5_darkBy_16 : decode cX5_darkBy 16 = .ok (.iload_n 0, 1) := by decide +kernel
theorem dX5_darkBy_17 : decode cX5_darkBy 17 = .ok (.iconst 4, 1) := by decide +kernel
theorem dX5_darkBy_18 : decode cX5_darkBy 18 = .ok (.if_icmp .ne 9, 3) := by decide +kernel
theorem dX5_darkBy_21 : decode cX5_darkBy 21 = .ok (.iload_n 2, 1) := by decide +kernel
theorem dX5_darkBy_22 : decode cX5_darkBy 22 = .ok (.iconst 1, 1) := by decide +kernel
theorem dX5_darkBy_23 : decode cX5_darkBy 23 = .ok (.iadd, 1) := by decide +kernel
theorem dX5_darkBy_24 : decode cX5_darkBy 24 = .ok (.iconst 2, 1) := by decide +kernel
theorem dX5_darkBy_25 : decode cX5_darkBy 25 = .ok (.idiv, 1) := by decide +kernel
theorem dX5_darkBy_26 : decode cX5_darkBy 26 = .ok (.ireturn, 1) := by decide +kernel
theorem dX5_darkBy_27 : decode cX5_darkBy 27 = .ok (.iload_n 2, 1) := by decide +kernel
theorem dX5_darkBy_28 : decode cX5_darkBy 28 = .ok (.ifCond .ne 7, 3) := by decide +kernel
theorem dX5_darkBy_31 : decode cX5_darkBy 31 = .ok (.iconst 0, 1) := by decide +kernel
theorem dX5_darkBy_32 : decode cX5_darkBy 32 = .ok (.goto 19, 3) := by decide +kernel
theorem dX5_darkBy_35 : decode cX5_darkBy 35 = .ok (.iload_n 2, 1) := by decide +kernel
theorem dX5_darkBy_36 : decode cX5_darkBy 36 = .ok (.iconst 2, 1) := by decide +kernel
theorem dX5_darkBy_37 : decode cX5_darkBy 37 = .ok (.iadd, 1) := by decide +kernel
theorem dX5_darkBy_38 : decode cX5_darkBy 38 = .ok (.bipush 9, 2) := by decide +kernel
theorem dX5_darkBy_40 : decode cX5_darkBy 40 = .ok (.if_icmp .le 8, 3) := by decide +kernel
theorem dX5_darkBy_43 : decode cX5_darkBy 43 = .ok (.bipush 9, 2) := by decide +kernel
theorem dX5_darkBy_45 : decode cX5_darkBy 45 = .ok (.goto 6, 3) := by decide +kernel
theorem dX5_darkBy_48 : decode cX5_darkBy 48 = .ok (.iload_n 2, 1) := by decide +kernel
theorem dX5_darkBy_49 : decode cX5_darkBy 49 = .ok (.iconst 2, 1) := by decide +kernel
theorem dX5_darkBy_50 : decode cX5_darkBy 50 = .ok (.iadd, 1) := by decide +kernel
theorem dX5_darkBy_51 : decode cX5_darkBy 51 = .ok (.istore_n 3, 1) := by decide +kernel
theorem dX5_darkBy_52 : decode cX5_darkBy 52 = .ok (.iload_n 0, 1) := by decide +kernel
theorem dX5_darkBy_53 : decode cX5_darkBy 53 = .ok (.iconst 5, 1) := by decide +kernel
theorem dX5_darkBy_54 : decode cX5_darkBy 54 = .ok (.if_icmp .eq 7, 3) := by decide +kernel
theorem dX5_darkBy_57 : decode cX5_darkBy 57 = .ok (.iload_n 3, 1) := by decide +kernel
theorem dX5_darkBy_58 : decode cX5_darkBy 58 = .ok (.goto 14, 3) := by decide +kernel
theorem dX5_darkBy_61 : decode cX5_darkBy 61 = .ok (.iload_n 3, 1) := by decide +kernel
theorem dX5_darkBy_62 : decode cX5_darkBy 62 = .ok (.ifCond .ne 7, 3) := by decide +kernel
theorem dX5_darkBy_65 : decode cX5_darkBy 65 = .ok (.iconst 0, 1) := by decide +kernel
theorem dX5_darkBy_66 : decode cX5_darkBy 66 = .ok (.goto 6, 3) := by decide +kernel
theorem dX5_darkBy_69 : decode cX5_darkBy 69 = .ok (.iload_n 3, 1) := by decide +kernel
theorem dX5_darkBy_70 : decode cX5_darkBy 70 = .ok (.iconst 1, 1) := by decide +kernel
theorem dX5_darkBy_71 : decode cX5_darkBy 71 = .ok (.isub, 1) := by decide +kernel
theorem dX5_darkBy_72 : decode cX5_darkBy 72 = .ok (.ireturn, 1) := by decide +kernel
theorem dX5_takesBy_0 : decode cX5_takesBy 0 = .ok (.iload_n 0, 1) := by decide +kernel
theorem dX5_takesBy_1 : decode cX5_takesBy 1 = .ok (.iconst 1, 1) := by decide +kernel
theorem dX5_takesBy_2 : decode cX5_takesBy 2 = .ok (.if_icmp .eq 13, 3) := by decide +kernel
theorem dX5_takesBy_5 : decode cX5_takesBy 5 = .ok (.iload_n 0, 1) := by decide +kernel
theorem dX5_takesBy_6 : decode cX5_takesBy 6 = .ok (.iconst 3, 1) := by decide +kernel
theorem dX5_takesBy_7 : decode cX5_takesBy 7 = .ok (.if_icmp .eq 8, 3) := by decide +kernel
theorem dX5_takesBy_10 : decode cX5_takesBy 10 = .ok (.iload_n 0, 1) := by decide +kernel
theorem dX5_takesBy_11 : decode cX5_takesBy 11 = .ok (.iconst 5, 1) := by decide +kernel
theorem dX5_takesBy_12 : decode cX5_takesBy 12 = .ok (.if_icmp .ne 7, 3) := by decide +kernel
theorem dX5_takesBy_15 : decode cX5_takesBy 15 = .ok (.iconst 2, 1) := by decide +kernel
theorem dX5_takesBy_16 : decode cX5_takesBy 16 = .ok (.goto 4, 3) := by decide +kernel
theorem dX5_takesBy_19 : decode cX5_takesBy 19 = .ok (.iconst 1, 1) := by decide +kernel
theorem dX5_takesBy_20 : decode cX5_takesBy 20 = .ok (.istore_n 2, 1) := by decide +kernel
theorem dX5_takesBy_21 : decode cX5_takesBy 21 = .ok (.iload_n 2, 1) := by decide +kernel
theorem dX5_takesBy_22 : decode cX5_takesBy 22 = .ok (.iload_n 1, 1) := by decide +kernel
theorem dX5_takesBy_23 : decode cX5_takesBy 23 = .ok (.if_icmp .le 7, 3) := by decide +kernel
theorem dX5_takesBy_26 : decode cX5_takesBy 26 = .ok (.iload_n 1, 1) := by decide +kernel
theorem dX5_takesBy_27 : decode cX5_takesBy 27 = .ok (.goto 4, 3) := by decide +kernel
theorem dX5_takesBy_30 : decode cX5_takesBy 30 = .ok (.iload_n 2, 1) := by decide +kernel
theorem dX5_takesBy_31 : decode cX5_takesBy 31 = .ok (.ireturn, 1) := by decide +kernel
theorem dX5_layLooks_0 : decode cX5_layLooks 0 = .ok (.iconst 0, 1) := by decide +kernel
theorem dX5_layLooks_1 : decode cX5_layLooks 1 = .ok (.istore 6, 2) := by decide +kernel
theorem dX5_layLooks_3 : decode cX5_layLooks 3 = .ok (.iload 6, 2) := by decide +kernel
theorem dX5_layLooks_5 : decode cX5_layLooks 5 = .ok (.bipush 16, 2) := by decide +kernel
theorem dX5_layLooks_7 : decode cX5_layLooks 7 = .ok (.if_icmp .ge 105, 3) := by decide +kernel
theorem dX5_layLooks_10 : decode cX5_layLooks 10 = .ok (.iload_n 2, 1) := by decide +kernel
theorem dX5_layLooks_11 : decode cX5_layLooks 11 = .ok (.iload 6, 2) := by decide +kernel
theorem dX5_layLooks_13 : decode cX5_layLooks 13 = .ok (.iconst 4, 1) := by decide +kernel
theorem dX5_layLooks_14 : decode cX5_layLooks 14 = .ok (.irem, 1) := by decide +kernel
theorem dX5_layLooks_15 : decode cX5_layLooks 15 = .ok (.iadd, 1) := by decide +kernel
theorem dX5_layLooks_16 : decode cX5_layLooks 16 = .ok (.istore 7, 2) := by decide +kernel
theorem dX5_layLooks_18 : decode cX5_layLooks 18 = .ok (.iload_n 3, 1) := by decide +kernel
theorem dX5_layLooks_19 : decode cX5_layLooks 19 = .ok (.iload 6, 2) := by decide +kernel
theorem dX5_layLooks_21 : decode cX5_layLooks 21 = .ok (.iconst 4, 1) := by decide +kernel
theorem dX5_layLooks_22 : decode cX5_layLooks 22 = .ok (.idiv, 1) := by decide +kernel
theorem dX5_layLooks_23 : decode cX5_layLooks 23 = .ok (.iadd, 1) := by decide +kernel
theorem dX5_layLooks_24 : decode cX5_layLooks 24 = .ok (.istore 8, 2) := by decide +kernel
theorem dX5_layLooks_26 : decode cX5_layLooks 26 = .ok (.iload_n 1, 1) := by decide +kernel
theorem dX5_layLooks_27 : decode cX5_layLooks 27 = .ok (.iload 6, 2) := by decide +kernel
theorem dX5_layLooks_29 : decode cX5_layLooks 29 = .ok (.invokestatic 72, 3) := by decide +kernel
theorem dX5_layLooks_32 : decode cX5_layLooks 32 = .ok (.ifCond .eq 33, 3) := by decide +kernel
theorem dX5_layLooks_35 : decode cX5_layLooks 35 = .ok (.iload 7, 2) := by decide +kernel
theorem dX5_layLooks_37 : decode cX5_layLooks 37 = .ok (.iload 8, 2) := by decide +kernel
theorem dX5_layLooks_39 : decode cX5_layLooks 39 = .ok (.invokestatic 66, 3) := by decide +kernel
theorem dX5_layLooks_42 : decode cX5_layLooks 42 = .ok (.ifCond .eq 23, 3) := by decide +kernel
theorem dX5_layLooks_45 : decode cX5_layLooks 45 = .ok (.iload 5, 2) := by decide +kernel
theorem dX5_layLooks_47 : decode cX5_layLooks 47 = .ok (.ifCond .eq 14, 3) := by decide +kernel
theorem dX5_layLooks_50 : decode cX5_layLooks 50 = .ok (.iload 7, 2) := by decide +kernel
theorem dX5_layLooks_52 : decode cX5_layLooks 52 = .ok (.iload 8, 2) := by decide +kernel
theorem dX5_layLooks_54 : decode cX5_layLooks 54 = .ok (.iadd, 1) := by decide +kernel
theorem dX5_layLooks_55 : decode cX5_layLooks 55 = .ok (.iconst 2, 1) := by decide +kernel
theorem dX5_layLooks_56 : decode cX5_layLooks 56 = .ok (.irem, 1) := by decide +kernel
theorem dX5_layLooks_57 : decode cX5_layLooks 57 = .ok (.iconst 1, 1) := by decide +kernel
theorem dX5_layLooks_58 : decode cX5_layLooks 58 = .ok (.if_icmp .eq 7, 3) := by decide +kernel
theorem dX5_layLooks_61 : decode cX5_layLooks 61 = .ok (.iconst 1, 1) := by decide +kernel
theorem dX5_layLooks_62 : decode cX5_layLooks 62 = .ok (.goto 4, 3) := by decide +kernel
theorem dX5_layLooks_65 : decode cX5_layLooks 65 = .ok (.iconst 0, 1) := by decide +kernel
theorem dX5_layLooks_66 : decode cX5_layLooks 66 = .ok (.istore 9, 2) := by decide +kernel
theorem dX5_layLooks_68 : decode cX5_layLooks 68 = .ok (.iload 9, 2) := by decide +kernel
theorem dX5_layLooks_70 : decode cX5_layLooks 70 = .ok (.ifCond .eq 36, 3) := by decide +kernel
theorem dX5_layLooks_73 : decode cX5_layLooks 73 = .ok (.aload_n 0, 1) := by decide +kernel
theorem dX5_layLooks_74 : decode cX5_layLooks 74 = .ok (.getfield 20, 3) := by decide +kernel
theorem dX5_layLooks_77 : decode cX5_layLooks 77 = .ok (.bipush 8, 2) := by decide +kernel
theorem dX5_layLooks_79 : decode cX5_layLooks 79 = .ok (.iload 8, 2) := by decide +kernel
theorem dX5_layLooks_81 : decode cX5_layLooks 81 = .ok (.imul, 1) := by decide +kernel
theorem dX5_layLooks_82 : decode cX5_layLooks 82 = .ok (.iload 7, 2) := by decide +kernel
theorem dX5_layLooks_84 : decode cX5_layLooks 84 = .ok (.iadd, 1) := by decide +kernel
theorem dX5_layLooks_85 : decode cX5_layLooks 85 = .ok (.iaload, 1) := by decide +kernel
theorem dX5_layLooks_86 : decode cX5_layLooks 86 = .ok (.iload 4, 2) := by decide +kernel
theorem dX5_layLooks_88 : decode cX5_layLooks 88 = .ok (.if_icmp .ge 18, 3) := by decide +kernel
theorem dX5_layLooks_91 : decode cX5_layLooks 91 = .ok (.aload_n 0, 1) := by decide +kernel
theorem dX5_layLooks_92 : decode cX5_layLooks 92 = .ok (.getfield 20, 3) := by decide +kernel
theorem dX5_layLooks_95 : decode cX5_layLooks 95 = .ok (.bipush 8, 2) := by decide +kernel
theorem dX5_layLooks_97 : decode cX5_layLooks 97 = .ok (.iload 8, 2) := by decide +kernel
theorem dX5_layLooks_99 : decode cX5_layLooks 99 = .ok (.imul, 1) := by decide +kernel
theorem dX5_layLooks_100 : decode cX5_layLooks 100 = .ok (.iload 7, 2) := by decide +kernel
theorem dX5_layLooks_102 : decode cX5_layLooks 102 = .ok (.iadd, 1) := by decide +kernel
theorem dX5_layLooks_103 : decode cX5_layLooks 103 = .ok (.iload 4, 2) := by decide +kernel
theorem dX5_layLooks_105 : decode cX5_layLooks 105 = .ok (.iastore, 1) := by decide +kernel
theorem dX5_layLooks_106 : decode cX5_layLooks 106 = .ok (.iinc 6 1, 3) := by decide +kernel
theorem dX5_layLooks_109 : decode cX5_layLooks 109 = .ok (.goto (-106), 3) := by decide +kernel
theorem dX5_layLooks_112 : decode cX5_layLooks 112 = .ok (.return_, 1) := by decide +kernel
theorem dX5_inkBy_0 : decode cX5_inkBy 0 = .ok (.iconst 0, 1) := by decide +kernel
theorem dX5_inkBy_1 : decode cX5_inkBy 1 = .ok (.istore 6, 2) := by decide +kernel
theorem dX5_inkBy_3 : decode cX5_inkBy 3 = .ok (.iload 6, 2) := by decide +kernel
theorem dX5_inkBy_5 : decode cX5_inkBy 5 = .ok (.bipush 64, 2) := by decide +kernel
theorem dX5_inkBy_7 : decode cX5_inkBy 7 = .ok (.if_icmp .ge 17, 3) := by decide +kernel
theorem dX5_inkBy_10 : decode cX5_inkBy 10 = .ok (.aload_n 0, 1) := by decide +kernel
theorem dX5_inkBy_11 : decode cX5_inkBy 11 = .ok (.getfield 20, 3) := by decide +kernel
theorem dX5_inkBy_14 : decode cX5_inkBy 14 = .ok (.iload 6, 2) := by decide +kernel
theorem dX5_inkBy_16 : decode cX5_inkBy 16 = .ok (.iconst 0, 1) := by decide +kernel
theorem dX5_inkBy_17 : decode cX5_inkBy 17 = .ok (.iastore, 1) := by decide +kernel
theorem dX5_inkBy_18 : decode cX5_inkBy 18 = .ok (.iinc 6 1, 3) := by decide +kernel
theorem dX5_inkBy_21 : decode cX5_inkBy 21 = .ok (.goto (-18), 3) := by decide +kernel
theorem dX5_inkBy_24 : decode cX5_inkBy 24 = .ok (.iload_n 1, 1) := by decide +kernel
theorem dX5_inkBy_25 : decode cX5_inkBy 25 = .ok (.iload 5, 2) := by decide +kernel
theorem dX5_inkBy_27 : decode cX5_inkBy 27 = .ok (.invokestatic 83, 3) := by decide +kernel
theorem dX5_inkBy_30 : decode cX5_inkBy 30 = .ok (.istore 6, 2) := by decide +kernel
theorem dX5_inkBy_32 : decode cX5_inkBy 32 = .ok (.iload_n 1, 1) := by decide +kernel
theorem dX5_inkBy_33 : decode cX5_inkBy 33 = .ok (.iconst 3, 1) := by decide +kernel
theorem dX5_inkBy_34 : decode cX5_inkBy 34 = .ok (.if_icmp .eq 8, 3) := by decide +kernel
theorem dX5_inkBy_37 : decode cX5_inkBy 37 = .ok (.iload_n 1, 1) := by decide +kernel
theorem dX5_inkBy_38 : decode cX5_inkBy 38 = .ok (.iconst 5, 1) := by decide +kernel
theorem dX5_inkBy_39 : decode cX5_inkBy 39 = .ok (.if_icmp .ne 16, 3) := by decide +kernel
theorem dX5_inkBy_42 : decode cX5_inkBy 42 = .ok (.iload 5, 2) := by decide +kernel
theorem dX5_inkBy_44 : decode cX5_inkBy 44 = .ok (.bipush 8, 2) := by decide +kernel
theorem dX5_inkBy_46 : decode cX5_inkBy 46 = .ok (.if_icmp .le 9, 3) := by decide +kernel
theorem dX5_inkBy_49 : decode cX5_inkBy 49 = .ok (.iload_n 3, 1) := by decide +kernel
theorem dX5_inkBy_50 : decode cX5_inkBy 50 = .ok (.iconst 1, 1) := by decide +kernel
theorem dX5_inkBy_51 : decode cX5_inkBy 51 = .ok (.iadd, 1) := by decide +kernel
theorem dX5_inkBy_52 : decode cX5_inkBy 52 = .ok (.goto 4, 3) := by decide +kernel
theorem dX5_inkBy_55 : decode cX5_inkBy 55 = .ok (.iload_n 3, 1) := by decide +kernel
theorem dX5_inkBy_56 : decode cX5_inkBy 56 = .ok (.istore 7, 2) := by decide +kernel
theorem dX5_inkBy_58 : decode cX5_inkBy 58 = .ok (.aload_n 0, 1) := by decide +kernel
theorem dX5_inkBy_59 : decode cX5_inkBy 59 = .ok (.iload_n 2, 1) := by decide +kernel
theorem dX5_inkBy_60 : decode cX5_inkBy 60 = .ok (.iload 7, 2) := by decide +kernel
theorem dX5_inkBy_62 : decode cX5_inkBy 62 = .ok (.iload 4, 2) := by decide +kernel
theorem dX5_inkBy_64 : decode cX5_inkBy 64 = .ok (.iload 6, 2) := by decide +kernel
theorem dX5_inkBy_66 : decode cX5_inkBy 66 = .ok (.iload_n 1, 1) := by decide +kernel
theorem dX5_inkBy_67 : decode cX5_inkBy 67 = .ok (.iconst 4, 1) := by decide +kernel
theorem dX5_inkBy_68 : decode cX5_inkBy 68 = .ok (.if_icmp .ne 13, 3) := by decide +kernel
theorem dX5_inkBy_71 : decode cX5_inkBy 71 = .ok (.iload 5, 2) := by decide +kernel
theorem dX5_inkBy_73 : decode cX5_inkBy 73 = .ok (.iconst 4, 1) := by decide +kernel
theorem dX5_inkBy_74 : decode cX5_inkBy 74 = .ok (.if_icmp .ge 7, 3) := by decide +kernel
theorem dX5_inkBy_77 : decode cX5_inkBy 77 = .ok (.iconst 1, 1) := by decide +kernel
theorem dX5_inkBy_78 : decode cX5_inkBy 78 = .ok (.goto 4, 3) := by decide +kernel
theorem dX5_inkBy_81 : decode cX5_inkBy 81 = .ok (.iconst 0, 1) := by decide +kernel
theorem dX5_inkBy_82 : decode cX5_inkBy 82 = .ok (.invokevirtual 86, 3) := by decide +kernel
theorem dX5_inkBy_85 : decode cX5_inkBy 85 = .ok (.iload_n 1, 1) := by decide +kernel
theorem dX5_inkBy_86 : decode cX5_inkBy 86 = .ok (.iconst 5, 1) := by decide +kernel
theorem dX5_inkBy_87 : decode cX5_inkBy 87 = .ok (.if_icmp .ne 19, 3) := by decide +kernel
theorem dX5_inkBy_90 : decode cX5_inkBy 90 = .ok (.aload_n 0, 1) := by decide +kernel
theorem dX5_inkBy_91 : decode cX5_inkBy 91 = .ok (.iload_n 2, 1) := by decide +kernel
theorem dX5_inkBy_92 : decode cX5_inkBy 92 = .ok (.iload 7, 2) := by decide +kernel
theorem dX5_inkBy_94 : decode cX5_inkBy 94 = .ok (.iconst 1, 1) := by decide +kernel
theorem dX5_inkBy_95 : decode cX5_inkBy 95 = .ok (.iadd, 1) := by decide +kernel
theorem dX5_inkBy_96 : decode cX5_inkBy 96 = .ok (.iload 4, 2) := by decide +kernel
theorem dX5_inkBy_98 : decode cX5_inkBy 98 = .ok (.iload 6, 2) := by decide +kernel
theorem dX5_inkBy_100 : decode cX5_inkBy 100 = .ok (.iconst 2, 1) := by decide +kernel
theorem dX5_inkBy_101 : decode cX5_inkBy 101 = .ok (.idiv, 1) := by decide +kernel
theorem dX5_inkBy_102 : decode cX5_inkBy 102 = .ok (.iconst 0, 1) := by decide +kernel
theorem dX5_inkBy_103 : decode cX5_inkBy 103 = .ok (.invokevirtual 86, 3) := by decide +kernel
theorem dX5_inkBy_106 : decode cX5_inkBy 106 = .ok (.return_, 1) := by decide +kernel
theorem dX5_darker_0 : decode cX5_darker 0 = .ok (.iconst 0, 1) := by decide +kernel
theorem dX5_darker_1 : decode cX5_darker 1 = .ok (.istore_n 1, 1) := by decide +kernel
theorem dX5_darker_2 : decode cX5_darker 2 = .ok (.iconst 0, 1) := by decide +kernel
theorem dX5_darker_3 : decode cX5_darker 3 = .ok (.istore_n 2, 1) := by decide +kernel
theorem dX5_darker_4 : decode cX5_darker 4 = .ok (.iload_n 2, 1) := by decide +kernel
theorem dX5_darker_5 : decode cX5_darker 5 = .ok (.bipush 64, 2) := by decide +kernel
theorem dX5_darker_7 : decode cX5_darker 7 = .ok (.if_icmp .ge 34, 3) := by decide +kernel
theorem dX5_darker_10 : decode cX5_darker 10 = .ok (.iload_n 1, 1) := by decide +kernel
theorem dX5_darker_11 : decode cX5_darker 11 = .ok (.aload_n 0, 1) := by decide +kernel
theorem dX5_darker_12 : decode cX5_darker 12 = .ok (.getfield 20, 3) := by decide +kernel
theorem dX5_darker_15 : decode cX5_darker 15 = .ok (.iload_n 2, 1) := by decide +kernel
theorem dX5_darker_16 : decode cX5_darker 16 = .ok (.iaload, 1) := by decide +kernel
theorem dX5_darker_17 : decode cX5_darker 17 = .ok (.aload_n 0, 1) := by decide +kernel
theorem dX5_darker_18 : decode cX5_darker 18 = .ok (.getfield 7, 3) := by decide +kernel
theorem dX5_darker_21 : decode cX5_darker 21 = .ok (.iconst 0, 1) := by decide +kernel
theorem dX5_darker_22 : decode cX5_darker 22 = .ok (.iload_n 2, 1) := by decide +kernel
theorem dX5_darker_23 : decode cX5_darker 23 = .ok (.iadd, 1) := by decide +kernel
theorem dX5_darker_24 : decode cX5_darker 24 = .ok (.iaload, 1) := by decide +kernel
theorem dX5_darker_25 : decode cX5_darker 25 = .ok (.if_icmp .le 7, 3) := by decide +kernel
theorem dX5_darker_28 : decode cX5_darker 28 = .ok (.iconst 1, 1) := by decide +kernel
theorem dX5_darker_29 : decode cX5_darker 29 = .ok (.goto 4, 3) := by decide +kernel
theorem dX5_darker_32 : decode cX5_darker 32 = .ok (.iconst 0, 1) := by decide +kernel
theorem dX5_darker_33 : decode cX5_darker 33 = .ok (.iadd, 1) := by decide +kernel
theorem dX5_darker_34 : decode cX5_darker 34 = .ok (.istore_n 1, 1) := by decide +kernel
theorem dX5_darker_35 : decode cX5_darker 35 = .ok (.iinc 2 1, 3) := by decide +kernel
theorem dX5_darker_38 : decode cX5_darker 38 = .ok (.goto (-34), 3) := by decide +kernel
theorem dX5_darker_41 : decode cX5_darker 41 = .ok (.iload_n 1, 1) := by decide +kernel
theorem dX5_darker_42 : decode cX5_darker 42 = .ok (.ireturn, 1) := by decide +kernel
theorem dX5_printOne_0 : decode cX5_printOne 0 = .ok (.aload_n 0, 1) := by decide +kernel
theorem dX5_printOne_1 : decode cX5_printOne 1 = .ok (.iload_n 1, 1) := by decide +kernel
theorem dX5_printOne_2 : decode cX5_printOne 2 = .ok (.aload_n 0, 1) := by decide +kernel
theorem dX5_printOne_3 : decode cX5_printOne 3 = .ok (.iload_n 2, 1) := by decide +kernel
theorem dX5_printOne_4 : decode cX5_printOne 4 = .ok (.iload 5, 2) := by decide +kernel
theorem dX5_printOne_6 : decode cX5_printOne 6 = .ok (.invokevirtual 90, 3) := by decide +kernel
theorem dX5_printOne_9 : decode cX5_printOne 9 = .ok (.iload_n 3, 1) := by decide +kernel
theorem dX5_printOne_10 : decode cX5_printOne 10 = .ok (.iload 4, 2) := by decide +kernel
theorem dX5_printOne_12 : decode cX5_printOne 12 = .ok (.aload_n 0, 1) := by decide +kernel
theorem dX5_printOne_13 : decode cX5_printOne 13 = .ok (.getfield 7, 3) := by decide +kernel
theorem dX5_printOne_16 : decode cX5_printOne 16 = .ok (.bipush 64, 2) := by decide +kernel
theorem dX5_printOne_18 : decode cX5_printOne 18 = .ok (.iaload, 1) := by decide +kernel
theorem dX5_printOne_19 : decode cX5_printOne 19 = .ok (.invokevirtual 93, 3) := by decide +kernel
theorem dX5_printOne_22 : decode cX5_printOne 22 = .ok (.aload_n 0, 1) := by decide +kernel
theorem dX5_printOne_23 : decode cX5_printOne 23 = .ok (.invokevirtual 97, 3) := by decide +kernel
theorem dX5_printOne_26 : decode cX5_printOne 26 = .ok (.istore 6, 2) := by decide +kernel
theorem dX5_printOne_28 : decode cX5_printOne 28 = .ok (.iconst 0, 1) := by decide +kernel
theorem dX5_printOne_29 : decode cX5_printOne 29 = .ok (.istore 7, 2) := by decide +kernel
theorem dX5_printOne_31 : decode cX5_printOne 31 = .ok (.iload 7, 2) := by decide +kernel
theorem dX5_printOne_33 : decode cX5_printOne 33 = .ok (.bipush 64, 2) := by decide +kernel
theorem dX5_printOne_35 : decode cX5_printOne 35 = .ok (.if_icmp .ge 56, 3) := by decide +kernel
theorem dX5_printOne_38 : decode cX5_printOne 38 = .ok (.aload_n 0, 1) := by decide +kernel
theorem dX5_printOne_39 : decode cX5_printOne 39 = .ok (.getfield 7, 3) := by decide +kernel
theorem dX5_printOne_42 : decode cX5_printOne 42 = .ok (.iconst 0, 1) := by decide +kernel
theorem dX5_printOne_43 : decode cX5_printOne 43 = .ok (.iload 7, 2) := by decide +kernel
theorem dX5_printOne_45 : decode cX5_printOne 45 = .ok (.iadd, 1) := by decide +kernel
theorem dX5_printOne_46 : decode cX5_printOne 46 = .ok (.aload_n 0, 1) := by decide +kernel
theorem dX5_printOne_47 : decode cX5_printOne 47 = .ok (.getfield 20, 3) := by decide +kernel
theorem dX5_printOne_50 : decode cX5_printOne 50 = .ok (.iload 7, 2) := by decide +kernel
theorem dX5_printOne_52 : decode cX5_printOne 52 = .ok (.iaload, 1) := by decide +kernel
theorem dX5_printOne_53 : decode cX5_printOne 53 = .ok (.aload_n 0, 1) := by decide +kernel
theorem dX5_printOne_54 : decode cX5_printOne 54 = .ok (.getfield 7, 3) := by decide +kernel
theorem dX5_printOne_57 : decode cX5_printOne 57 = .ok (.iconst 0, 1) := by decide +kernel
theorem dX5_printOne_58 : decode cX5_printOne 58 = .ok (.iload 7, 2) := by decide +kernel
theorem dX5_printOne_60 : decode cX5_printOne 60 = .ok (.iadd, 1) := by decide +kernel
theorem dX5_printOne_61 : decode cX5_printOne 61 = .ok (.iaload, 1) := by decide +kernel
theorem dX5_printOne_62 : decode cX5_printOne 62 = .ok (.if_icmp .le 13, 3) := by decide +kernel
theorem dX5_printOne_65 : decode cX5_printOne 65 = .ok (.aload_n 0, 1) := by decide +kernel
theorem dX5_printOne_66 : decode cX5_printOne 66 = .ok (.getfield 20, 3) := by decide +kernel
theorem dX5_printOne_69 : decode cX5_printOne 69 = .ok (.iload 7, 2) := by decide +kernel
theorem dX5_printOne_71 : decode cX5_printOne 71 = .ok (.iaload, 1) := by decide +kernel
theorem dX5_printOne_72 : decode cX5_printOne 72 = .ok (.goto 12, 3) := by decide +kernel
theorem dX5_printOne_75 : decode cX5_printOne 75 = .ok (.aload_n 0, 1) := by decide +kernel
theorem dX5_printOne_76 : decode cX5_printOne 76 = .ok (.getfield 7, 3) := by decide +kernel
theorem dX5_printOne_79 : decode cX5_printOne 79 = .ok (.iconst 0, 1) := by decide +kernel
theorem dX5_printOne_80 : decode cX5_printOne 80 = .ok (.iload 7, 2) := by decide +kernel
theorem dX5_printOne_82 : decode cX5_printOne 82 = .ok (.iadd, 1) := by decide +kernel
theorem dX5_printOne_83 : decode cX5_printOne 83 = .ok (.iaload, 1) := by decide +kernel
theorem dX5_printOne_84 : decode cX5_printOne 84 = .ok (.iastore, 1) := by decide +kernel
theorem dX5_printOne_85 : decode cX5_printOne 85 = .ok (.iinc 7 1, 3) := by decide +kernel
theorem dX5_printOne_88 : decode cX5_printOne 88 = .ok (.goto (-57), 3) := by decide +kernel
theorem dX5_printOne_91 : decode cX5_printOne 91 = .ok (.aload_n 0, 1) := by decide +kernel
theorem dX5_printOne_92 : decode cX5_printOne 92 = .ok (.getfield 7, 3) := by decide +kernel
theorem dX5_printOne_95 : decode cX5_printOne 95 = .ok (.bipush 64, 2) := by decide +kernel
theorem dX5_printOne_97 : decode cX5_printOne 97 = .ok (.dup2, 1) := by decide +kernel
theorem dX5_printOne_98 : decode cX5_printOne 98 = .ok (.iaload, 1) := by decide +kernel
theorem dX5_printOne_99 : decode cX5_printOne 99 = .ok (.iload_n 1, 1) := by decide +kernel
theorem dX5_printOne_100 : decode cX5_printOne 100 = .ok (.aload_n 0, 1) := by decide +kernel
theorem dX5_printOne_101 : decode cX5_printOne 101 = .ok (.getfield 7, 3) := by decide +kernel
theorem dX5_printOne_104 : decode cX5_printOne 104 = .ok (.bipush 64, 2) := by decide +kernel
theorem dX5_printOne_106 : decode cX5_printOne 106 = .ok (.iaload, 1) := by decide +kernel
theorem dX5_printOne_107 : decode cX5_printOne 107 = .ok (.invokestatic 101, 3) := by decide +kernel
theorem dX5_printOne_110 : decode cX5_printOne 110 = .ok (.isub, 1) := by decide +kernel
theorem dX5_printOne_111 : decode cX5_printOne 111 = .ok (.iastore, 1) := by decide +kernel
theorem dX5_printOne_112 : decode cX5_printOne 112 = .ok (.iload 6, 2) := by decide +kernel
theorem dX5_printOne_114 : decode cX5_printOne 114 = .ok (.ireturn, 1) := by decide +kernel
theorem dX5_darkMany_0 : decode cX5_darkMany 0 = .ok (.iconst 0, 1) := by decide +kernel
theorem dX5_darkMany_1 : decode cX5_darkMany 1 = .ok (.istore_n 1, 1) := by decide +kernel
theorem dX5_darkMany_2 : decode cX5_darkMany 2 = .ok (.iconst 0, 1) := by decide +kernel
theorem dX5_darkMany_3 : decode cX5_darkMany 3 = .ok (.istore_n 2, 1) := by decide +kernel
theorem dX5_darkMany_4 : decode cX5_darkMany 4 = .ok (.iload_n 2, 1) := by decide +kernel
theorem dX5_darkMany_5 : decode cX5_darkMany 5 = .ok (.bipush 64, 2) := by decide +kernel
theorem dX5_darkMany_7 : decode cX5_darkMany 7 = .ok (.if_icmp .ge 28, 3) := by decide +kernel
theorem dX5_darkMany_10 : decode cX5_darkMany 10 = .ok (.iload_n 1, 1) := by decide +kernel
theorem dX5_darkMany_11 : decode cX5_darkMany 11 = .ok (.aload_n 0, 1) := by decide +kernel
theorem dX5_darkMany_12 : decode cX5_darkMany 12 = .ok (.getfield 7, 3) := by decide +kernel
theorem dX5_darkMany_15 : decode cX5_darkMany 15 = .ok (.iconst 0, 1) := by decide +kernel
theorem dX5_darkMany_16 : decode cX5_darkMany 16 = .ok (.iload_n 2, 1) := by decide +kernel
theorem dX5_darkMany_17 : decode cX5_darkMany 17 = .ok (.iadd, 1) := by decide +kernel
theorem dX5_darkMany_18 : decode cX5_darkMany 18 = .ok (.iaload, 1) := by decide +kernel
theorem dX5_darkMany_19 : decode cX5_darkMany 19 = .ok (.ifCond .le 7, 3) := by decide +kernel
theorem dX5_darkMany_22 : decode cX5_darkMany 22 = .ok (.iconst 1, 1) := by decide +kernel
theorem dX5_darkMany_23 : decode cX5_darkMany 23 = .ok (.goto 4, 3) := by decide +kernel
theorem dX5_darkMany_26 : decode cX5_darkMany 26 = .ok (.iconst 0, 1) := by decide +kernel
theorem dX5_darkMany_27 : decode cX5_darkMany 27 = .ok (.iadd, 1) := by decide +kernel
theorem dX5_darkMany_28 : decode cX5_darkMany 28 = .ok (.istore_n 1, 1) := by decide +kernel
theorem dX5_darkMany_29 : decode cX5_darkMany 29 = .ok (.iinc 2 1, 3) := by decide +kernel
theorem dX5_darkMany_32 : decode cX5_darkMany 32 = .ok (.goto (-28), 3) := by decide +kernel
theorem dX5_darkMany_35 : decode cX5_darkMany 35 = .ok (.iload_n 1, 1) := by decide +kernel
theorem dX5_darkMany_36 : decode cX5_darkMany 36 = .ok (.ireturn, 1) := by decide +kernel
theorem dX5_anew_0 : decode cX5_anew 0 = .ok (.iconst 0, 1) := by decide +kernel
theorem dX5_anew_1 : decode cX5_anew 1 = .ok (.istore_n 2, 1) := by decide +kernel
theorem dX5_anew_2 : decode cX5_anew 2 = .ok (.iload_n 2, 1) := by decide +kernel
theorem dX5_anew_3 : decode cX5_anew 3 = .ok (.bipush 99, 2) := by decide +kernel
theorem dX5_anew_5 : decode cX5_anew 5 = .ok (.if_icmp .ge 16, 3) := by decide +kernel
theorem dX5_anew_8 : decode cX5_anew 8 = .ok (.aload_n 0, 1) := by decide +kernel
theorem dX5_anew_9 : decode cX5_anew 9 = .ok (.getfield 7, 3) := by decide +kernel
theorem dX5_anew_12 : decode cX5_anew 12 = .ok (.iload_n 2, 1) := by decide +kernel
theorem dX5_anew_13 : decode cX5_anew 13 = .ok (.iconst 0, 1) := by decide +kernel
theorem dX5_anew_14 : decode cX5_anew 14 = .ok (.iastore, 1) := by decide +kernel
theorem dX5_anew_15 : decode cX5_anew 15 = .ok (.iinc 2 1, 3) := by decide +kernel
theorem dX5_anew_18 : decode cX5_anew 18 = .ok (.goto (-16), 3) := by decide +kernel
theorem dX5_anew_21 : decode cX5_anew 21 = .ok (.aload_n 0, 1) := by decide +kernel
theorem dX5_anew_22 : decode cX5_anew 22 = .ok (.getfield 7, 3) := by decide +kernel
theorem dX5_anew_25 : decode cX5_anew 25 = .ok (.bipush 64, 2) := by decide +kernel
theorem dX5_anew_27 : decode cX5_anew 27 = .ok (.iload_n 1, 1) := by decide +kernel
theorem dX5_anew_28 : decode cX5_anew 28 = .ok (.iastore, 1) := by decide +kernel
theorem dX5_anew_29 : decode cX5_anew 29 = .ok (.aload_n 0, 1) := by decide +kernel
theorem dX5_anew_30 : decode cX5_anew 30 = .ok (.iconst 0, 1) := by decide +kernel
theorem dX5_anew_31 : decode cX5_anew 31 = .ok (.putfield 104, 3) := by decide +kernel
theorem dX5_anew_34 : decode cX5_anew 34 = .ok (.return_, 1) := by decide +kernel
theorem dX5_table_0 : decode cX5_table 0 = .ok (.iload_n 1, 1) := by decide +kernel
theorem dX5_table_1 : decode cX5_table 1 = .ok (.i2l, 1) := by decide +kernel
theorem dX5_table_2 : decode cX5_table 2 = .ok (.lconst 0, 1) := by decide +kernel
theorem dX5_table_3 : decode cX5_table 3 = .ok (.ldc2_w 108, 3) := by decide +kernel
theorem dX5_table_6 : decode cX5_table 6 = .ok (.invokestatic 54, 3) := by decide +kernel
theorem dX5_table_9 : decode cX5_table 9 = .ok (.ifCond .ne 8, 3) := by decide +kernel
theorem dX5_table_12 : decode cX5_table 12 = .ok (.aload_n 0, 1) := by decide +kernel
theorem dX5_table_13 : decode cX5_table 13 = .ok (.invokevirtual 110, 3) := by decide +kernel
theorem dX5_table_16 : decode cX5_table 16 = .ok (.ireturn, 1) := by decide +kernel
theorem dX5_table_17 : decode cX5_table 17 = .ok (.aload_n 0, 1) := by decide +kernel
theorem dX5_table_18 : decode cX5_table 18 = .ok (.invokevirtual 113, 3) := by decide +kernel
theorem dX5_table_21 : decode cX5_table 21 = .ok (.istore_n 2, 1) := by decide +kernel
theorem dX5_table_22 : decode cX5_table 22 = .ok (.aload_n 0, 1) := by decide +kernel
theorem dX5_table_23 : decode cX5_table 23 = .ok (.iload_n 1, 1) := by decide +kernel
theorem dX5_table_24 : decode cX5_table 24 = .ok (.invokevirtual 116, 3) := by decide +kernel
theorem dX5_table_27 : decode cX5_table 27 = .ok (.iload_n 2, 1) := by decide +kernel
theorem dX5_table_28 : decode cX5_table 28 = .ok (.ireturn, 1) := by decide +kernel
theorem dX5_cut_0 : decode cX5_cut 0 = .ok (.iload_n 1, 1) := by decide +kernel
theorem dX5_cut_1 : decode cX5_cut 1 = .ok (.invokestatic 62, 3) := by decide +kernel
theorem dX5_cut_4 : decode cX5_cut 4 = .ok (.ifCond .eq 15, 3) := by decide +kernel
theorem dX5_cut_7 : decode cX5_cut 7 = .ok (.iload_n 2, 1) := by decide +kernel
theorem dX5_cut_8 : decode cX5_cut 8 = .ok (.i2l, 1) := by decide +kernel
theorem dX5_cut_9 : decode cX5_cut 9 = .ok (.lconst 0, 1) := by decide +kernel
theorem dX5_cut_10 : decode cX5_cut 10 = .ok (.ldc2_w 120, 3) := by decide +kernel
theorem dX5_cut_13 : decode cX5_cut 13 = .ok (.invokestatic 54, 3) := by decide +kernel
theorem dX5_cut_16 : decode cX5_cut 16 = .ok (.ifCond .ne 8, 3) := by decide +kernel
theorem dX5_cut_19 : decode cX5_cut 19 = .ok (.aload_n 0, 1) := by decide +kernel
theorem dX5_cut_20 : decode cX5_cut 20 = .ok (.invokevirtual 110, 3) := by decide +kernel
theorem dX5_cut_23 : decode cX5_cut 23 = .ok (.ireturn, 1) := by decide +kernel
theorem dX5_cut_24 : decode cX5_cut 24 = .ok (.aload_n 0, 1) := by decide +kernel
theorem dX5_cut_25 : decode cX5_cut 25 = .ok (.getfield 7, 3) := by decide +kernel
theorem dX5_cut_28 : decode cX5_cut 28 = .ok (.bipush 65, 2) := by decide +kernel
theorem dX5_cut_30 : decode cX5_cut 30 = .ok (.iload_n 1, 1) := by decide +kernel
theorem dX5_cut_31 : decode cX5_cut 31 = .ok (.iadd, 1) := by decide +kernel
theorem dX5_cut_32 : decode cX5_cut 32 = .ok (.iaload, 1) := by decide +kernel
theorem dX5_cut_33 : decode cX5_cut 33 = .ok (.istore_n 3, 1) := by decide +kernel
theorem dX5_cut_34 : decode cX5_cut 34 = .ok (.aload_n 0, 1) := by decide +kernel
theorem dX5_cut_35 : decode cX5_cut 35 = .ok (.getfield 7, 3) := by decide +kernel
theorem dX5_cut_38 : decode cX5_cut 38 = .ok (.bipush 65, 2) := by decide +kernel
theorem dX5_cut_40 : decode cX5_cut 40 = .ok (.iload_n 1, 1) := by decide +kernel
theorem dX5_cut_41 : decode cX5_cut 41 = .ok (.iadd, 1) := by decide +kernel
theorem dX5_cut_42 : decode cX5_cut 42 = .ok (.iload_n 2, 1) := by decide +kernel
theorem dX5_cut_43 : decode cX5_cut 43 = .ok (.iastore, 1) := by decide +kernel
theorem dX5_cut_44 : decode cX5_cut 44 = .ok (.aload_n 0, 1) := by decide +kernel
theorem dX5_cut_45 : decode cX5_cut 45 = .ok (.iconst 0, 1) := by decide +kernel
theorem dX5_cut_46 : decode cX5_cut 46 = .ok (.putfield 104, 3) := by decide +kernel
theorem dX5_cut_49 : decode cX5_cut 49 = .ok (.iload_n 3, 1) := by decide +kernel
theorem dX5_cut_50 : decode cX5_cut 50 = .ok (.ireturn, 1) := by decide +kernel
theorem dX5_note_0 : decode cX5_note 0 = .ok (.aload_n 0, 1) := by decide +kernel
theorem dX5_note_1 : decode cX5_note 1 = .ok (.getfield 104, 3) := by decide +kernel
theorem dX5_note_4 : decode cX5_note 4 = .ok (.bipush 8, 2) := by decide +kernel
theorem dX5_note_6 : decode cX5_note 6 = .ok (.if_icmp .ne 43, 3) := by decide +kernel
theorem dX5_note_9 : decode cX5_note 9 = .ok (.iconst 0, 1) := by decide +kernel
theorem dX5_note_10 : decode cX5_note 10 = .ok (.istore_n 1, 1) := by decide +kernel
theorem dX5_note_11 : decode cX5_note 11 = .ok (.iload_n 1, 1) := by decide +kernel
theorem dX5_note_12 : decode cX5_note 12 = .ok (.sipush 455, 3) := by decide +kernel
theorem dX5_note_15 : decode cX5_note 15 = .ok (.if_icmp .ge 24, 3) := by decide +kernel
theorem dX5_note_18 : decode cX5_note 18 = .ok (.aload_n 0, 1) := by decide +kernel
theorem dX5_note_19 : decode cX5_note 19 = .ok (.getfield 23, 3) := by decide +kernel
theorem dX5_note_22 : decode cX5_note 22 = .ok (.iload_n 1, 1) := by decide +kernel
theorem dX5_note_23 : decode cX5_note 23 = .ok (.aload_n 0, 1) := by decide +kernel
theorem dX5_note_24 : decode cX5_note 24 = .ok (.getfield 23, 3) := by decide +kernel
theorem dX5_note_27 : decode cX5_note 27 = .ok (.iload_n 1, 1) := by decide +kernel
theorem dX5_note_28 : decode cX5_note 28 = .ok (.bipush 65, 2) := by decide +kernel
theorem dX5_note_30 : decode cX5_note 30 = .ok (.iadd, 1) := by decide +kernel
theorem dX5_note_31 : decode cX5_note 31 = .ok (.iaload, 1) := by decide +kernel
theorem dX5_note_32 : decode cX5_note 32 = .ok (.iastore, 1) := by decide +kernel
theorem dX5_note_33 : decode cX5_note 33 = .ok (.iinc 1 1, 3) := by decide +kernel
theorem dX5_note_36 : decode cX5_note 36 = .ok (.goto (-25), 3) := by decide +kernel
theorem dX5_note_39 : decode cX5_note 39 = .ok (.aload_n 0, 1) := by decide +kernel
theorem dX5_note_40 : decode cX5_note 40 = .ok (.dup, 1) := by decide +kernel
theorem dX5_note_41 : decode cX5_note 41 = .ok (.getfield 104, 3) := by decide +kernel
theorem dX5_note_44 : decode cX5_note 44 = .ok (.iconst 1, 1) := by decide +kernel
theorem dX5_note_45 : decode cX5_note 45 = .ok (.isub, 1) := by decide +kernel
theorem dX5_note_46 : decode cX5_note 46 = .ok (.putfield 104, 3) := by decide +kernel
theorem dX5_note_49 : decode cX5_note 49 = .ok (.iconst 0, 1) := by decide +kernel
theorem dX5_note_50 : decode cX5_note 50 = .ok (.istore_n 1, 1) := by decide +kernel
theorem dX5_note_51 : decode cX5_note 51 = .ok (.iload_n 1, 1) := by decide +kernel
theorem dX5_note_52 : decode cX5_note 52 = .ok (.bipush 65, 2) := by decide +kernel
theorem dX5_note_54 : decode cX5_note 54 = .ok (.if_icmp .ge 29, 3) := by decide +kernel
theorem dX5_note_57 : decode cX5_note 57 = .ok (.aload_n 0, 1) := by decide +kernel
theorem dX5_note_58 : decode cX5_note 58 = .ok (.getfield 23, 3) := by decide +kernel
theorem dX5_note_61 : decode cX5_note 61 = .ok (.bipush 65, 2) := by decide +kernel
theorem dX5_note_63 : decode cX5_note 63 = .ok (.aload_n 0, 1) := by decide +kernel
theorem dX5_note_64 : decode cX5_note 64 = .ok (.getfield 104, 3) := by decide +kernel
theorem dX5_note_67 : decode cX5_note 67 = .ok (.imul, 1) := by decide +kernel
theorem dX5_note_68 : decode cX5_note 68 = .ok (.iload_n 1, 1) := by decide +kernel
theorem dX5_note_69 : decode cX5_note 69 = .ok (.iadd, 1) := by decide +kernel
theorem dX5_note_70 : decode cX5_note 70 = .ok (.aload_n 0, 1) := by decide +kernel
theorem dX5_note_71 : decode cX5_note 71 = .ok (.getfield 7, 3) := by decide +kernel
theorem dX5_note_74 : decode cX5_note 74 = .ok (.iload_n 1, 1) := by decide +kernel
theorem dX5_note_75 : decode cX5_note 75 = .ok (.iaload, 1) := by decide +kernel
theorem dX5_note_76 : decode cX5_note 76 = .ok (.iastore, 1) := by decide +kernel
theorem dX5_note_77 : decode cX5_note 77 = .ok (.iinc 1 1, 3) := by decide +kernel
theorem dX5_note_80 : decode cX5_note 80 = .ok (.goto (-29), 3) := by decide +kernel
theorem dX5_note_83 : decode cX5_note 83 = .ok (.aload_n 0, 1) := by decide +kernel
theorem dX5_note_84 : decode cX5_note 84 = .ok (.dup, 1) := by decide +kernel
theorem dX5_note_85 : decode cX5_note 85 = .ok (.getfield 104, 3) := by decide +kernel
theorem dX5_note_88 : decode cX5_note 88 = .ok (.iconst 1, 1) := by decide +kernel
theorem dX5_note_89 : decode cX5_note 89 = .ok (.iadd, 1) := by decide +kernel
theorem dX5_note_90 : decode cX5_note 90 = .ok (.putfield 104, 3) := by decide +kernel
theorem dX5_note_93 : decode cX5_note 93 = .ok (.return_, 1) := by decide +kernel
theorem dX5_dip_0 : decode cX5_dip 0 = .ok (.iload_n 1, 1) := by decide +kernel
theorem dX5_dip_1 : decode cX5_dip 1 = .ok (.i2l, 1) := by decide +kernel
theorem dX5_dip_2 : decode cX5_dip 2 = .ok (.lconst 0, 1) := by decide +kernel
theorem dX5_dip_3 : decode cX5_dip 3 = .ok (.ldc2_w 108, 3) := by decide +kernel
theorem dX5_dip_6 : decode cX5_dip 6 = .ok (.invokestatic 54, 3) := by decide +kernel
theorem dX5_dip_9 : decode cX5_dip 9 = .ok (.ifCond .ne 8, 3) := by decide +kernel
theorem dX5_dip_12 : decode cX5_dip 12 = .ok (.aload_n 0, 1) := by decide +kernel
theorem dX5_dip_13 : decode cX5_dip 13 = .ok (.invokevirtual 110, 3) := by decide +kernel
theorem dX5_dip_16 : decode cX5_dip 16 = .ok (.ireturn, 1) := by decide +kernel
theorem dX5_dip_17 : decode cX5_dip 17 = .ok (.aload_n 0, 1) := by decide +kernel
theorem dX5_dip_18 : decode cX5_dip 18 = .ok (.invokevirtual 122, 3) := by decide +kernel
theorem dX5_dip_21 : decode cX5_dip 21 = .ok (.aload_n 0, 1) := by decide +kernel
theorem dX5_dip_22 : decode cX5_dip 22 = .ok (.getfield 7, 3) := by decide +kernel
theorem dX5_dip_25 : decode cX5_dip 25 = .ok (.bipush 64, 2) := by decide +kernel
theorem dX5_dip_27 : decode cX5_dip 27 = .ok (.iaload, 1) := by decide +kernel
theorem dX5_dip_28 : decode cX5_dip 28 = .ok (.istore_n 2, 1) := by decide +kernel
theorem dX5_dip_29 : decode cX5_dip 29 = .ok (.aload_n 0, 1) := by decide +kernel
theorem dX5_dip_30 : decode cX5_dip 30 = .ok (.getfield 7, 3) := by decide +kernel
theorem dX5_dip_33 : decode cX5_dip 33 = .ok (.bipush 64, 2) := by decide +kernel
theorem dX5_dip_35 : decode cX5_dip 35 = .ok (.iload_n 1, 1) := by decide +kernel
theorem dX5_dip_36 : decode cX5_dip 36 = .ok (.iastore, 1) := by decide +kernel
theorem dX5_dip_37 : decode cX5_dip 37 = .ok (.iload_n 2, 1) := by decide +kernel
theorem dX5_dip_38 : decode cX5_dip 38 = .ok (.ireturn, 1) := by decide +kernel
theorem dX5_print_0 : decode cX5_print 0 = .ok (.iload_n 1, 1) := by decide +kernel
theorem dX5_print_1 : decode cX5_print 1 = .ok (.iload_n 2, 1) := by decide +kernel
theorem dX5_print_2 : decode cX5_print 2 = .ok (.iload_n 3, 1) := by decide +kernel
theorem dX5_print_3 : decode cX5_print 3 = .ok (.iload 4, 2) := by decide +kernel
theorem dX5_print_5 : decode cX5_print 5 = .ok (.iload 5, 2) := by decide +kernel
theorem dX5_print_7 : decode cX5_print 7 = .ok (.invokestatic 125, 3) := by decide +kernel
theorem dX5_print_10 : decode cX5_print 10 = .ok (.ifCond .ne 8, 3) := by decide +kernel
theorem dX5_print_13 : decode cX5_print 13 = .ok (.aload_n 0, 1) := by decide +kernel
theorem dX5_print_14 : decode cX5_print 14 = .ok (.invokevirtual 110, 3) := by decide +kernel
theorem dX5_print_17 : decode cX5_print 17 = .ok (.ireturn, 1) := by decide +kernel
theorem dX5_print_18 : decode cX5_print 18 = .ok (.aload_n 0, 1) := by decide +kernel
theorem dX5_print_19 : decode cX5_print 19 = .ok (.getfield 7, 3) := by decide +kernel
theorem dX5_print_22 : decode cX5_print 22 = .ok (.bipush 64, 2) := by decide +kernel
theorem dX5_print_24 : decode cX5_print 24 = .ok (.iaload, 1) := by decide +kernel
theorem dX5_print_25 : decode cX5_print 25 = .ok (.ifCond .ne 8, 3) := by decide +kernel
theorem dX5_print_28 : decode cX5_print 28 = .ok (.aload_n 0, 1) := by decide +kernel
theorem dX5_print_29 : decode cX5_print 29 = .ok (.invokevirtual 129, 3) := by decide +kernel
theorem dX5_print_32 : decode cX5_print 32 = .ok (.ireturn, 1) := by decide +kernel
theorem dX5_print_33 : decode cX5_print 33 = .ok (.aload_n 0, 1) := by decide +kernel
theorem dX5_print_34 : decode cX5_print 34 = .ok (.invokevirtual 122, 3) := by decide +kernel
theorem dX5_print_37 : decode cX5_print 37 = .ok (.aload_n 0, 1) := by decide +kernel
theorem dX5_print_38 : decode cX5_print 38 = .ok (.iload_n 1, 1) := by decide +kernel
theorem dX5_print_39 : decode cX5_print 39 = .ok (.iload_n 2, 1) := by decide +kernel
theorem dX5_print_40 : decode cX5_print 40 = .ok (.iload_n 3, 1) := by decide +kernel
theorem dX5_print_41 : decode cX5_print 41 = .ok (.iload 4, 2) := by decide +kernel
theorem dX5_print_43 : decode cX5_print 43 = .ok (.iload 5, 2) := by decide +kernel
theorem dX5_print_45 : decode cX5_print 45 = .ok (.invokevirtual 132, 3) := by decide +kernel
theorem dX5_print_48 : decode cX5_print 48 = .ok (.ireturn, 1) := by decide +kernel
theorem dX5_undo_0 : decode cX5_undo 0 = .ok (.aload_n 0, 1) := by decide +kernel
theorem dX5_undo_1 : decode cX5_undo 1 = .ok (.getfield 104, 3) := by decide +kernel
theorem dX5_undo_4 : decode cX5_undo 4 = .ok (.ifCond .ne 8, 3) := by decide +kernel
theorem dX5_undo_7 : decode cX5_undo 7 = .ok (.aload_n 0, 1) := by decide +kernel
theorem dX5_undo_8 : decode cX5_undo 8 = .ok (.invokevirtual 129, 3) := by decide +kernel
theorem dX5_undo_11 : decode cX5_undo 11 = .ok (.ireturn, 1) := by decide +kernel
theorem dX5_undo_12 : decode cX5_undo 12 = .ok (.aload_n 0, 1) := by decide +kernel
theorem dX5_undo_13 : decode cX5_undo 13 = .ok (.dup, 1) := by decide +kernel
theorem dX5_undo_14 : decode cX5_undo 14 = .ok (.getfield 104, 3) := by decide +kernel
theorem dX5_undo_17 : decode cX5_undo 17 = .ok (.iconst 1, 1) := by decide +kernel
theorem dX5_undo_18 : decode cX5_undo 18 = .ok (.isub, 1) := by decide +kernel
theorem dX5_undo_19 : decode cX5_undo 19 = .ok (.putfield 104, 3) := by decide +kernel
theorem dX5_undo_22 : decode cX5_undo 22 = .ok (.iconst 0, 1) := by decide +kernel
theorem dX5_undo_23 : decode cX5_undo 23 = .ok (.istore_n 1, 1) := by decide +kernel
theorem dX5_undo_24 : decode cX5_undo 24 = .ok (.iload_n 1, 1) := by decide +kernel
theorem dX5_undo_25 : decode cX5_undo 25 = .ok (.bipush 65, 2) := by decide +kernel
theorem dX5_undo_27 : decode cX5_undo 27 = .ok (.if_icmp .ge 29, 3) := by decide +kernel
theorem dX5_undo_30 : decode cX5_undo 30 = .ok (.aload_n 0, 1) := by decide +kernel
theorem dX5_undo_31 : decode cX5_undo 31 = .ok (.getfield 7, 3) := by decide +kernel
theorem dX5_undo_34 : decode cX5_undo 34 = .ok (.iload_n 1, 1) := by decide +kernel
theorem dX5_undo_35 : decode cX5_undo 35 = .ok (.aload_n 0, 1) := by decide +kernel
theorem dX5_undo_36 : decode cX5_undo 36 = .ok (.getfield 23, 3) := by decide +kernel
theorem dX5_undo_39 : decode cX5_undo 39 = .ok (.bipush 65, 2) := by decide +kernel
theorem dX5_undo_41 : decode cX5_undo 41 = .ok (.aload_n 0, 1) := by decide +kernel
theorem dX5_undo_42 : decode cX5_undo 42 = .ok (.getfield 104, 3) := by decide +kernel
theorem dX5_undo_45 : decode cX5_undo 45 = .ok (.imul, 1) := by decide +kernel
theorem dX5_undo_46 : decode cX5_undo 46 = .ok (.iload_n 1, 1) := by decide +kernel
theorem dX5_undo_47 : decode cX5_undo 47 = .ok (.iadd, 1) := by decide +kernel
theorem dX5_undo_48 : decode cX5_undo 48 = .ok (.iaload, 1) := by decide +kernel
theorem dX5_undo_49 : decode cX5_undo 49 = .ok (.iastore, 1) := by decide +kernel
theorem dX5_undo_50 : decode cX5_undo 50 = .ok (.iinc 1 1, 3) := by decide +kernel
theorem dX5_undo_53 : decode cX5_undo 53 = .ok (.goto (-29), 3) := by decide +kernel
theorem dX5_undo_56 : decode cX5_undo 56 = .ok (.aload_n 0, 1) := by decide +kernel
theorem dX5_undo_57 : decode cX5_undo 57 = .ok (.getfield 7, 3) := by decide +kernel
theorem dX5_undo_60 : decode cX5_undo 60 = .ok (.bipush 64, 2) := by decide +kernel
theorem dX5_undo_62 : decode cX5_undo 62 = .ok (.iaload, 1) := by decide +kernel
theorem dX5_undo_63 : decode cX5_undo 63 = .ok (.ireturn, 1) := by decide +kernel
theorem dX5_type_0 : decode cX5_type 0 = .ok (.iload_n 1, 1) := by decide +kernel
theorem dX5_type_1 : decode cX5_type 1 = .ok (.i2l, 1) := by decide +kernel
theorem dX5_type_2 : decode cX5_type 2 = .ok (.lconst 0, 1) := by decide +kernel
theorem dX5_type_3 : decode cX5_type 3 = .ok (.ldc2_w 136, 3) := by decide +kernel
theorem dX5_type_6 : decode cX5_type 6 = .ok (.invokestatic 54, 3) := by decide +kernel
theorem dX5_type_9 : decode cX5_type 9 = .ok (.ifCond .ne 8, 3) := by decide +kernel
theorem dX5_type_12 : decode cX5_type 12 = .ok (.aload_n 0, 1) := by decide +kernel
theorem dX5_type_13 : decode cX5_type 13 = .ok (.invokevirtual 110, 3) := by decide +kernel
theorem dX5_type_16 : decode cX5_type 16 = .ok (.ireturn, 1) := by decide +kernel
theorem dX5_type_17 : decode cX5_type 17 = .ok (.aload_n 0, 1) := by decide +kernel
theorem dX5_type_18 : decode cX5_type 18 = .ok (.getfield 138, 3) := by decide +kernel
theorem dX5_type_21 : decode cX5_type 21 = .ok (.sipush 150, 3) := by decide +kernel
theorem dX5_type_24 : decode cX5_type 24 = .ok (.if_icmp .ne 8, 3) := by decide +kernel
theorem dX5_type_27 : decode cX5_type 27 = .ok (.aload_n 0, 1) := by decide +kernel
theorem dX5_type_28 : decode cX5_type 28 = .ok (.invokevirtual 141, 3) := by decide +kernel
theorem dX5_type_31 : decode cX5_type 31 = .ok (.ireturn, 1) := by decide +kernel
theorem dX5_type_32 : decode cX5_type 32 = .ok (.aload_n 0, 1) := by decide +kernel
theorem dX5_type_33 : decode cX5_type 33 = .ok (.getfield 26, 3) := by decide +kernel
theorem dX5_type_36 : decode cX5_type 36 = .ok (.aload_n 0, 1) := by decide +kernel
theorem dX5_type_37 : decode cX5_type 37 = .ok (.getfield 138, 3) := by decide +kernel
theorem dX5_type_40 : decode cX5_type 40 = .ok (.iload_n 1, 1) := by decide +kernel
theorem dX5_type_41 : decode cX5_type 41 = .ok (.iastore, 1) := by decide +kernel
theorem dX5_type_42 : decode cX5_type 42 = .ok (.aload_n 0, 1) := by decide +kernel
theorem dX5_type_43 : decode cX5_type 43 = .ok (.dup, 1) := by decide +kernel
theorem dX5_type_44 : decode cX5_type 44 = .ok (.getfield 138, 3) := by decide +kernel
theorem dX5_type_47 : decode cX5_type 47 = .ok (.iconst 1, 1) := by decide +kernel
theorem dX5_type_48 : decode cX5_type 48 = .ok (.iadd, 1) := by decide +kernel
theorem dX5_type_49 : decode cX5_type 49 = .ok (.putfield 138, 3) := by decide +kernel
theorem dX5_type_52 : decode cX5_type 52 = .ok (.aload_n 0, 1) := by decide +kernel
theorem dX5_type_53 : decode cX5_type 53 = .ok (.getfield 138, 3) := by decide +kernel
theorem dX5_type_56 : decode cX5_type 56 = .ok (.ireturn, 1) := by decide +kernel
theorem dX5_clear_0 : decode cX5_clear 0 = .ok (.aload_n 0, 1) := by decide +kernel
theorem dX5_clear_1 : decode cX5_clear 1 = .ok (.getfield 138, 3) := by decide +kernel
theorem dX5_clear_4 : decode cX5_clear 4 = .ok (.istore_n 1, 1) := by decide +kernel
theorem dX5_clear_5 : decode cX5_clear 5 = .ok (.aload_n 0, 1) := by decide +kernel
theorem dX5_clear_6 : decode cX5_clear 6 = .ok (.iconst 0, 1) := by decide +kernel
theorem dX5_clear_7 : decode cX5_clear 7 = .ok (.putfield 138, 3) := by decide +kernel
theorem dX5_clear_10 : decode cX5_clear 10 = .ok (.iload_n 1, 1) := by decide +kernel
theorem dX5_clear_11 : decode cX5_clear 11 = .ok (.ireturn, 1) := by decide +kernel
theorem dX5_byteAt_0 : decode cX5_byteAt 0 = .ok (.iload_n 1, 1) := by decide +kernel
theorem dX5_byteAt_1 : decode cX5_byteAt 1 = .ok (.aload_n 0, 1) := by decide +kernel
theorem dX5_byteAt_2 : decode cX5_byteAt 2 = .ok (.getfield 138, 3) := by decide +kernel
theorem dX5_byteAt_5 : decode cX5_byteAt 5 = .ok (.if_icmp .ge 12, 3) := by decide +kernel
theorem dX5_byteAt_8 : decode cX5_byteAt 8 = .ok (.aload_n 0, 1) := by decide +kernel
theorem dX5_byteAt_9 : decode cX5_byteAt 9 = .ok (.getfield 26, 3) := by decide +kernel
theorem dX5_byteAt_12 : decode cX5_byteAt 12 = .ok (.iload_n 1, 1) := by decide +kernel
theorem dX5_byteAt_13 : decode cX5_byteAt 13 = .ok (.iaload, 1) := by decide +kernel
theorem dX5_byteAt_14 : decode cX5_byteAt 14 = .ok (.goto 4, 3) := by decide +kernel
theorem dX5_byteAt_17 : decode cX5_byteAt 17 = .ok (.iconst (-1), 1) := by decide +kernel
theorem dX5_byteAt_18 : decode cX5_byteAt 18 = .ok (.ireturn, 1) := by decide +kernel
theorem dX5_nextToken_0 : decode cX5_nextToken 0 = .ok (.aload_n 0, 1) := by decide +kernel
theorem dX5_nextToken_1 : decode cX5_nextToken 1 = .ok (.aload_n 0, 1) := by decide +kernel
theorem dX5_nextToken_2 : decode cX5_nextToken 2 = .ok (.getfield 144, 3) := by decide +kernel
theorem dX5_nextToken_5 : decode cX5_nextToken 5 = .ok (.invokevirtual 147, 3) := by decide +kernel
theorem dX5_nextToken_8 : decode cX5_nextToken 8 = .ok (.bipush 32, 2) := by decide +kernel
theorem dX5_nextToken_10 : decode cX5_nextToken 10 = .ok (.if_icmp .ne 16, 3) := by decide +kernel
theorem dX5_nextToken_13 : decode cX5_nextToken 13 = .ok (.aload_n 0, 1) := by decide +kernel
theorem dX5_nextToken_14 : decode cX5_nextToken 14 = .ok (.dup, 1) := by decide +kernel
theorem dX5_nextToken_15 : decode cX5_nextToken 15 = .ok (.getfield 144, 3) := by decide +kernel
theorem dX5_nextToken_18 : decode cX5_nextToken 18 = .ok (.iconst 1, 1) := by decide +kernel
theorem dX5_nextToken_19 : decode cX5_nextToken 19 = .ok (.iadd, 1) := by decide +kernel
theorem dX5_nextToken_20 : decode cX5_nextToken 20 = .ok (.putfield 144, 3) := by decide +kernel
theorem dX5_nextToken_23 : decode cX5_nextToken 23 = .ok (.goto (-23), 3) := by decide +kernel
theorem dX5_nextToken_26 : decode cX5_nextToken 26 = .ok (.aload_n 0, 1) := by decide +kernel
theorem dX5_nextToken_27 : decode cX5_nextToken 27 = .ok (.aload_n 0, 1) := by decide +kernel
theorem dX5_nextToken_28 : decode cX5_nextToken 28 = .ok (.getfield 144, 3) := by decide +kernel
theorem dX5_nextToken_31 : decode cX5_nextToken 31 = .ok (.putfield 150, 3) := by decide +kernel
theorem dX5_nextToken_34 : decode cX5_nextToken 34 = .ok (.aload_n 0, 1) := by decide +kernel
theorem dX5_nextToken_35 : decode cX5_nextToken 35 = .ok (.iconst 0, 1) := by decide +kernel
theorem dX5_nextToken_36 : decode cX5_nextToken 36 = .ok (.putfield 153, 3) := by decide +kernel
theorem dX5_nextToken_39 : decode cX5_nextToken 39 = .ok (.aload_n 0, 1) := by decide +kernel
theorem dX5_nextToken_40 : decode cX5_nextToken 40 = .ok (.aload_n 0, 1) := by decide +kernel
theorem dX5_nextToken_41 : decode cX5_nextToken 41 = .ok (.getfield 144, 3) := by decide +kernel
theorem dX5_nextToken_44 : decode cX5_nextToken 44 = .ok (.aload_n 0, 1) := by decide +kernel
theorem dX5_nextToken_45 : decode cX5_nextToken 45 = .ok (.getfield 138, 3) := by decide +kernel
theorem dX5_nextToken_48 : decode cX5_nextToken 48 = .ok (.if_icmp .ne 7, 3) := by decide +kernel
theorem dX5_nextToken_51 : decode cX5_nextToken 51 = .ok (.iconst 3, 1) := by decide +kernel
theorem dX5_nextToken_52 : decode cX5_nextToken 52 = .ok (.goto 4, 3) := by decide +kernel
theorem dX5_nextToken_55 : decode cX5_nextToken 55 = .ok (.iconst 0, 1) := by decide +kernel
theorem dX5_nextToken_56 : decode cX5_nextToken 56 = .ok (.putfield 156, 3) := by decide +kernel
theorem dX5_nextToken_59 : decode cX5_nextToken 59 = .ok (.aload_n 0, 1) := by decide +kernel
theorem dX5_nextToken_60 : decode cX5_nextToken 60 = .ok (.aload_n 0, 1) := by decide +kernel
theorem dX5_nextToken_61 : decode cX5_nextToken 61 = .ok (.getfield 144, 3) := by decide +kernel
theorem dX5_nextToken_64 : decode cX5_nextToken 64 = .ok (.invokevirtual 147, 3) := by decide +kernel
theorem dX5_nextToken_67 : decode cX5_nextToken 67 = .ok (.i2l, 1) := by decide +kernel
theorem dX5_nextToken_68 : decode cX5_nextToken 68 = .ok (.ldc2_w 159, 3) := by decide +kernel
theorem dX5_nextToken_71 : decode cX5_nextToken 71 = .ok (.ldc2_w 161, 3) := by decide +kernel
theorem dX5_nextToken_74 : decode cX5_nextToken 74 = .ok (.invokestatic 54, 3) := by decide +kernel
theorem dX5_nextToken_77 : decode cX5_nextToken 77 = .ok (.ifCond .eq 29, 3) := by decide +kernel
theorem dX5_nextToken_80 : decode cX5_nextToken 80 = .ok (.aload_n 0, 1) := by decide +kernel
theorem dX5_nextToken_81 : decode cX5_nextToken 81 = .ok (.getfield 156, 3) := by decide +kernel
theorem dX5_nextToken_84 : decode cX5_nextToken 84 = .ok (.iconst 2, 1) := by decide +kernel
theorem dX5_nextToken_85 : decode cX5_nextToken 85 = .ok (.if_icmp .ge 21, 3) := by decide +kernel
theorem dX5_nextToken_88 : decode cX5_nextToken 88 = .ok (.aload_n 0, 1) := by decide +kernel
theorem dX5_nextToken_89 : decode cX5_nextToken 89 = .ok (.iconst 1, 1) := by decide +kernel
theorem dX5_nextToken_90 : decode cX5_nextToken 90 = .ok (.putfield 156, 3) := by decide +kernel
theorem dX5_nextToken_93 : decode cX5_nextToken 93 = .ok (.aload_n 0, 1) := by decide +kernel
theorem dX5_nextToken_94 : decode cX5_nextToken 94 = .ok (.dup, 1) := by decide +kernel
theorem dX5_nextToken_95 : decode cX5_nextToken 95 = .ok (.getfield 144, 3) := by decide +kernel
theorem dX5_nextToken_98 : decode cX5_nextToken 98 = .ok (.iconst 1, 1) := by decide +kernel
theorem dX5_nextToken_99 : decode cX5_nextToken 99 = .ok (.iadd, 1) := by decide +kernel
theorem dX5_nextToken_100 : decode cX5_nextToken 100 = .ok (.putfield 144, 3) := by decide +kernel
theorem dX5_nextToken_103 : decode cX5_nextToken 103 = .ok (.goto (-44), 3) := by decide +kernel
theorem dX5_nextToken_106 : decode cX5_nextToken 106 = .ok (.aload_n 0, 1) := by decide +kernel
theorem dX5_nextToken_107 : decode cX5_nextToken 107 = .ok (.aload_n 0, 1) := by decide +kernel
theorem dX5_nextToken_108 : decode cX5_nextToken 108 = .ok (.getfield 144, 3) := by decide +kernel
theorem dX5_nextToken_111 : decode cX5_nextToken 111 = .ok (.invokevirtual 147, 3) := by decide +kernel
theorem dX5_nextToken_114 : decode cX5_nextToken 114 = .ok (.i2l, 1) := by decide +kernel
theorem dX5_nextToken_115 : decode cX5_nextToken 115 = .ok (.ldc2_w 163, 3) := by decide +kernel
theorem dX5_nextToken_118 : decode cX5_nextToken 118 = .ok (.ldc2_w 165, 3) := by decide +kernel
theorem dX5_nextToken_121 : decode cX5_nextToken 121 = .ok (.invokestatic 54, 3) := by decide +kernel
theorem dX5_nextToken_124 : decode cX5_nextToken 124 = .ok (.ifCond .eq 69, 3) := by decide +kernel
theorem dX5_nextToken_127 : decode cX5_nextToken 127 = .ok (.aload_n 0, 1) := by decide +kernel
theorem dX5_nextToken_128 : decode cX5_nextToken 128 = .ok (.getfield 156, 3) := by decide +kernel
theorem dX5_nextToken_131 : decode cX5_nextToken 131 = .ok (.iconst 1, 1) := by decide +kernel
theorem dX5_nextToken_132 : decode cX5_nextToken 132 = .ok (.if_icmp .eq 61, 3) := by decide +kernel
theorem dX5_nextToken_135 : decode cX5_nextToken 135 = .ok (.aload_n 0, 1) := by decide +kernel
theorem dX5_nextToken_136 : decode cX5_nextToken 136 = .ok (.iconst 2, 1) := by decide +kernel
theorem dX5_nextToken_137 : decode cX5_nextToken 137 = .ok (.putfield 156, 3) := by decide +kernel
theorem dX5_nextToken_140 : decode cX5_nextToken 140 = .ok (.aload_n 0, 1) := by decide +kernel
theorem dX5_nextToken_141 : decode cX5_nextToken 141 = .ok (.aload_n 0, 1) := by decide +kernel
theorem dX5_nextToken_142 : decode cX5_nextToken 142 = .ok (.getfield 153, 3) := by decide +kernel
theorem dX5_nextToken_145 : decode cX5_nextToken 145 = .ok (.bipush 99, 2) := by decide +kernel
theorem dX5_nextToken_147 : decode cX5_nextToken 147 = .ok (.if_icmp .le 10, 3) := by decide +kernel
theorem dX5_nextToken_150 : decode cX5_nextToken 150 = .ok (.aload_n 0, 1) := by decide +kernel
theorem dX5_nextToken_151 : decode cX5_nextToken 151 = .ok (.getfield 153, 3) := by decide +kernel
theorem dX5_nextToken_154 : decode cX5_nextToken 154 = .ok (.goto 23, 3) := by decide +kernel
theorem dX5_nextToken_157 : decode cX5_nextToken 157 = .ok (.bipush 10, 2) := by decide +kernel
theorem dX5_nextToken_159 : decode cX5_nextToken 159 = .ok (.aload_n 0, 1) := by decide +kernel
theorem dX5_nextToken_160 : decode cX5_nextToken 160 = .ok (.getfield 153, 3) := by decide +kernel
theorem dX5_nextToken_163 : decode cX5_nextToken 163 = .ok (.imul, 1) := by decide +kernel
theorem dX5_nextToken_164 : decode cX5_nextToken 164 = .ok (.aload_n 0, 1) := by decide +kernel
theorem dX5_nextToken_165 : decode cX5_nextToken 165 = .ok (.getfield 26, 3) := by decide +kernel
theorem dX5_nextToken_168 : decode cX5_nextToken 168 = .ok (.aload_n 0, 1) := by decide +kernel
theorem dX5_nextToken_169 : decode cX5_nextToken 169 = .ok (.getfield 144, 3) := by decide +kernel
theorem dX5_nextToken_172 : decode cX5_nextToken 172 = .ok (.iaload, 1) := by decide +kernel
theorem dX5_nextToken_173 : decode cX5_nextToken 173 = .ok (.iadd, 1) := by decide +kernel
theorem dX5_nextToken_174 : decode cX5_nextToken 174 = .ok (.bipush 48, 2) := by decide +kernel
theorem dX5_nextToken_176 : decode cX5_nextToken 176 = .ok (.isub, 1) := by decide +kernel
theorem dX5_nextToken_177 : decode cX5_nextToken 177 = .ok (.putfield 153, 3) := by decide +kernel
theorem dX5_nextToken_180 : decode cX5_nextToken 180 = .ok (.aload_n 0, 1) := by decide +kernel
theorem dX5_nextToken_181 : decode cX5_nextToken 181 = .ok (.dup, 1) := by decide +kernel
theorem dX5_nextToken_182 : decode cX5_nextToken 182 = .ok (.getfield 144, 3) := by decide +kernel
theorem dX5_nextToken_185 : decode cX5_nextToken 185 = .ok (.iconst 1, 1) := by decide +kernel
theorem dX5_nextToken_186 : decode cX5_nextToken 186 = .ok (.iadd, 1) := by decide +kernel
theorem dX5_nextToken_187 : decode cX5_nextToken 187 = .ok (.putfield 144, 3) := by decide +kernel
theorem dX5_nextToken_190 : decode cX5_nextToken 190 = .ok (.goto (-84), 3) := by decide +kernel
theorem dX5_nextToken_193 : decode cX5_nextToken 193 = .ok (.aload_n 0, 1) := by decide +kernel
theorem dX5_nextToken_194 : decode cX5_nextToken 194 = .ok (.getfield 156, 3) := by decide +kernel
theorem dX5_nextToken_197 : decode cX5_nextToken 197 = .ok (.iconst 2, 1) := by decide +kernel
theorem dX5_nextToken_198 : decode cX5_nextToken 198 = .ok (.if_icmp .ne 24, 3) := by decide +kernel
theorem dX5_nextToken_201 : decode cX5_nextToken 201 = .ok (.aload_n 0, 1) := by decide +kernel
theorem dX5_nextToken_202 : decode cX5_nextToken 202 = .ok (.getfield 144, 3) := by decide +kernel
theorem dX5_nextToken_205 : decode cX5_nextToken 205 = .ok (.aload_n 0, 1) := by decide +kernel
theorem dX5_nextToken_206 : decode cX5_nextToken 206 = .ok (.getfield 150, 3) := by decide +kernel
theorem dX5_nextToken_209 : decode cX5_nextToken 209 = .ok (.isub, 1) := by decide +kernel
theorem dX5_nextToken_210 : decode cX5_nextToken 210 = .ok (.iconst 2, 1) := by decide +kernel
theorem dX5_nextToken_211 : decode cX5_nextToken 211 = .ok (.if_icmp .le 11, 3) := by decide +kernel
theorem dX5_nextToken_214 : decode cX5_nextToken 214 = .ok (.aload_n 0, 1) := by decide +kernel
theorem dX5_nextToken_215 : decode cX5_nextToken 215 = .ok (.iconst 0, 1) := by decide +kernel
theorem dX5_nextToken_216 : decode cX5_nextToken 216 = .ok (.putfield 156, 3) := by decide +kernel
theorem dX5_nextToken_219 : decode cX5_nextToken 219 = .ok (.goto 42, 3) := by decide +kernel
theorem dX5_nextToken_222 : decode cX5_nextToken 222 = .ok (.aload_n 0, 1) := by decide +kernel
theorem dX5_nextToken_223 : decode cX5_nextToken 223 = .ok (.getfield 156, 3) := by decide +kernel
theorem dX5_nextToken_226 : decode cX5_nextToken 226 = .ok (.ifCond .ne 35, 3) := by decide +kernel
theorem dX5_nextToken_229 : decode cX5_nextToken 229 = .ok (.aload_n 0, 1) := by decide +kernel
theorem dX5_nextToken_230 : decode cX5_nextToken 230 = .ok (.aload_n 0, 1) := by decide +kernel
theorem dX5_nextToken_231 : decode cX5_nextToken 231 = .ok (.aload_n 0, 1) := by decide +kernel
theorem dX5_nextToken_232 : decode cX5_nextToken 232 = .ok (.getfield 144, 3) := by decide +kernel
theorem dX5_nextToken_235 : decode cX5_nextToken 235 = .ok (.invokevirtual 147, 3) := by decide +kernel
theorem dX5_nextToken_238 : decode cX5_nextToken 238 = .ok (.bipush 59, 2) := by decide +kernel
theorem dX5_nextToken_240 : decode cX5_nextToken 240 = .ok (.if_icmp .ne 7, 3) := by decide +kernel
theorem dX5_nextToken_243 : decode cX5_nextToken 243 = .ok (.iconst 4, 1) := by decide +kernel
theorem dX5_nextToken_244 : decode cX5_nextToken 244 = .ok (.goto 4, 3) := by decide +kernel
theorem dX5_nextToken_247 : decode cX5_nextToken 247 = .ok (.iconst 0, 1) := by decide +kernel
theorem dX5_nextToken_248 : decode cX5_nextToken 248 = .ok (.putfield 156, 3) := by decide +kernel
theorem dX5_nextToken_251 : decode cX5_nextToken 251 = .ok (.aload_n 0, 1) := by decide +kernel
theorem dX5_nextToken_252 : decode cX5_nextToken 252 = .ok (.dup, 1) := by decide +kernel
theorem dX5_nextToken_253 : decode cX5_nextToken 253 = .ok (.getfield 144, 3) := by decide +kernel
theorem dX5_nextToken_256 : decode cX5_nextToken 256 = .ok (.iconst 1, 1) := by decide +kernel
theorem dX5_nextToken_257 : decode cX5_nextToken 257 = .ok (.iadd, 1) := by decide +kernel
theorem dX5_nextToken_258 : decode cX5_nextToken 258 = .ok (.putfield 144, 3) := by decide +kernel
theorem dX5_nextToken_261 : decode cX5_nextToken 261 = .ok (.return_, 1) := by decide +kernel
theorem dX5_isWord_0 : decode cX5_isWord 0 = .ok (.aload_n 0, 1) := by decide +kernel
theorem dX5_isWord_1 : decode cX5_isWord 1 = .ok (.getfield 156, 3) := by decide +kernel
theorem dX5_isWord_4 : decode cX5_isWord 4 = .ok (.iconst 1, 1) := by decide +kernel
theorem dX5_isWord_5 : decode cX5_isWord 5 = .ok (.if_icmp .ne 105, 3) := by decide +kernel
theorem dX5_isWord_8 : decode cX5_isWord 8 = .ok (.aload_n 0, 1) := by decide +kernel
theorem dX5_isWord_9 : decode cX5_isWord 9 = .ok (.getfield 144, 3) := by decide +kernel
theorem dX5_isWord_12 : decode cX5_isWord 12 = .ok (.aload_n 0, 1) := by decide +kernel
theorem dX5_isWord_13 : decode cX5_isWord 13 = .ok (.getfield 150, 3) := by decide +kernel
theorem dX5_isWord_16 : decode cX5_isWord 16 = .ok (.isub, 1) := by decide +kernel
theorem dX5_isWord_17 : decode cX5_isWord 17 = .ok (.iload 6, 2) := by decide +kernel
theorem dX5_isWord_19 : decode cX5_isWord 19 = .ok (.ifCond .ne 7, 3) := by decide +kernel
theorem dX5_isWord_22 : decode cX5_isWord 22 = .ok (.iconst 5, 1) := by decide +kernel
theorem dX5_isWord_23 : decode cX5_isWord 23 = .ok (.goto 5, 3) := by decide +kernel
theorem dX5_isWord_26 : decode cX5_isWord 26 = .ok (.bipush 6, 2) := by decide +kernel
theorem dX5_isWord_28 : decode cX5_isWord 28 = .ok (.if_icmp .ne 82, 3) := by decide +kernel
theorem dX5_isWord_31 : decode cX5_isWord 31 = .ok (.aload_n 0, 1) := by decide +kernel
theorem dX5_isWord_32 : decode cX5_isWord 32 = .ok (.getfield 26, 3) := by decide +kernel
theorem dX5_isWord_35 : decode cX5_isWord 35 = .ok (.aload_n 0, 1) := by decide +kernel
theorem dX5_isWord_36 : decode cX5_isWord 36 = .ok (.getfield 150, 3) := by decide +kernel
theorem dX5_isWord_39 : decode cX5_isWord 39 = .ok (.iaload, 1) := by decide +kernel
theorem dX5_isWord_40 : decode cX5_isWord 40 = .ok (.iload_n 1, 1) := by decide +kernel
theorem dX5_isWord_41 : decode cX5_isWord 41 = .ok (.if_icmp .ne 69, 3) := by decide +kernel
theorem dX5_isWord_44 : decode cX5_isWord 44 = .ok (.aload_n 0, 1) := by decide +kernel
theorem dX5_isWord_45 : decode cX5_isWord 45 = .ok (.getfield 26, 3) := by decide +kernel
theorem dX5_isWord_48 : decode cX5_isWord 48 = .ok (.aload_n 0, 1) := by decide +kernel
theorem dX5_isWord_49 : decode cX5_isWord 49 = .ok (.getfield 150, 3) := by decide +kernel
theorem dX5_isWord_52 : decode cX5_isWord 52 = .ok (.iconst 1, 1) := by decide +kernel
theorem dX5_isWord_53 : decode cX5_isWord 53 = .ok (.iadd, 1) := by decide +kernel
theorem dX5_isWord_54 : decode cX5_isWord 54 = .ok (.iaload, 1) := by decide +kernel
theorem dX5_isWord_55 : decode cX5_isWord 55 = .ok (.iload_n 2, 1) := by decide +kernel
theorem dX5_isWord_56 : decode cX5_isWord 56 = .ok (.if_icmp .ne 54, 3) := by decide +kernel
theorem dX5_isWord_59 : decode cX5_isWord 59 = .ok (.aload_n 0, 1) := by decide +kernel
theorem dX5_isWord_60 : decode cX5_isWord 60 = .ok (.getfield 26, 3) := by decide +kernel
theorem dX5_isWord_63 : decode cX5_isWord 63 = .ok (.aload_n 0, 1) := by decide +kernel
theorem dX5_isWord_64 : decode cX5_isWord 64 = .ok (.getfield 150, 3) := by decide +kernel
theorem dX5_isWord_67 : decode cX5_isWord 67 = .ok (.iconst 2, 1) := by decide +kernel
theorem dX5_isWord_68 : decode cX5_isWord 68 = .ok (.iadd, 1) := by decide +kernel
theorem dX5_isWord_69 : decode cX5_isWord 69 = .ok (.iaload, 1) := by decide +kernel
theorem dX5_isWord_70 : decode cX5_isWord 70 = .ok (.iload_n 3, 1) := by decide +kernel
theorem dX5_isWord_71 : decode cX5_isWord 71 = .ok (.if_icmp .ne 39, 3) := by decide +kernel
theorem dX5_isWord_74 : decode cX5_isWord 74 = .ok (.aload_n 0, 1) := by decide +kernel
theorem dX5_isWord_75 : decode cX5_isWord 75 = .ok (.getfield 26, 3) := by decide +kernel
theorem dX5_isWord_78 : decode cX5_isWord 78 = .ok (.aload_n 0, 1) := by decide +kernel
theorem dX5_isWord_79 : decode cX5_isWord 79 = .ok (.getfield 150, 3) := by decide +kernel
theorem dX5_isWord_82 : decode cX5_isWord 82 = .ok (.iconst 3, 1) := by decide +kernel
theorem dX5_isWord_83 : decode cX5_isWord 83 = .ok (.iadd, 1) := by decide +kernel
theorem dX5_isWord_84 : decode cX5_isWord 84 = .ok (.iaload, 1) := by decide +kernel
theorem dX5_isWord_85 : decode cX5_isWord 85 = .ok (.iload 4, 2) := by decide +kernel
theorem dX5_isWord_87 : decode cX5_isWord 87 = .ok (.if_icmp .ne 23, 3) := by decide +kernel
theorem dX5_isWord_90 : decode cX5_isWord 90 = .ok (.aload_n 0, 1) := by decide +kernel
theorem dX5_isWord_91 : decode cX5_isWord 91 = .ok (.getfield 26, 3) := by decide +kernel
theorem dX5_isWord_94 : decode cX5_isWord 94 = .ok (.aload_n 0, 1) := by decide +kernel
theorem dX5_isWord_95 : decode cX5_isWord 95 = .ok (.getfield 150, 3) := by decide +kernel
theorem dX5_isWord_98 : decode cX5_isWord 98 = .ok (.iconst 4, 1) := by decide +kernel
theorem dX5_isWord_99 : decode cX5_isWord 99 = .ok (.iadd, 1) := by decide +kernel
theorem dX5_isWord_100 : decode cX5_isWord 100 = .ok (.iaload, 1) := by decide +kernel
theorem dX5_isWord_101 : decode cX5_isWord 101 = .ok (.iload 5, 2) := by decide +kernel
theorem dX5_isWord_103 : decode cX5_isWord 103 = .ok (.if_icmp .ne 7, 3) := by decide +kernel
theorem dX5_isWord_106 : decode cX5_isWord 106 = .ok (.iconst 1, 1) := by decide +kernel
theorem dX5_isWord_107 : decode cX5_isWord 107 = .ok (.goto 4, 3) := by decide +kernel
theorem dX5_isWord_110 : decode cX5_isWord 110 = .ok (.iconst 0, 1) := by decide +kernel
theorem dX5_isWord_111 : decode cX5_isWord 111 = .ok (.istore 7, 2) := by decide +kernel
theorem dX5_isWord_113 : decode cX5_isWord 113 = .ok (.iload 7, 2) := by decide +kernel
theorem dX5_isWord_115 : decode cX5_isWord 115 = .ok (.ifCond .eq 28, 3) := by decide +kernel
theorem dX5_isWord_118 : decode cX5_isWord 118 = .ok (.iload 6, 2) := by decide +kernel
theorem dX5_isWord_120 : decode cX5_isWord 120 = .ok (.ifCond .eq 19, 3) := by decide +kernel
theorem dX5_isWord_123 : decode cX5_isWord 123 = .ok (.aload_n 0, 1) := by decide +kernel
theorem dX5_isWord_124 : decode cX5_isWord 124 = .ok (.getfield 26, 3) := by decide +kernel
theorem dX5_isWord_127 : decode cX5_isWord 127 = .ok (.aload_n 0, 1) := by decide +kernel
theorem dX5_isWord_128 : decode cX5_isWord 128 = .ok (.getfield 150, 3) := by decide +kernel
theorem dX5_isWord_131 : decode cX5_isWord 131 = .ok (.iconst 5, 1) := by decide +kernel
theorem dX5_isWord_132 : decode cX5_isWord 132 = .ok (.iadd, 1) := by decide +kernel
theorem dX5_isWord_133 : decode cX5_isWord 133 = .ok (.iaload, 1) := by decide +kernel
theorem dX5_isWord_134 : decode cX5_isWord 134 = .ok (.iload 6, 2) := by decide +kernel
theorem dX5_isWord_136 : decode cX5_isWord 136 = .ok (.if_icmp .ne 7, 3) := by decide +kernel
theorem dX5_isWord_139 : decode cX5_isWord 139 = .ok (.iconst 1, 1) := by decide +kernel
theorem dX5_isWord_140 : decode cX5_isWord 140 = .ok (.goto 4, 3) := by decide +kernel
theorem dX5_isWord_143 : decode cX5_isWord 143 = .ok (.iconst 0, 1) := by decide +kernel
theorem dX5_isWord_144 : decode cX5_isWord 144 = .ok (.ireturn, 1) := by decide +kernel
theorem dX5_reads_0 : decode cX5_reads 0 = .ok (.aload_n 0, 1) := by decide +kernel
theorem dX5_reads_1 : decode cX5_reads 1 = .ok (.invokevirtual 167, 3) := by decide +kernel
theorem dX5_reads_4 : decode cX5_reads 4 = .ok (.aload_n 0, 1) := by decide +kernel
theorem dX5_reads_5 : decode cX5_reads 5 = .ok (.getfield 29, 3) := by decide +kernel
theorem dX5_reads_8 : decode cX5_reads 8 = .ok (.iload_n 1, 1) := by decide +kernel
theorem dX5_reads_9 : decode cX5_reads 9 = .ok (.aload_n 0, 1) := by decide +kernel
theorem dX5_reads_10 : decode cX5_reads 10 = .ok (.getfield 153, 3) := by decide +kernel
theorem dX5_reads_13 : decode cX5_reads 13 = .ok (.iastore, 1) := by decide +kernel
theorem dX5_reads_14 : decode cX5_reads 14 = .ok (.aload_n 0, 1) := by decide +kernel
theorem dX5_reads_15 : decode cX5_reads 15 = .ok (.getfield 156, 3) := by decide +kernel
theorem dX5_reads_18 : decode cX5_reads 18 = .ok (.iconst 2, 1) := by decide +kernel
theorem dX5_reads_19 : decode cX5_reads 19 = .ok (.if_icmp .ne 15, 3) := by decide +kernel
theorem dX5_reads_22 : decode cX5_reads 22 = .ok (.aload_n 0, 1) := by decide +kernel
theorem dX5_reads_23 : decode cX5_reads 23 = .ok (.getfield 153, 3) := by decide +kernel
theorem dX5_reads_26 : decode cX5_reads 26 = .ok (.iload_n 2, 1) := by decide +kernel
theorem dX5_reads_27 : decode cX5_reads 27 = .ok (.if_icmp .gt 7, 3) := by decide +kernel
theorem dX5_reads_30 : decode cX5_reads 30 = .ok (.iconst 1, 1) := by decide +kernel
theorem dX5_reads_31 : decode cX5_reads 31 = .ok (.goto 4, 3) := by decide +kernel
theorem dX5_reads_34 : decode cX5_reads 34 = .ok (.iconst 0, 1) := by decide +kernel
theorem dX5_reads_35 : decode cX5_reads 35 = .ok (.ireturn, 1) := by decide +kernel
theorem dX5_readItem_0 : decode cX5_readItem 0 = .ok (.iload_n 1, 1) := by decide +kernel
theorem dX5_readItem_1 : decode cX5_readItem 1 = .ok (.ifCond .eq 57, 3) := by decide +kernel
theorem dX5_readItem_4 : decode cX5_readItem 4 = .ok (.aload_n 0, 1) := by decide +kernel
theorem dX5_readItem_5 : decode cX5_readItem 5 = .ok (.bipush 116, 2) := by decide +kernel
theorem dX5_readItem_7 : decode cX5_readItem 7 = .ok (.bipush 97, 2) := by decide +kernel
theorem dX5_readItem_9 : decode cX5_readItem 9 = .ok (.bipush 98, 2) := by decide +kernel
theorem dX5_readItem_11 : decode cX5_readItem 11 = .ok (.bipush 108, 2) := by decide +kernel
theorem dX5_readItem_13 : decode cX5_readItem 13 = .ok (.bipush 101, 2) := by decide +kernel
theorem dX5_readItem_15 : decode cX5_readItem 15 = .ok (.iconst 0, 1) := by decide +kernel
theorem dX5_readItem_16 : decode cX5_readItem 16 = .ok (.invokevirtual 170, 3) := by decide +kernel
theorem dX5_readItem_19 : decode cX5_readItem 19 = .ok (.ifCond .eq 17, 3) := by decide +kernel
theorem dX5_readItem_22 : decode cX5_readItem 22 = .ok (.aload_n 0, 1) := by decide +kernel
theorem dX5_readItem_23 : decode cX5_readItem 23 = .ok (.iconst 0, 1) := by decide +kernel
theorem dX5_readItem_24 : decode cX5_readItem 24 = .ok (.bipush 12, 2) := by decide +kernel
theorem dX5_readItem_26 : decode cX5_readItem 26 = .ok (.invokevirtual 174, 3) := by decide +kernel
theorem dX5_readItem_29 : decode cX5_readItem 29 = .ok (.ifCond .eq 7, 3) := by decide +kernel
theorem dX5_readItem_32 : decode cX5_readItem 32 = .ok (.iconst 1, 1) := by decide +kernel
theorem dX5_readItem_33 : decode cX5_readItem 33 = .ok (.goto 4, 3) := by decide +kernel
theorem dX5_readItem_36 : decode cX5_readItem 36 = .ok (.iconst 0, 1) := by decide +kernel
theorem dX5_readItem_37 : decode cX5_readItem 37 = .ok (.istore_n 3, 1) := by decide +kernel
theorem dX5_readItem_38 : decode cX5_readItem 38 = .ok (.iload_n 3, 1) := by decide +kernel
theorem dX5_readItem_39 : decode cX5_readItem 39 = .ok (.ifCond .eq 17, 3) := by decide +kernel
theorem dX5_readItem_42 : decode cX5_readItem 42 = .ok (.iload_n 2, 1) := by decide +kernel
theorem dX5_readItem_43 : decode cX5_readItem 43 = .ok (.ifCond .eq 13, 3) := by decide +kernel
theorem dX5_readItem_46 : decode cX5_readItem 46 = .ok (.aload_n 0, 1) := by decide +kernel
theorem dX5_readItem_47 : decode cX5_readItem 47 = .ok (.aload_n 0, 1) := by decide +kernel
theorem dX5_readItem_48 : decode cX5_readItem 48 = .ok (.getfield 29, 3) := by decide +kernel
theorem dX5_readItem_51 : decode cX5_readItem 51 = .ok (.iconst 0, 1) := by decide +kernel
theorem dX5_readItem_52 : decode cX5_readItem 52 = .ok (.iaload, 1) := by decide +kernel
theorem dX5_readItem_53 : decode cX5_readItem 53 = .ok (.invokevirtual 116, 3) := by decide +kernel
theorem dX5_readItem_56 : decode cX5_readItem 56 = .ok (.iload_n 3, 1) := by decide +kernel
theorem dX5_readItem_57 : decode cX5_readItem 57 = .ok (.ireturn, 1) := by decide +kernel
theorem dX5_readItem_58 : decode cX5_readItem 58 = .ok (.aload_n 0, 1) := by decide +kernel
theorem dX5_readItem_59 : decode cX5_readItem 59 = .ok (.bipush 112, 2) := by decide +kernel
theorem dX5_readItem_61 : decode cX5_readItem 61 = .ok (.bipush 111, 2) := by decide +kernel
theorem dX5_readItem_63 : decode cX5_readItem 63 = .ok (.bipush 116, 2) := by decide +kernel
theorem dX5_readItem_65 : decode cX5_readItem 65 = .ok (.bipush 97, 2) := by decide +kernel
theorem dX5_readItem_67 : decode cX5_readItem 67 = .ok (.bipush 116, 2) := by decide +kernel
theorem dX5_readItem_69 : decode cX5_readItem 69 = .ok (.bipush 111, 2) := by decide +kernel
theorem dX5_readItem_71 : decode cX5_readItem 71 = .ok (.invokevirtual 170, 3) := by decide +kernel
theorem dX5_readItem_74 : decode cX5_readItem 74 = .ok (.ifCond .eq 117, 3) := by decide +kernel
theorem dX5_readItem_77 : decode cX5_readItem 77 = .ok (.aload_n 0, 1) := by decide +kernel
theorem dX5_readItem_78 : decode cX5_readItem 78 = .ok (.iconst 0, 1) := by decide +kernel
theorem dX5_readItem_79 : decode cX5_readItem 79 = .ok (.iconst 1, 1) := by decide +kernel
theorem dX5_readItem_80 : decode cX5_readItem 80 = .ok (.invokevirtual 174, 3) := by decide +kernel
theorem dX5_readItem_83 : decode cX5_readItem 83 = .ok (.ifCond .eq 47, 3) := by decide +kernel
theorem dX5_readItem_86 : decode cX5_readItem 86 = .ok (.aload_n 0, 1) := by decide +kernel
theorem dX5_readItem_87 : decode cX5_readItem 87 = .ok (.iconst 1, 1) := by decide +kernel
theorem dX5_readItem_88 : decode cX5_readItem 88 = .ok (.bipush 15, 2) := by decide +kernel
theorem dX5_readItem_90 : decode cX5_readItem 90 = .ok (.invokevirtual 174, 3) := by decide +kernel
theorem dX5_readItem_93 : decode cX5_readItem 93 = .ok (.ifCond .eq 37, 3) := by decide +kernel
theorem dX5_readItem_96 : decode cX5_readItem 96 = .ok (.aload_n 0, 1) := by decide +kernel
theorem dX5_readItem_97 : decode cX5_readItem 97 = .ok (.iconst 2, 1) := by decide +kernel
theorem dX5_readItem_98 : decode cX5_readItem 98 = .ok (.bipush 15, 2) := by decide +kernel
theorem dX5_readItem_100 : decode cX5_readItem 100 = .ok (.invokevirtual 174, 3) := by decide +kernel
theorem dX5_readItem_103 : decode cX5_readItem 103 = .ok (.ifCond .eq 27, 3) := by decide +kernel
theorem dX5_readItem_106 : decode cX5_readItem 106 = .ok (.aload_n 0, 1) := by decide +kernel
theorem dX5_readItem_107 : decode cX5_readItem 107 = .ok (.iconst 3, 1) := by decide +kernel
theorem dX5_readItem_108 : decode cX5_readItem 108 = .ok (.bipush 15, 2) := by decide +kernel
theorem dX5_readItem_110 : decode cX5_readItem 110 = .ok (.invokevirtual 174, 3) := by decide +kernel
theorem dX5_readItem_113 : decode cX5_readItem 113 = .ok (.ifCond .eq 17, 3) := by decide +kernel
theorem dX5_readItem_116 : decode cX5_readItem 116 = .ok (.aload_n 0, 1) := by decide +kernel
theorem dX5_readItem_117 : decode cX5_readItem 117 = .ok (.iconst 4, 1) := by decide +kernel
theorem dX5_readItem_118 : decode cX5_readItem 118 = .ok (.bipush 15, 2) := by decide +kernel
theorem dX5_readItem_120 : decode cX5_readItem 120 = .ok (.invokevirtual 174, 3) := by decide +kernel
theorem dX5_readItem_123 : decode cX5_readItem 123 = .ok (.ifCond .eq 7, 3) := by decide +kernel
theorem dX5_readItem_126 : decode cX5_readItem 126 = .ok (.iconst 1, 1) := by decide +kernel
theorem dX5_readItem_127 : decode cX5_readItem 127 = .ok (.goto 4, 3) := by decide +kernel
theorem dX5_readItem_130 : decode cX5_readItem 130 = .ok (.iconst 0, 1) := by decide +kernel
theorem dX5_readItem_131 : decode cX5_readItem 131 = .ok (.istore_n 3, 1) := by decide +kernel
theorem dX5_readItem_132 : decode cX5_readItem 132 = .ok (.iload_n 3, 1) := by decide +kernel
theorem dX5_readItem_133 : decode cX5_readItem 133 = .ok (.ifCond .eq 56, 3) := by decide +kernel
theorem dX5_readItem_136 : decode cX5_readItem 136 = .ok (.iload_n 2, 1) := by decide +kernel
theorem dX5_readItem_137 : decode cX5_readItem 137 = .ok (.ifCond .eq 52, 3) := by decide +kernel
theorem dX5_readItem_140 : decode cX5_readItem 140 = .ok (.aload_n 0, 1) := by decide +kernel
theorem dX5_readItem_141 : decode cX5_readItem 141 = .ok (.getfield 7, 3) := by decide +kernel
theorem dX5_readItem_144 : decode cX5_readItem 144 = .ok (.bipush 65, 2) := by decide +kernel
theorem dX5_readItem_146 : decode cX5_readItem 146 = .ok (.aload_n 0, 1) := by decide +kernel
theorem dX5_readItem_147 : decode cX5_readItem 147 = .ok (.getfield 29, 3) := by decide +kernel
theorem dX5_readItem_150 : decode cX5_readItem 150 = .ok (.iconst 0, 1) := by decide +kernel
theorem dX5_readItem_151 : decode cX5_readItem 151 = .ok (.iaload, 1) := by decide +kernel
theorem dX5_readItem_152 : decode cX5_readItem 152 = .ok (.iadd, 1) := by decide +kernel
theorem dX5_readItem_153 : decode cX5_readItem 153 = .ok (.aload_n 0, 1) := by decide +kernel
theorem dX5_readItem_154 : decode cX5_readItem 154 = .ok (.getfield 29, 3) := by decide +kernel
theorem dX5_readItem_157 : decode cX5_readItem 157 = .ok (.iconst 1, 1) := by decide +kernel
theorem dX5_readItem_158 : decode cX5_readItem 158 = .ok (.iaload, 1) := by decide +kernel
theorem dX5_readItem_159 : decode cX5_readItem 159 = .ok (.aload_n 0, 1) := by decide +kernel
theorem dX5_readItem_160 : decode cX5_readItem 160 = .ok (.getfield 29, 3) := by decide +kernel
theorem dX5_readItem_163 : decode cX5_readItem 163 = .ok (.iconst 2, 1) := by decide +kernel
theorem dX5_readItem_164 : decode cX5_readItem 164 = .ok (.iaload, 1) := by decide +kernel
theorem dX5_readItem_165 : decode cX5_readItem 165 = .ok (.iconst 4, 1) := by decide +kernel
theorem dX5_readItem_166 : decode cX5_readItem 166 = .ok (.ishl, 1) := by decide +kernel
theorem dX5_readItem_167 : decode cX5_readItem 167 = .ok (.ior, 1) := by decide +kernel
theorem dX5_readItem_168 : decode cX5_readItem 168 = .ok (.aload_n 0, 1) := by decide +kernel
theorem dX5_readItem_169 : decode cX5_readItem 169 = .ok (.getfield 29, 3) := by decide +kernel
theorem dX5_readItem_172 : decode cX5_readItem 172 = .ok (.iconst 3, 1) := by decide +kernel
theorem dX5_readItem_173 : decode cX5_readItem 173 = .ok (.iaload, 1) := by decide +kernel
theorem dX5_readItem_174 : decode cX5_readItem 174 = .ok (.bipush 8, 2) := by decide +kernel
theorem dX5_readItem_176 : decode cX5_readItem 176 = .ok (.ishl, 1) := by decide +kernel
theorem dX5_readItem_177 : decode cX5_readItem 177 = .ok (.ior, 1) := by decide +kernel
theorem dX5_readItem_178 : decode cX5_readItem 178 = .ok (.aload_n 0, 1) := by decide +kernel
theorem dX5_readItem_179 : decode cX5_readItem 179 = .ok (.getfield 29, 3) := by decide +kernel
theorem dX5_readItem_182 : decode cX5_readItem 182 = .ok (.iconst 4, 1) := by decide +kernel
theorem dX5_readItem_183 : decode cX5_readItem 183 = .ok (.iaload, 1) := by decide +kernel
theorem dX5_readItem_184 : decode cX5_readItem 184 = .ok (.bipush 12, 2) := by decide +kernel
theorem dX5_readItem_186 : decode cX5_readItem 186 = .ok (.ishl, 1) := by decide +kernel
theorem dX5_readItem_187 : decode cX5_readItem 187 = .ok (.ior, 1) := by decide +kernel
theorem dX5_readItem_188 : decode cX5_readItem 188 = .ok (.iastore, 1) := by decide +kernel
theorem dX5_readItem_189 : decode cX5_readItem 189 = .ok (.iload_n 3, 1) := by decide +kernel
theorem dX5_readItem_190 : decode cX5_readItem 190 = .ok (.ireturn, 1) := by decide +kernel
theorem dX5_readItem_191 : decode cX5_readItem 191 = .ok (.aload_n 0, 1) := by decide +kernel
theorem dX5_readItem_192 : decode cX5_readItem 192 = .ok (.bipush 112, 2) := by decide +kernel
theorem dX5_readItem_194 : decode cX5_readItem 194 = .ok (.bipush 114, 2) := by decide +kernel
theorem dX5_readItem_196 : decode cX5_readItem 196 = .ok (.bipush 105, 2) := by decide +kernel
theorem dX5_readItem_198 : decode cX5_readItem 198 = .ok (.bipush 110, 2) := by decide +kernel
theorem dX5_readItem_200 : decode cX5_readItem 200 = .ok (.bipush 116, 2) := by decide +kernel
theorem dX5_readItem_202 : decode cX5_readItem 202 = .ok (.iconst 0, 1) := by decide +kernel
theorem dX5_readItem_203 : decode cX5_readItem 203 = .ok (.invokevirtual 170, 3) := by decide +kernel
theorem dX5_readItem_206 : decode cX5_readItem 206 = .ok (.ifCond .eq 54, 3) := by decide +kernel
theorem dX5_readItem_209 : decode cX5_readItem 209 = .ok (.aload_n 0, 1) := by decide +kernel
theorem dX5_readItem_210 : decode cX5_readItem 210 = .ok (.iconst 0, 1) := by decide +kernel
theorem dX5_readItem_211 : decode cX5_readItem 211 = .ok (.iconst 5, 1) := by decide +kernel
theorem dX5_readItem_212 : decode cX5_readItem 212 = .ok (.invokevirtual 174, 3) := by decide +kernel
theorem dX5_readItem_215 : decode cX5_readItem 215 = .ok (.ifCond .eq 45, 3) := by decide +kernel
theorem dX5_readItem_218 : decode cX5_readItem 218 = .ok (.aload_n 0, 1) := by decide +kernel
theorem dX5_readItem_219 : decode cX5_readItem 219 = .ok (.iconst 1, 1) := by decide +kernel
theorem dX5_readItem_220 : decode cX5_readItem 220 = .ok (.iconst 1, 1) := by decide +kernel
theorem dX5_readItem_221 : decode cX5_readItem 221 = .ok (.invokevirtual 174, 3) := by decide +kernel
theorem dX5_readItem_224 : decode cX5_readItem 224 = .ok (.ifCond .eq 36, 3) := by decide +kernel
theorem dX5_readItem_227 : decode cX5_readItem 227 = .ok (.aload_n 0, 1) := by decide +kernel
theorem dX5_readItem_228 : decode cX5_readItem 228 = .ok (.iconst 2, 1) := by decide +kernel
theorem dX5_readItem_229 : decode cX5_readItem 229 = .ok (.bipush 7, 2) := by decide +kernel
theorem dX5_readItem_231 : decode cX5_readItem 231 = .ok (.invokevirtual 174, 3) := by decide +kernel
theorem dX5_readItem_234 : decode cX5_readItem 234 = .ok (.ifCond .eq 26, 3) := by decide +kernel
theorem dX5_readItem_237 : decode cX5_readItem 237 = .ok (.aload_n 0, 1) := by decide +kernel
theorem dX5_readItem_238 : decode cX5_readItem 238 = .ok (.iconst 3, 1) := by decide +kernel
theorem dX5_readItem_239 : decode cX5_readItem 239 = .ok (.bipush 7, 2) := by decide +kernel
theorem dX5_readItem_241 : decode cX5_readItem 241 = .ok (.invokevirtual 174, 3) := by decide +kernel
theorem dX5_readItem_244 : decode cX5_readItem 244 = .ok (.ifCond .eq 16, 3) := by decide +kernel
theorem dX5_readItem_247 : decode cX5_readItem 247 = .ok (.aload_n 0, 1) := by decide +kernel
theorem dX5_readItem_248 : decode cX5_readItem 248 = .ok (.iconst 4, 1) := by decide +kernel
theorem dX5_readItem_249 : decode cX5_readItem 249 = .ok (.iconst 3, 1) := by decide +kernel
theorem dX5_readItem_250 : decode cX5_readItem 250 = .ok (.invokevirtual 174, 3) := by decide +kernel
theorem dX5_readItem_253 : decode cX5_readItem 253 = .ok (.ifCond .eq 7, 3) := by decide +kernel
theorem dX5_readItem_256 : decode cX5_readItem 256 = .ok (.iconst 1, 1) := by decide +kernel
theorem dX5_readItem_257 : decode cX5_readItem 257 = .ok (.goto 4, 3) := by decide +kernel
theorem dX5_readItem_260 : decode cX5_readItem 260 = .ok (.iconst 0, 1) := by decide +kernel
theorem dX5_readItem_261 : decode cX5_readItem 261 = .ok (.istore_n 3, 1) := by decide +kernel
theorem dX5_readItem_262 : decode cX5_readItem 262 = .ok (.iload_n 3, 1) := by decide +kernel
theorem dX5_readItem_263 : decode cX5_readItem 263 = .ok (.ifCond .eq 52, 3) := by decide +kernel
theorem dX5_readItem_266 : decode cX5_readItem 266 = .ok (.iload_n 2, 1) := by decide +kernel
theorem dX5_readItem_267 : decode cX5_readItem 267 = .ok (.ifCond .eq 48, 3) := by decide +kernel
theorem dX5_readItem_270 : decode cX5_readItem 270 = .ok (.aload_n 0, 1) := by decide +kernel
theorem dX5_readItem_271 : decode cX5_readItem 271 = .ok (.getfield 7, 3) := by decide +kernel
theorem dX5_readItem_274 : decode cX5_readItem 274 = .ok (.bipush 64, 2) := by decide +kernel
theorem dX5_readItem_276 : decode cX5_readItem 276 = .ok (.iaload, 1) := by decide +kernel
theorem dX5_readItem_277 : decode cX5_readItem 277 = .ok (.ifCond .le 38, 3) := by decide +kernel
theorem dX5_readItem_280 : decode cX5_readItem 280 = .ok (.aload_n 0, 1) := by decide +kernel
theorem dX5_readItem_281 : decode cX5_readItem 281 = .ok (.aload_n 0, 1) := by decide +kernel
theorem dX5_readItem_282 : decode cX5_readItem 282 = .ok (.getfield 29, 3) := by decide +kernel
theorem dX5_readItem_285 : decode cX5_readItem 285 = .ok (.iconst 0, 1) := by decide +kernel
theorem dX5_readItem_286 : decode cX5_readItem 286 = .ok (.iaload, 1) := by decide +kernel
theorem dX5_readItem_287 : decode cX5_readItem 287 = .ok (.aload_n 0, 1) := by decide +kernel
theorem dX5_readItem_288 : decode cX5_readItem 288 = .ok (.getfield 29, 3) := by decide +kernel
theorem dX5_readItem_291 : decode cX5_readItem 291 = .ok (.iconst 1, 1) := by decide +kernel
theorem dX5_readItem_292 : decode cX5_readItem 292 = .ok (.iaload, 1) := by decide +kernel
theorem dX5_readItem_293 : decode cX5_readItem 293 = .ok (.aload_n 0, 1) := by decide +kernel
theorem dX5_readItem_294 : decode cX5_readItem 294 = .ok (.getfield 29, 3) := by decide +kernel
theorem dX5_readItem_297 : decode cX5_readItem 297 = .ok (.iconst 2, 1) := by decide +kernel
theorem dX5_readItem_298 : decode cX5_readItem 298 = .ok (.iaload, 1) := by decide +kernel
theorem dX5_readItem_299 : decode cX5_readItem 299 = .ok (.aload_n 0, 1) := by decide +kernel
theorem dX5_readItem_300 : decode cX5_readItem 300 = .ok (.getfield 29, 3) := by decide +kernel
theorem dX5_readItem_303 : decode cX5_readItem 303 = .ok (.iconst 3, 1) := by decide +kernel
theorem dX5_readItem_304 : decode cX5_readItem 304 = .ok (.iaload, 1) := by decide +kernel
theorem dX5_readItem_305 : decode cX5_readItem 305 = .ok (.aload_n 0, 1) := by decide +kernel
theorem dX5_readItem_306 : decode cX5_readItem 306 = .ok (.getfield 29, 3) := by decide +kernel
theorem dX5_readItem_309 : decode cX5_readItem 309 = .ok (.iconst 4, 1) := by decide +kernel
theorem dX5_readItem_310 : decode cX5_readItem 310 = .ok (.iaload, 1) := by decide +kernel
theorem dX5_readItem_311 : decode cX5_readItem 311 = .ok (.invokevirtual 132, 3) := by decide +kernel
theorem dX5_readItem_314 : decode cX5_readItem 314 = .ok (.pop, 1) := by decide +kernel
theorem dX5_readItem_315 : decode cX5_readItem 315 = .ok (.iload_n 3, 1) := by decide +kernel
theorem dX5_readItem_316 : decode cX5_readItem 316 = .ok (.ireturn, 1) := by decide +kernel
theorem dX5_readText_0 : decode cX5_readText 0 = .ok (.aload_n 0, 1) := by decide +kernel
theorem dX5_readText_1 : decode cX5_readText 1 = .ok (.iconst 0, 1) := by decide +kernel
theorem dX5_readText_2 : decode cX5_readText 2 = .ok (.putfield 144, 3) := by decide +kernel
theorem dX5_readText_5 : decode cX5_readText 5 = .ok (.iconst 0, 1) := by decide +kernel
theorem dX5_readText_6 : decode cX5_readText 6 = .ok (.istore_n 2, 1) := by decide +kernel
theorem dX5_readText_7 : decode cX5_readText 7 = .ok (.aload_n 0, 1) := by decide +kernel
theorem dX5_readText_8 : decode cX5_readText 8 = .ok (.invokevirtual 167, 3) := by decide +kernel
theorem dX5_readText_11 : decode cX5_readText 11 = .ok (.iload_n 2, 1) := by decide +kernel
theorem dX5_readText_12 : decode cX5_readText 12 = .ok (.ifCond .eq 11, 3) := by decide +kernel
theorem dX5_readText_15 : decode cX5_readText 15 = .ok (.aload_n 0, 1) := by decide +kernel
theorem dX5_readText_16 : decode cX5_readText 16 = .ok (.getfield 156, 3) := by decide +kernel
theorem dX5_readText_19 : decode cX5_readText 19 = .ok (.iconst 3, 1) := by decide +kernel
theorem dX5_readText_20 : decode cX5_readText 20 = .ok (.if_icmp .eq 46, 3) := by decide +kernel
theorem dX5_readText_23 : decode cX5_readText 23 = .ok (.aload_n 0, 1) := by decide +kernel
theorem dX5_readText_24 : decode cX5_readText 24 = .ok (.iload_n 2, 1) := by decide +kernel
theorem dX5_readText_25 : decode cX5_readText 25 = .ok (.ifCond .ne 7, 3) := by decide +kernel
theorem dX5_readText_28 : decode cX5_readText 28 = .ok (.iconst 1, 1) := by decide +kernel
theorem dX5_readText_29 : decode cX5_readText 29 = .ok (.goto 4, 3) := by decide +kernel
theorem dX5_readText_32 : decode cX5_readText 32 = .ok (.iconst 0, 1) := by decide +kernel
theorem dX5_readText_33 : decode cX5_readText 33 = .ok (.iload_n 1, 1) := by decide +kernel
theorem dX5_readText_34 : decode cX5_readText 34 = .ok (.invokevirtual 177, 3) := by decide +kernel
theorem dX5_readText_37 : decode cX5_readText 37 = .ok (.ifCond .ne 5, 3) := by decide +kernel
theorem dX5_readText_40 : decode cX5_readText 40 = .ok (.iconst (-1), 1) := by decide +kernel
theorem dX5_readText_41 : decode cX5_readText 41 = .ok (.ireturn, 1) := by decide +kernel
theorem dX5_readText_42 : decode cX5_readText 42 = .ok (.aload_n 0, 1) := by decide +kernel
theorem dX5_readText_43 : decode cX5_readText 43 = .ok (.invokevirtual 167, 3) := by decide +kernel
theorem dX5_readText_46 : decode cX5_readText 46 = .ok (.aload_n 0, 1) := by decide +kernel
theorem dX5_readText_47 : decode cX5_readText 47 = .ok (.getfield 156, 3) := by decide +kernel
theorem dX5_readText_50 : decode cX5_readText 50 = .ok (.iconst 4, 1) := by decide +kernel
theorem dX5_readText_51 : decode cX5_readText 51 = .ok (.if_icmp .eq 5, 3) := by decide +kernel
theorem dX5_readText_54 : decode cX5_readText 54 = .ok (.iconst (-1), 1) := by decide +kernel
theorem dX5_readText_55 : decode cX5_readText 55 = .ok (.ireturn, 1) := by decide +kernel
theorem dX5_readText_56 : decode cX5_readText 56 = .ok (.iinc 2 1, 3) := by decide +kernel
theorem dX5_readText_59 : decode cX5_readText 59 = .ok (.aload_n 0, 1) := by decide +kernel
theorem dX5_readText_60 : decode cX5_readText 60 = .ok (.invokevirtual 167, 3) := by decide +kernel
theorem dX5_readText_63 : decode cX5_readText 63 = .ok (.goto (-52), 3) := by decide +kernel
theorem dX5_readText_66 : decode cX5_readText 66 = .ok (.iload_n 2, 1) := by decide +kernel
theorem dX5_readText_67 : decode cX5_readText 67 = .ok (.ireturn, 1) := by decide +kernel
theorem dX5_read_0 : decode cX5_read 0 = .ok (.aload_n 0, 1) := by decide +kernel
theorem dX5_read_1 : decode cX5_read 1 = .ok (.iconst 0, 1) := by decide +kernel
theorem dX5_read_2 : decode cX5_read 2 = .ok (.invokevirtual 181, 3) := by decide +kernel
theorem dX5_read_5 : decode cX5_read 5 = .ok (.ifCond .ge 11, 3) := by decide +kernel
theorem dX5_read_8 : decode cX5_read 8 = .ok (.bipush (-10), 2) := by decide +kernel
theorem dX5_read_10 : decode cX5_read 10 = .ok (.aload_n 0, 1) := by decide +kernel
theorem dX5_read_11 : decode cX5_read 11 = .ok (.getfield 150, 3) := by decide +kernel
theorem dX5_read_14 : decode cX5_read 14 = .ok (.isub, 1) := by decide +kernel
theorem dX5_read_15 : decode cX5_read 15 = .ok (.ireturn, 1) := by decide +kernel
theorem dX5_read_16 : decode cX5_read 16 = .ok (.aload_n 0, 1) := by decide +kernel
theorem dX5_read_17 : decode cX5_read 17 = .ok (.iconst 1, 1) := by decide +kernel
theorem dX5_read_18 : decode cX5_read 18 = .ok (.invokevirtual 181, 3) := by decide +kernel
theorem dX5_read_21 : decode cX5_read 21 = .ok (.ireturn, 1) := by decide +kernel
theorem dX5_dark_0 : decode cX5_dark 0 = .ok (.iload_n 1, 1) := by decide +kernel
theorem dX5_dark_1 : decode cX5_dark 1 = .ok (.iload_n 2, 1) := by decide +kernel
theorem dX5_dark_2 : decode cX5_dark 2 = .ok (.invokestatic 66, 3) := by decide +kernel
theorem dX5_dark_5 : decode cX5_dark 5 = .ok (.ifCond .eq 19, 3) := by decide +kernel
theorem dX5_dark_8 : decode cX5_dark 8 = .ok (.aload_n 0, 1) := by decide +kernel
theorem dX5_dark_9 : decode cX5_dark 9 = .ok (.getfield 7, 3) := by decide +kernel
theorem dX5_dark_12 : decode cX5_dark 12 = .ok (.iconst 0, 1) := by decide +kernel
theorem dX5_dark_13 : decode cX5_dark 13 = .ok (.bipush 8, 2) := by decide +kernel
theorem dX5_dark_15 : decode cX5_dark 15 = .ok (.iload_n 2, 1) := by decide +kernel
theorem dX5_dark_16 : decode cX5_dark 16 = .ok (.imul, 1) := by decide +kernel
theorem dX5_dark_17 : decode cX5_dark 17 = .ok (.iadd, 1) := by decide +kernel
theorem dX5_dark_18 : decode cX5_dark 18 = .ok (.iload_n 1, 1) := by decide +kernel
theorem dX5_dark_19 : decode cX5_dark 19 = .ok (.iadd, 1) := by decide +kernel
theorem dX5_dark_20 : decode cX5_dark 20 = .ok (.iaload, 1) := by decide +kernel
theorem dX5_dark_21 : decode cX5_dark 21 = .ok (.goto 7, 3) := by decide +kernel
theorem dX5_dark_24 : decode cX5_dark 24 = .ok (.aload_n 0, 1) := by decide +kernel
theorem dX5_dark_25 : decode cX5_dark 25 = .ok (.invokevirtual 110, 3) := by decide +kernel
theorem dX5_dark_28 : decode cX5_dark 28 = .ok (.ireturn, 1) := by decide +kernel
theorem dX5_looks_0 : decode cX5_looks 0 = .ok (.iload_n 1, 1) := by decide +kernel
theorem dX5_looks_1 : decode cX5_looks 1 = .ok (.invokestatic 62, 3) := by decide +kernel
theorem dX5_looks_4 : decode cX5_looks 4 = .ok (.ifCond .eq 24, 3) := by decide +kernel
theorem dX5_looks_7 : decode cX5_looks 7 = .ok (.iload_n 2, 1) := by decide +kernel
theorem dX5_looks_8 : decode cX5_looks 8 = .ok (.i2l, 1) := by decide +kernel
theorem dX5_looks_9 : decode cX5_looks 9 = .ok (.lconst 0, 1) := by decide +kernel
theorem dX5_looks_10 : decode cX5_looks 10 = .ok (.ldc2_w 70, 3) := by decide +kernel
theorem dX5_looks_13 : decode cX5_looks 13 = .ok (.invokestatic 54, 3) := by decide +kernel
theorem dX5_looks_16 : decode cX5_looks 16 = .ok (.ifCond .eq 12, 3) := by decide +kernel
theorem dX5_looks_19 : decode cX5_looks 19 = .ok (.aload_n 0, 1) := by decide +kernel
theorem dX5_looks_20 : decode cX5_looks 20 = .ok (.iload_n 1, 1) := by decide +kernel
theorem dX5_looks_21 : decode cX5_looks 21 = .ok (.iload_n 2, 1) := by decide +kernel
theorem dX5_looks_22 : decode cX5_looks 22 = .ok (.invokevirtual 90, 3) := by decide +kernel
theorem dX5_looks_25 : decode cX5_looks 25 = .ok (.goto 7, 3) := by decide +kernel
theorem dX5_looks_28 : decode cX5_looks 28 = .ok (.aload_n 0, 1) := by decide +kernel
theorem dX5_looks_29 : decode cX5_looks 29 = .ok (.invokevirtual 110, 3) := by decide +kernel
theorem dX5_looks_32 : decode cX5_looks 32 = .ok (.ireturn, 1) := by decide +kernel
theorem dX5_alike_0 : decode cX5_alike 0 = .ok (.iload_n 1, 1) := by decide +kernel
theorem dX5_alike_1 : decode cX5_alike 1 = .ok (.invokestatic 62, 3) := by decide +kernel
theorem dX5_alike_4 : decode cX5_alike 4 = .ok (.ifCond .ne 8, 3) := by decide +kernel
theorem dX5_alike_7 : decode cX5_alike 7 = .ok (.aload_n 0, 1) := by decide +kernel
theorem dX5_alike_8 : decode cX5_alike 8 = .ok (.invokevirtual 110, 3) := by decide +kernel
theorem dX5_alike_11 : decode cX5_alike 11 = .ok (.ireturn, 1) := by decide +kernel
theorem dX5_alike_12 : decode cX5_alike 12 = .ok (.iconst 0, 1) := by decide +kernel
theorem dX5_alike_13 : decode cX5_alike 13 = .ok (.istore_n 2, 1) := by decide +kernel
theorem dX5_alike_14 : decode cX5_alike 14 = .ok (.iconst 0, 1) := by decide +kernel
theorem dX5_alike_15 : decode cX5_alike 15 = .ok (.istore_n 3, 1) := by decide +kernel
theorem dX5_alike_16 : decode cX5_alike 16 = .ok (.iload_n 3, 1) := by decide +kernel
theorem dX5_alike_17 : decode cX5_alike 17 = .ok (.iconst 4, 1) := by decide +kernel
theorem dX5_alike_18 : decode cX5_alike 18 = .ok (.if_icmp .ge 34, 3) := by decide +kernel
theorem dX5_alike_21 : decode cX5_alike 21 = .ok (.iload_n 2, 1) := by decide +kernel
theorem dX5_alike_22 : decode cX5_alike 22 = .ok (.aload_n 0, 1) := by decide +kernel
theorem dX5_alike_23 : decode cX5_alike 23 = .ok (.iload_n 1, 1) := by decide +kernel
theorem dX5_alike_24 : decode cX5_alike 24 = .ok (.iload_n 3, 1) := by decide +kernel
theorem dX5_alike_25 : decode cX5_alike 25 = .ok (.invokevirtual 90, 3) := by decide +kernel
theorem dX5_alike_28 : decode cX5_alike 28 = .ok (.aload_n 0, 1) := by decide +kernel
theorem dX5_alike_29 : decode cX5_alike 29 = .ok (.iload_n 1, 1) := by decide +kernel
theorem dX5_alike_30 : decode cX5_alike 30 = .ok (.iconst 0, 1) := by decide +kernel
theorem dX5_alike_31 : decode cX5_alike 31 = .ok (.invokevirtual 90, 3) := by decide +kernel
theorem dX5_alike_34 : decode cX5_alike 34 = .ok (.if_icmp .ne 9, 3) := by decide +kernel
theorem dX5_alike_37 : decode cX5_alike 37 = .ok (.iconst 1, 1) := by decide +kernel
theorem dX5_alike_38 : decode cX5_alike 38 = .ok (.iload_n 3, 1) := by decide +kernel
theorem dX5_alike_39 : decode cX5_alike 39 = .ok (.ishl, 1) := by decide +kernel
theorem dX5_alike_40 : decode cX5_alike 40 = .ok (.goto 4, 3) := by decide +kernel
theorem dX5_alike_43 : decode cX5_alike 43 = .ok (.iconst 0, 1) := by decide +kernel
theorem dX5_alike_44 : decode cX5_alike 44 = .ok (.ior, 1) := by decide +kernel
theorem dX5_alike_45 : decode cX5_alike 45 = .ok (.istore_n 2, 1) := by decide +kernel
theorem dX5_alike_46 : decode cX5_alike 46 = .ok (.iinc 3 1, 3) := by decide +kernel
theorem dX5_alike_49 : decode cX5_alike 49 = .ok (.goto (-33), 3) := by decide +kernel
theorem dX5_alike_52 : decode cX5_alike 52 = .ok (.iload_n 2, 1) := by decide +kernel
theorem dX5_alike_53 : decode cX5_alike 53 = .ok (.ireturn, 1) := by decide +kernel
theorem dX5_adds_0 : decode cX5_adds 0 = .ok (.iload_n 1, 1) := by decide +kernel
theorem dX5_adds_1 : decode cX5_adds 1 = .ok (.iload_n 2, 1) := by decide +kernel
theorem dX5_adds_2 : decode cX5_adds 2 = .ok (.iload_n 3, 1) := by decide +kernel
theorem dX5_adds_3 : decode cX5_adds 3 = .ok (.iload 4, 2) := by decide +kernel
theorem dX5_adds_5 : decode cX5_adds 5 = .ok (.iload 5, 2) := by decide +kernel
theorem dX5_adds_7 : decode cX5_adds 7 = .ok (.invokestatic 125, 3) := by decide +kernel
theorem dX5_adds_10 : decode cX5_adds 10 = .ok (.ifCond .ne 8, 3) := by decide +kernel
theorem dX5_adds_13 : decode cX5_adds 13 = .ok (.aload_n 0, 1) := by decide +kernel
theorem dX5_adds_14 : decode cX5_adds 14 = .ok (.invokevirtual 110, 3) := by decide +kernel
theorem dX5_adds_17 : decode cX5_adds 17 = .ok (.ireturn, 1) := by decide +kernel
theorem dX5_adds_18 : decode cX5_adds 18 = .ok (.aload_n 0, 1) := by decide +kernel
theorem dX5_adds_19 : decode cX5_adds 19 = .ok (.getfield 7, 3) := by decide +kernel
theorem dX5_adds_22 : decode cX5_adds 22 = .ok (.bipush 64, 2) := by decide +kernel
theorem dX5_adds_24 : decode cX5_adds 24 = .ok (.iaload, 1) := by decide +kernel
theorem dX5_adds_25 : decode cX5_adds 25 = .ok (.ifCond .ne 8, 3) := by decide +kernel
theorem dX5_adds_28 : decode cX5_adds 28 = .ok (.aload_n 0, 1) := by decide +kernel
theorem dX5_adds_29 : decode cX5_adds 29 = .ok (.invokevirtual 129, 3) := by decide +kernel
theorem dX5_adds_32 : decode cX5_adds 32 = .ok (.ireturn, 1) := by decide +kernel
theorem dX5_adds_33 : decode cX5_adds 33 = .ok (.aload_n 0, 1) := by decide +kernel
theorem dX5_adds_34 : decode cX5_adds 34 = .ok (.iload_n 1, 1) := by decide +kernel
theorem dX5_adds_35 : decode cX5_adds 35 = .ok (.aload_n 0, 1) := by decide +kernel
theorem dX5_adds_36 : decode cX5_adds 36 = .ok (.iload_n 2, 1) := by decide +kernel
theorem dX5_adds_37 : decode cX5_adds 37 = .ok (.iload 5, 2) := by decide +kernel
theorem dX5_adds_39 : decode cX5_adds 39 = .ok (.invokevirtual 90, 3) := by decide +kernel
theorem dX5_adds_42 : decode cX5_adds 42 = .ok (.iload_n 3, 1) := by decide +kernel
theorem dX5_adds_43 : decode cX5_adds 43 = .ok (.iload 4, 2) := by decide +kernel
theorem dX5_adds_45 : decode cX5_adds 45 = .ok (.aload_n 0, 1) := by decide +kernel
theorem dX5_adds_46 : decode cX5_adds 46 = .ok (.getfield 7, 3) := by decide +kernel
theorem dX5_adds_49 : decode cX5_adds 49 = .ok (.bipush 64, 2) := by decide +kernel
theorem dX5_adds_51 : decode cX5_adds 51 = .ok (.iaload, 1) := by decide +kernel
theorem dX5_adds_52 : decode cX5_adds 52 = .ok (.invokevirtual 93, 3) := by decide +kernel
theorem dX5_adds_55 : decode cX5_adds 55 = .ok (.aload_n 0, 1) := by decide +kernel
theorem dX5_adds_56 : decode cX5_adds 56 = .ok (.invokevirtual 97, 3) := by decide +kernel
theorem dX5_adds_59 : decode cX5_adds 59 = .ok (.ireturn, 1) := by decide +kernel
theorem dX5_force_0 : decode cX5_force 0 = .ok (.iload_n 1, 1) := by decide +kernel
theorem dX5_force_1 : decode cX5_force 1 = .ok (.i2l, 1) := by decide +kernel
theorem dX5_force_2 : decode cX5_force 2 = .ok (.lconst 0, 1) := by decide +kernel
theorem dX5_force_3 : decode cX5_force 3 = .ok (.ldc2_w 60, 3) := by decide +kernel
theorem dX5_force_6 : decode cX5_force 6 = .ok (.invokestatic 54, 3) := by decide +kernel
theorem dX5_force_9 : decode cX5_force 9 = .ok (.ifCond .eq 22, 3) := by decide +kernel
theorem dX5_force_12 : decode cX5_force 12 = .ok (.iload_n 2, 1) := by decide +kernel
theorem dX5_force_13 : decode cX5_force 13 = .ok (.i2l, 1) := by decide +kernel
theorem dX5_force_14 : decode cX5_force 14 = .ok (.lconst 0, 1) := by decide +kernel
theorem dX5_force_15 : decode cX5_force 15 = .ok (.ldc2_w 108, 3) := by decide +kernel
theorem dX5_force_18 : decode cX5_force 18 = .ok (.invokestatic 54, 3) := by decide +kernel
theorem dX5_force_21 : decode cX5_force 21 = .ok (.ifCond .eq 10, 3) := by decide +kernel
theorem dX5_force_24 : decode cX5_force 24 = .ok (.iload_n 3, 1) := by decide +kernel
theorem dX5_force_25 : decode cX5_force 25 = .ok (.invokestatic 62, 3) := by decide +kernel
theorem dX5_force_28 : decode cX5_force 28 = .ok (.ifCond .ne 8, 3) := by decide +kernel
theorem dX5_force_31 : decode cX5_force 31 = .ok (.aload_n 0, 1) := by decide +kernel
theorem dX5_force_32 : decode cX5_force 32 = .ok (.invokevirtual 110, 3) := by decide +kernel
theorem dX5_force_35 : decode cX5_force 35 = .ok (.ireturn, 1) := by decide +kernel
theorem dX5_force_36 : decode cX5_force 36 = .ok (.iload_n 3, 1) := by decide +kernel
theorem dX5_force_37 : decode cX5_force 37 = .ok (.ifCond .ne 11, 3) := by decide +kernel
theorem dX5_force_40 : decode cX5_force 40 = .ok (.iload_n 1, 1) := by decide +kernel
theorem dX5_force_41 : decode cX5_force 41 = .ok (.iload_n 2, 1) := by decide +kernel
theorem dX5_force_42 : decode cX5_force 42 = .ok (.invokestatic 83, 3) := by decide +kernel
theorem dX5_force_45 : decode cX5_force 45 = .ok (.goto 8, 3) := by decide +kernel
theorem dX5_force_48 : decode cX5_force 48 = .ok (.iload_n 1, 1) := by decide +kernel
theorem dX5_force_49 : decode cX5_force 49 = .ok (.iload_n 2, 1) := by decide +kernel
theorem dX5_force_50 : decode cX5_force 50 = .ok (.invokestatic 101, 3) := by decide +kernel
theorem dX5_force_53 : decode cX5_force 53 = .ok (.ireturn, 1) := by decide +kernel
theorem dX5_printsOf_0 : decode cX5_printsOf 0 = .ok (.iload_n 1, 1) := by decide +kernel
theorem dX5_printsOf_1 : decode cX5_printsOf 1 = .ok (.istore_n 3, 1) := by decide +kernel
theorem dX5_printsOf_2 : decode cX5_printsOf 2 = .ok (.iconst 0, 1) := by decide +kernel
theorem dX5_printsOf_3 : decode cX5_printsOf 3 = .ok (.istore 4, 2) := by decide +kernel
theorem dX5_printsOf_5 : decode cX5_printsOf 5 = .ok (.iload_n 3, 1) := by decide +kernel
theorem dX5_printsOf_6 : decode cX5_printsOf 6 = .ok (.ifCond .le 26, 3) := by decide +kernel
theorem dX5_printsOf_9 : decode cX5_printsOf 9 = .ok (.iload_n 0, 1) := by decide +kernel
theorem dX5_printsOf_10 : decode cX5_printsOf 10 = .ok (.iload_n 3, 1) := by decide +kernel
theorem dX5_printsOf_11 : decode cX5_printsOf 11 = .ok (.invokestatic 83, 3) := by decide +kernel
theorem dX5_printsOf_14 : decode cX5_printsOf 14 = .ok (.iload_n 2, 1) := by decide +kernel
theorem dX5_printsOf_15 : decode cX5_printsOf 15 = .ok (.if_icmp .lt 17, 3) := by decide +kernel
theorem dX5_printsOf_18 : decode cX5_printsOf 18 = .ok (.iinc 4 1, 3) := by decide +kernel
theorem dX5_printsOf_21 : decode cX5_printsOf 21 = .ok (.iload_n 3, 1) := by decide +kernel
theorem dX5_printsOf_22 : decode cX5_printsOf 22 = .ok (.iload_n 0, 1) := by decide +kernel
theorem dX5_printsOf_23 : decode cX5_printsOf 23 = .ok (.iload_n 3, 1) := by decide +kernel
theorem dX5_printsOf_24 : decode cX5_printsOf 24 = .ok (.invokestatic 101, 3) := by decide +kernel
theorem dX5_printsOf_27 : decode cX5_printsOf 27 = .ok (.isub, 1) := by decide +kernel
theorem dX5_printsOf_28 : decode cX5_printsOf 28 = .ok (.istore_n 3, 1) := by decide +kernel
theorem dX5_printsOf_29 : decode cX5_printsOf 29 = .ok (.goto (-24), 3) := by decide +kernel
theorem dX5_printsOf_32 : decode cX5_printsOf 32 = .ok (.iload 4, 2) := by decide +kernel
theorem dX5_printsOf_34 : decode cX5_printsOf 34 = .ok (.ireturn, 1) := by decide +kernel
theorem dX5_fromOne_0 : decode cX5_fromOne 0 = .ok (.iload_n 1, 1) := by decide +kernel
theorem dX5_fromOne_1 : decode cX5_fromOne 1 = .ok (.i2l, 1) := by decide +kernel
theorem dX5_fromOne_2 : decode cX5_fromOne 2 = .ok (.lconst 0, 1) := by decide +kernel
theorem dX5_fromOne_3 : decode cX5_fromOne 3 = .ok (.ldc2_w 60, 3) := by decide +kernel
theorem dX5_fromOne_6 : decode cX5_fromOne 6 = .ok (.invokestatic 54, 3) := by decide +kernel
theorem dX5_fromOne_9 : decode cX5_fromOne 9 = .ok (.ifCond .eq 27, 3) := by decide +kernel
theorem dX5_fromOne_12 : decode cX5_fromOne 12 = .ok (.iload_n 2, 1) := by decide +kernel
theorem dX5_fromOne_13 : decode cX5_fromOne 13 = .ok (.i2l, 1) := by decide +kernel
theorem dX5_fromOne_14 : decode cX5_fromOne 14 = .ok (.lconst 0, 1) := by decide +kernel
theorem dX5_fromOne_15 : decode cX5_fromOne 15 = .ok (.ldc2_w 108, 3) := by decide +kernel
theorem dX5_fromOne_18 : decode cX5_fromOne 18 = .ok (.invokestatic 54, 3) := by decide +kernel
theorem dX5_fromOne_21 : decode cX5_fromOne 21 = .ok (.ifCond .eq 15, 3) := by decide +kernel
theorem dX5_fromOne_24 : decode cX5_fromOne 24 = .ok (.iload_n 3, 1) := by decide +kernel
theorem dX5_fromOne_25 : decode cX5_fromOne 25 = .ok (.i2l, 1) := by decide +kernel
theorem dX5_fromOne_26 : decode cX5_fromOne 26 = .ok (.lconst 1, 1) := by decide +kernel
theorem dX5_fromOne_27 : decode cX5_fromOne 27 = .ok (.ldc2_w 185, 3) := by decide +kernel
theorem dX5_fromOne_30 : decode cX5_fromOne 30 = .ok (.invokestatic 54, 3) := by decide +kernel
theorem dX5_fromOne_33 : decode cX5_fromOne 33 = .ok (.ifCond .ne 8, 3) := by decide +kernel
theorem dX5_fromOne_36 : decode cX5_fromOne 36 = .ok (.aload_n 0, 1) := by decide +kernel
theorem dX5_fromOne_37 : decode cX5_fromOne 37 = .ok (.invokevirtual 110, 3) := by decide +kernel
theorem dX5_fromOne_40 : decode cX5_fromOne 40 = .ok (.ireturn, 1) := by decide +kernel
theorem dX5_fromOne_41 : decode cX5_fromOne 41 = .ok (.iload_n 1, 1) := by decide +kernel
theorem dX5_fromOne_42 : decode cX5_fromOne 42 = .ok (.iload_n 2, 1) := by decide +kernel
theorem dX5_fromOne_43 : decode cX5_fromOne 43 = .ok (.iload_n 3, 1) := by decide +kernel
theorem dX5_fromOne_44 : decode cX5_fromOne 44 = .ok (.invokestatic 187, 3) := by decide +kernel
theorem dX5_fromOne_47 : decode cX5_fromOne 47 = .ok (.ireturn, 1) := by decide +kernel
theorem dX5_dips_0 : decode cX5_dips 0 = .ok (.iload_n 1, 1) := by decide +kernel
theorem dX5_dips_1 : decode cX5_dips 1 = .ok (.i2l, 1) := by decide +kernel
theorem dX5_dips_2 : decode cX5_dips 2 = .ok (.lconst 0, 1) := by decide +kernel
theorem dX5_dips_3 : decode cX5_dips 3 = .ok (.ldc2_w 60, 3) := by decide +kernel
theorem dX5_dips_6 : decode cX5_dips 6 = .ok (.invokestatic 54, 3) := by decide +kernel
theorem dX5_dips_9 : decode cX5_dips 9 = .ok (.ifCond .eq 40, 3) := by decide +kernel
theorem dX5_dips_12 : decode cX5_dips 12 = .ok (.iload_n 2, 1) := by decide +kernel
theorem dX5_dips_13 : decode cX5_dips 13 = .ok (.i2l, 1) := by decide +kernel
theorem dX5_dips_14 : decode cX5_dips 14 = .ok (.lconst 0, 1) := by decide +kernel
theorem dX5_dips_15 : decode cX5_dips 15 = .ok (.ldc2_w 108, 3) := by decide +kernel
theorem dX5_dips_18 : decode cX5_dips 18 = .ok (.invokestatic 54, 3) := by decide +kernel
theorem dX5_dips_21 : decode cX5_dips 21 = .ok (.ifCond .eq 28, 3) := by decide +kernel
theorem dX5_dips_24 : decode cX5_dips 24 = .ok (.iload_n 3, 1) := by decide +kernel
theorem dX5_dips_25 : decode cX5_dips 25 = .ok (.i2l, 1) := by decide +kernel
theorem dX5_dips_26 : decode cX5_dips 26 = .ok (.lconst 1, 1) := by decide +kernel
theorem dX5_dips_27 : decode cX5_dips 27 = .ok (.ldc2_w 185, 3) := by decide +kernel
theorem dX5_dips_30 : decode cX5_dips 30 = .ok (.invokestatic 54, 3) := by decide +kernel
theorem dX5_dips_33 : decode cX5_dips 33 = .ok (.ifCond .eq 16, 3) := by decide +kernel
theorem dX5_dips_36 : decode cX5_dips 36 = .ok (.iload 4, 2) := by decide +kernel
theorem dX5_dips_38 : decode cX5_dips 38 = .ok (.i2l, 1) := by decide +kernel
theorem dX5_dips_39 : decode cX5_dips 39 = .ok (.lconst 0, 1) := by decide +kernel
theorem dX5_dips_40 : decode cX5_dips 40 = .ok (.ldc2_w 191, 3) := by decide +kernel
theorem dX5_dips_43 : decode cX5_dips 43 = .ok (.invokestatic 54, 3) := by decide +kernel
theorem dX5_dips_46 : decode cX5_dips 46 = .ok (.ifCond .ne 8, 3) := by decide +kernel
theorem dX5_dips_49 : decode cX5_dips 49 = .ok (.aload_n 0, 1) := by decide +kernel
theorem dX5_dips_50 : decode cX5_dips 50 = .ok (.invokevirtual 110, 3) := by decide +kernel
theorem dX5_dips_53 : decode cX5_dips 53 = .ok (.ireturn, 1) := by decide +kernel
theorem dX5_dips_54 : decode cX5_dips 54 = .ok (.iload_n 1, 1) := by decide +kernel
theorem dX5_dips_55 : decode cX5_dips 55 = .ok (.iload_n 2, 1) := by decide +kernel
theorem dX5_dips_56 : decode cX5_dips 56 = .ok (.iload_n 3, 1) := by decide +kernel
theorem dX5_dips_57 : decode cX5_dips 57 = .ok (.invokestatic 187, 3) := by decide +kernel
theorem dX5_dips_60 : decode cX5_dips 60 = .ok (.istore 5, 2) := by decide +kernel
theorem dX5_dips_62 : decode cX5_dips 62 = .ok (.iload 4, 2) := by decide +kernel
theorem dX5_dips_64 : decode cX5_dips 64 = .ok (.ifCond .ne 7, 3) := by decide +kernel
theorem dX5_dips_67 : decode cX5_dips 67 = .ok (.iconst 0, 1) := by decide +kernel
theorem dX5_dips_68 : decode cX5_dips 68 = .ok (.goto 22, 3) := by decide +kernel
theorem dX5_dips_71 : decode cX5_dips 71 = .ok (.iload 5, 2) := by decide +kernel
theorem dX5_dips_73 : decode cX5_dips 73 = .ok (.ifCond .ne 7, 3) := by decide +kernel
theorem dX5_dips_76 : decode cX5_dips 76 = .ok (.iconst (-1), 1) := by decide +kernel
theorem dX5_dips_77 : decode cX5_dips 77 = .ok (.goto 13, 3) := by decide +kernel
theorem dX5_dips_80 : decode cX5_dips 80 = .ok (.iload 4, 2) := by decide +kernel
theorem dX5_dips_82 : decode cX5_dips 82 = .ok (.iload 5, 2) := by decide +kernel
theorem dX5_dips_84 : decode cX5_dips 84 = .ok (.iadd, 1) := by decide +kernel
theorem dX5_dips_85 : decode cX5_dips 85 = .ok (.iconst 1, 1) := by decide +kernel
theorem dX5_dips_86 : decode cX5_dips 86 = .ok (.isub, 1) := by decide +kernel
theorem dX5_dips_87 : decode cX5_dips 87 = .ok (.iload 5, 2) := by decide +kernel
theorem dX5_dips_89 : decode cX5_dips 89 = .ok (.idiv, 1) := by decide +kernel
theorem dX5_dips_90 : decode cX5_dips 90 = .ok (.ireturn, 1) := by decide +kernel
theorem dX5_leftOf_0 : decode cX5_leftOf 0 = .ok (.iload_n 0, 1) := by decide +kernel
theorem dX5_leftOf_1 : decode cX5_leftOf 1 = .ok (.iload_n 1, 1) := by decide +kernel
theorem dX5_leftOf_2 : decode cX5_leftOf 2 = .ok (.iadd, 1) := by decide +kernel
theorem dX5_leftOf_3 : decode cX5_leftOf 3 = .ok (.iconst 4, 1) := by decide +kernel
theorem dX5_leftOf_4 : decode cX5_leftOf 4 = .ok (.iload_n 1, 1) := by decide +kernel
theorem dX5_leftOf_5 : decode cX5_leftOf 5 = .ok (.iadd, 1) := by decide +kernel
theorem dX5_leftOf_6 : decode cX5_leftOf 6 = .ok (.idiv, 1) := by decide +kernel
theorem dX5_leftOf_7 : decode cX5_leftOf 7 = .ok (.istore_n 2, 1) := by decide +kernel
theorem dX5_leftOf_8 : decode cX5_leftOf 8 = .ok (.iload_n 0, 1) := by decide +kernel
theorem dX5_leftOf_9 : decode cX5_leftOf 9 = .ok (.iconst 4, 1) := by decide +kernel
theorem dX5_leftOf_10 : decode cX5_leftOf 10 = .ok (.iload_n 2, 1) := by decide +kernel
theorem dX5_leftOf_11 : decode cX5_leftOf 11 = .ok (.imul, 1) := by decide +kernel
theorem dX5_leftOf_12 : decode cX5_leftOf 12 = .ok (.isub, 1) := by decide +kernel
theorem dX5_leftOf_13 : decode cX5_leftOf 13 = .ok (.iload_n 1, 1) := by decide +kernel
theorem dX5_leftOf_14 : decode cX5_leftOf 14 = .ok (.iload_n 2, 1) := by decide +kernel
theorem dX5_leftOf_15 : decode cX5_leftOf 15 = .ok (.iconst 1, 1) := by decide +kernel
theorem dX5_leftOf_16 : decode cX5_leftOf 16 = .ok (.isub, 1) := by decide +kernel
theorem dX5_leftOf_17 : decode cX5_leftOf 17 = .ok (.imul, 1) := by decide +kernel
theorem dX5_leftOf_18 : decode cX5_leftOf 18 = .ok (.isub, 1) := by decide +kernel
theorem dX5_leftOf_19 : decode cX5_leftOf 19 = .ok (.ireturn, 1) := by decide +kernel
theorem dX5_edge_0 : decode cX5_edge 0 = .ok (.iload_n 1, 1) := by decide +kernel
theorem dX5_edge_1 : decode cX5_edge 1 = .ok (.i2l, 1) := by decide +kernel
theorem dX5_edge_2 : decode cX5_edge 2 = .ok (.ldc2_w 193, 3) := by decide +kernel
theorem dX5_edge_5 : decode cX5_edge 5 = .ok (.ldc2_w 195, 3) := by decide +kernel
theorem dX5_edge_8 : decode cX5_edge 8 = .ok (.invokestatic 54, 3) := by decide +kernel
theorem dX5_edge_11 : decode cX5_edge 11 = .ok (.ifCond .eq 22, 3) := by decide +kernel
theorem dX5_edge_14 : decode cX5_edge 14 = .ok (.iload_n 2, 1) := by decide +kernel
theorem dX5_edge_15 : decode cX5_edge 15 = .ok (.i2l, 1) := by decide +kernel
theorem dX5_edge_16 : decode cX5_edge 16 = .ok (.lconst 0, 1) := by decide +kernel
theorem dX5_edge_17 : decode cX5_edge 17 = .ok (.ldc2_w 185, 3) := by decide +kernel
theorem dX5_edge_20 : decode cX5_edge 20 = .ok (.invokestatic 54, 3) := by decide +kernel
theorem dX5_edge_23 : decode cX5_edge 23 = .ok (.ifCond .eq 10, 3) := by decide +kernel
theorem dX5_edge_26 : decode cX5_edge 26 = .ok (.iload_n 3, 1) := by decide +kernel
theorem dX5_edge_27 : decode cX5_edge 27 = .ok (.invokestatic 62, 3) := by decide +kernel
theorem dX5_edge_30 : decode cX5_edge 30 = .ok (.ifCond .ne 8, 3) := by decide +kernel
theorem dX5_edge_33 : decode cX5_edge 33 = .ok (.aload_n 0, 1) := by decide +kernel
theorem dX5_edge_34 : decode cX5_edge 34 = .ok (.invokevirtual 110, 3) := by decide +kernel
theorem dX5_edge_37 : decode cX5_edge 37 = .ok (.ireturn, 1) := by decide +kernel
theorem dX5_edge_38 : decode cX5_edge 38 = .ok (.iload_n 3, 1) := by decide +kernel
theorem dX5_edge_39 : decode cX5_edge 39 = .ok (.ifCond .ne 13, 3) := by decide +kernel
theorem dX5_edge_42 : decode cX5_edge 42 = .ok (.iload_n 1, 1) := by decide +kernel
theorem dX5_edge_43 : decode cX5_edge 43 = .ok (.iload_n 2, 1) := by decide +kernel
theorem dX5_edge_44 : decode cX5_edge 44 = .ok (.iadd, 1) := by decide +kernel
theorem dX5_edge_45 : decode cX5_edge 45 = .ok (.iconst 4, 1) := by decide +kernel
theorem dX5_edge_46 : decode cX5_edge 46 = .ok (.iload_n 2, 1) := by decide +kernel
theorem dX5_edge_47 : decode cX5_edge 47 = .ok (.iadd, 1) := by decide +kernel
theorem dX5_edge_48 : decode cX5_edge 48 = .ok (.idiv, 1) := by decide +kernel
theorem dX5_edge_49 : decode cX5_edge 49 = .ok (.goto 8, 3) := by decide +kernel
theorem dX5_edge_52 : decode cX5_edge 52 = .ok (.iload_n 1, 1) := by decide +kernel
theorem dX5_edge_53 : decode cX5_edge 53 = .ok (.iload_n 2, 1) := by decide +kernel
theorem dX5_edge_54 : decode cX5_edge 54 = .ok (.invokestatic 197, 3) := by decide +kernel
theorem dX5_edge_57 : decode cX5_edge 57 = .ok (.ireturn, 1) := by decide +kernel
theorem dX5_gap_0 : decode cX5_gap 0 = .ok (.iload_n 1, 1) := by decide +kernel
theorem dX5_gap_1 : decode cX5_gap 1 = .ok (.i2l, 1) := by decide +kernel
theorem dX5_gap_2 : decode cX5_gap 2 = .ok (.ldc2_w 193, 3) := by decide +kernel
theorem dX5_gap_5 : decode cX5_gap 5 = .ok (.ldc2_w 195, 3) := by decide +kernel
theorem dX5_gap_8 : decode cX5_gap 8 = .ok (.invokestatic 54, 3) := by decide +kernel
theorem dX5_gap_11 : decode cX5_gap 11 = .ok (.ifCond .ne 8, 3) := by decide +kernel
theorem dX5_gap_14 : decode cX5_gap 14 = .ok (.aload_n 0, 1) := by decide +kernel
theorem dX5_gap_15 : decode cX5_gap 15 = .ok (.invokevirtual 110, 3) := by decide +kernel
theorem dX5_gap_18 : decode cX5_gap 18 = .ok (.ireturn, 1) := by decide +kernel
theorem dX5_gap_19 : decode cX5_gap 19 = .ok (.iconst 0, 1) := by decide +kernel
theorem dX5_gap_20 : decode cX5_gap 20 = .ok (.istore_n 2, 1) := by decide +kernel
theorem dX5_gap_21 : decode cX5_gap 21 = .ok (.iconst 1, 1) := by decide +kernel
theorem dX5_gap_22 : decode cX5_gap 22 = .ok (.istore_n 3, 1) := by decide +kernel
theorem dX5_gap_23 : decode cX5_gap 23 = .ok (.iload_n 3, 1) := by decide +kernel
theorem dX5_gap_24 : decode cX5_gap 24 = .ok (.bipush 9, 2) := by decide +kernel
theorem dX5_gap_26 : decode cX5_gap 26 = .ok (.if_icmp .gt 28, 3) := by decide +kernel
theorem dX5_gap_29 : decode cX5_gap 29 = .ok (.iload_n 1, 1) := by decide +kernel
theorem dX5_gap_30 : decode cX5_gap 30 = .ok (.iload_n 3, 1) := by decide +kernel
theorem dX5_gap_31 : decode cX5_gap 31 = .ok (.invokestatic 197, 3) := by decide +kernel
theorem dX5_gap_34 : decode cX5_gap 34 = .ok (.iload_n 1, 1) := by decide +kernel
theorem dX5_gap_35 : decode cX5_gap 35 = .ok (.iload_n 2, 1) := by decide +kernel
theorem dX5_gap_36 : decode cX5_gap 36 = .ok (.invokestatic 197, 3) := by decide +kernel
theorem dX5_gap_39 : decode cX5_gap 39 = .ok (.if_icmp .ge 7, 3) := by decide +kernel
theorem dX5_gap_42 : decode cX5_gap 42 = .ok (.iload_n 3, 1) := by decide +kernel
theorem dX5_gap_43 : decode cX5_gap 43 = .ok (.goto 4, 3) := by decide +kernel
theorem dX5_gap_46 : decode cX5_gap 46 = .ok (.iload_n 2, 1) := by decide +kernel
theorem dX5_gap_47 : decode cX5_gap 47 = .ok (.istore_n 2, 1) := by decide +kernel
theorem dX5_gap_48 : decode cX5_gap 48 = .ok (.iinc 3 1, 3) := by decide +kernel
theorem dX5_gap_51 : decode cX5_gap 51 = .ok (.goto (-28), 3) := by decide +kernel
theorem dX5_gap_54 : decode cX5_gap 54 = .ok (.iload_n 2, 1) := by decide +kernel
theorem dX5_gap_55 : decode cX5_gap 55 = .ok (.ireturn, 1) := by decide +kernel
theorem dX5_covers_0 : decode cX5_covers 0 = .ok (.iload_n 3, 1) := by decide +kernel
theorem dX5_covers_1 : decode cX5_covers 1 = .ok (.bipush 8, 2) := by decide +kernel
theorem dX5_covers_3 : decode cX5_covers 3 = .ok (.irem, 1) := by decide +kernel
theorem dX5_covers_4 : decode cX5_covers 4 = .ok (.iload_n 1, 1) := by decide +kernel
theorem dX5_covers_5 : decode cX5_covers 5 = .ok (.isub, 1) := by decide +kernel
theorem dX5_covers_6 : decode cX5_covers 6 = .ok (.istore 4, 2) := by decide +kernel
theorem dX5_covers_8 : decode cX5_covers 8 = .ok (.iload_n 3, 1) := by decide +kernel
theorem dX5_covers_9 : decode cX5_covers 9 = .ok (.bipush 8, 2) := by decide +kernel
theorem dX5_covers_11 : decode cX5_covers 11 = .ok (.idiv, 1) := by decide +kernel
theorem dX5_covers_12 : decode cX5_covers 12 = .ok (.iload_n 2, 1) := by decide +kernel
theorem dX5_covers_13 : decode cX5_covers 13 = .ok (.isub, 1) := by decide +kernel
theorem dX5_covers_14 : decode cX5_covers 14 = .ok (.istore 5, 2) := by decide +kernel
theorem dX5_covers_16 : decode cX5_covers 16 = .ok (.iload 4, 2) := by decide +kernel
theorem dX5_covers_18 : decode cX5_covers 18 = .ok (.i2l, 1) := by decide +kernel
theorem dX5_covers_19 : decode cX5_covers 19 = .ok (.lconst 0, 1) := by decide +kernel
theorem dX5_covers_20 : decode cX5_covers 20 = .ok (.ldc2_w 70, 3) := by decide +kernel
theorem dX5_covers_23 : decode cX5_covers 23 = .ok (.invokestatic 54, 3) := by decide +kernel
theorem dX5_covers_26 : decode cX5_covers 26 = .ok (.ifCond .eq 34, 3) := by decide +kernel
theorem dX5_covers_29 : decode cX5_covers 29 = .ok (.iload 5, 2) := by decide +kernel
theorem dX5_covers_31 : decode cX5_covers 31 = .ok (.i2l, 1) := by decide +kernel
theorem dX5_covers_32 : decode cX5_covers 32 = .ok (.lconst 0, 1) := by decide +kernel
theorem dX5_covers_33 : decode cX5_covers 33 = .ok (.ldc2_w 70, 3) := by decide +kernel
theorem dX5_covers_36 : decode cX5_covers 36 = .ok (.invokestatic 54, 3) := by decide +kernel
theorem dX5_covers_39 : decode cX5_covers 39 = .ok (.ifCond .eq 21, 3) := by decide +kernel
theorem dX5_covers_42 : decode cX5_covers 42 = .ok (.iload_n 0, 1) := by decide +kernel
theorem dX5_covers_43 : decode cX5_covers 43 = .ok (.iconst 4, 1) := by decide +kernel
theorem dX5_covers_44 : decode cX5_covers 44 = .ok (.iload 5, 2) := by decide +kernel
theorem dX5_covers_46 : decode cX5_covers 46 = .ok (.imul, 1) := by decide +kernel
theorem dX5_covers_47 : decode cX5_covers 47 = .ok (.iload 4, 2) := by decide +kernel
theorem dX5_covers_49 : decode cX5_covers 49 = .ok (.iadd, 1) := by decide +kernel
theorem dX5_covers_50 : decode cX5_covers 50 = .ok (.invokestatic 72, 3) := by decide +kernel
theorem dX5_covers_53 : decode cX5_covers 53 = .ok (.ifCond .eq 7, 3) := by decide +kernel
theorem dX5_covers_56 : decode cX5_covers 56 = .ok (.iconst 1, 1) := by decide +kernel
theorem dX5_covers_57 : decode cX5_covers 57 = .ok (.goto 4, 3) := by decide +kernel
theorem dX5_covers_60 : decode cX5_covers 60 = .ok (.iconst 0, 1) := by decide +kernel
theorem dX5_covers_61 : decode cX5_covers 61 = .ok (.ireturn, 1) := by decide +kernel
theorem dX5_numberOf_0 : decode cX5_numberOf 0 = .ok (.bipush 100, 2) := by decide +kernel
theorem dX5_numberOf_2 : decode cX5_numberOf 2 = .ok (.iload_n 0, 1) := by decide +kernel
theorem dX5_numberOf_3 : decode cX5_numberOf 3 = .ok (.imul, 1) := by decide +kernel
theorem dX5_numberOf_4 : decode cX5_numberOf 4 = .ok (.bipush 10, 2) := by decide +kernel
theorem dX5_numberOf_6 : decode cX5_numberOf 6 = .ok (.iload_n 1, 1) := by decide +kernel
theorem dX5_numberOf_7 : decode cX5_numberOf 7 = .ok (.imul, 1) := by decide +kernel
theorem dX5_numberOf_8 : decode cX5_numberOf 8 = .ok (.iadd, 1) := by decide +kernel
theorem dX5_numberOf_9 : decode cX5_numberOf 9 = .ok (.iload_n 2, 1) := by decide +kernel
theorem dX5_numberOf_10 : decode cX5_numberOf 10 = .ok (.iadd, 1) := by decide +kernel
theorem dX5_numberOf_11 : decode cX5_numberOf 11 = .ok (.ireturn, 1) := by decide +kernel
theorem dX5_hit_0 : decode cX5_hit 0 = .ok (.iload_n 1, 1) := by decide +kernel
theorem dX5_hit_1 : decode cX5_hit 1 = .ok (.invokestatic 62, 3) := by decide +kernel
theorem dX5_hit_4 : decode cX5_hit 4 = .ok (.ifCond .eq 10, 3) := by decide +kernel
theorem dX5_hit_7 : decode cX5_hit 7 = .ok (.iload_n 2, 1) := by decide +kernel
theorem dX5_hit_8 : decode cX5_hit 8 = .ok (.invokestatic 62, 3) := by decide +kernel
theorem dX5_hit_11 : decode cX5_hit 11 = .ok (.ifCond .ne 8, 3) := by decide +kernel
theorem dX5_hit_14 : decode cX5_hit 14 = .ok (.aload_n 0, 1) := by decide +kernel
theorem dX5_hit_15 : decode cX5_hit 15 = .ok (.invokevirtual 110, 3) := by decide +kernel
theorem dX5_hit_18 : decode cX5_hit 18 = .ok (.ireturn, 1) := by decide +kernel
theorem dX5_hit_19 : decode cX5_hit 19 = .ok (.iconst 0, 1) := by decide +kernel
theorem dX5_hit_20 : decode cX5_hit 20 = .ok (.istore_n 3, 1) := by decide +kernel
theorem dX5_hit_21 : decode cX5_hit 21 = .ok (.iconst (-1), 1) := by decide +kernel
theorem dX5_hit_22 : decode cX5_hit 22 = .ok (.istore 4, 2) := by decide +kernel
theorem dX5_hit_24 : decode cX5_hit 24 = .ok (.iconst 0, 1) := by decide +kernel
theorem dX5_hit_25 : decode cX5_hit 25 = .ok (.istore 5, 2) := by decide +kernel
theorem dX5_hit_27 : decode cX5_hit 27 = .ok (.iload 5, 2) := by decide +kernel
theorem dX5_hit_29 : decode cX5_hit 29 = .ok (.bipush 100, 2) := by decide +kernel
theorem dX5_hit_31 : decode cX5_hit 31 = .ok (.if_icmp .ge 114, 3) := by decide +kernel
theorem dX5_hit_34 : decode cX5_hit 34 = .ok (.iload 5, 2) := by decide +kernel
theorem dX5_hit_36 : decode cX5_hit 36 = .ok (.bipush 25, 2) := by decide +kernel
theorem dX5_hit_38 : decode cX5_hit 38 = .ok (.idiv, 1) := by decide +kernel
theorem dX5_hit_39 : decode cX5_hit 39 = .ok (.istore 6, 2) := by decide +kernel
theorem dX5_hit_41 : decode cX5_hit 41 = .ok (.iload 5, 2) := by decide +kernel
theorem dX5_hit_43 : decode cX5_hit 43 = .ok (.iconst 5, 1) := by decide +kernel
theorem dX5_hit_44 : decode cX5_hit 44 = .ok (.idiv, 1) := by decide +kernel
theorem dX5_hit_45 : decode cX5_hit 45 = .ok (.iconst 5, 1) := by decide +kernel
theorem dX5_hit_46 : decode cX5_hit 46 = .ok (.irem, 1) := by decide +kernel
theorem dX5_hit_47 : decode cX5_hit 47 = .ok (.istore 7, 2) := by decide +kernel
theorem dX5_hit_49 : decode cX5_hit 49 = .ok (.iload 5, 2) := by decide +kernel
theorem dX5_hit_51 : decode cX5_hit 51 = .ok (.iconst 5, 1) := by decide +kernel
theorem dX5_hit_52 : decode cX5_hit 52 = .ok (.irem, 1) := by decide +kernel
theorem dX5_hit_53 : decode cX5_hit 53 = .ok (.istore 8, 2) := by decide +kernel
theorem dX5_hit_55 : decode cX5_hit 55 = .ok (.aload_n 0, 1) := by decide +kernel
theorem dX5_hit_56 : decode cX5_hit 56 = .ok (.iload_n 1, 1) := by decide +kernel
theorem dX5_hit_57 : decode cX5_hit 57 = .ok (.iload 6, 2) := by decide +kernel
theorem dX5_hit_59 : decode cX5_hit 59 = .ok (.invokevirtual 90, 3) := by decide +kernel
theorem dX5_hit_62 : decode cX5_hit 62 = .ok (.istore 9, 2) := by decide +kernel
theorem dX5_hit_64 : decode cX5_hit 64 = .ok (.iconst 0, 1) := by decide +kernel
theorem dX5_hit_65 : decode cX5_hit 65 = .ok (.istore 10, 2) := by decide +kernel
theorem dX5_hit_67 : decode cX5_hit 67 = .ok (.iconst 0, 1) := by decide +kernel
theorem dX5_hit_68 : decode cX5_hit 68 = .ok (.istore 11, 2) := by decide +kernel
theorem dX5_hit_70 : decode cX5_hit 70 = .ok (.iload 11, 2) := by decide +kernel
theorem dX5_hit_72 : decode cX5_hit 72 = .ok (.bipush 64, 2) := by decide +kernel
theorem dX5_hit_74 : decode cX5_hit 74 = .ok (.if_icmp .ge 45, 3) := by decide +kernel
theorem dX5_hit_77 : decode cX5_hit 77 = .ok (.iload 10, 2) := by decide +kernel
theorem dX5_hit_79 : decode cX5_hit 79 = .ok (.aload_n 0, 1) := by decide +kernel
theorem dX5_hit_80 : decode cX5_hit 80 = .ok (.getfield 7, 3) := by decide +kernel
theorem dX5_hit_83 : decode cX5_hit 83 = .ok (.iconst 0, 1) := by decide +kernel
theorem dX5_hit_84 : decode cX5_hit 84 = .ok (.iload 11, 2) := by decide +kernel
theorem dX5_hit_86 : decode cX5_hit 86 = .ok (.iadd, 1) := by decide +kernel
theorem dX5_hit_87 : decode cX5_hit 87 = .ok (.iaload, 1) := by decide +kernel
theorem dX5_hit_88 : decode cX5_hit 88 = .ok (.ifCond .le 21, 3) := by decide +kernel
theorem dX5_hit_91 : decode cX5_hit 91 = .ok (.iload 9, 2) := by decide +kernel
theorem dX5_hit_93 : decode cX5_hit 93 = .ok (.iload 8, 2) := by decide +kernel
theorem dX5_hit_95 : decode cX5_hit 95 = .ok (.iload 7, 2) := by decide +kernel
theorem dX5_hit_97 : decode cX5_hit 97 = .ok (.iload 11, 2) := by decide +kernel
theorem dX5_hit_99 : decode cX5_hit 99 = .ok (.invokestatic 200, 3) := by decide +kernel
theorem dX5_hit_102 : decode cX5_hit 102 = .ok (.ifCond .eq 7, 3) := by decide +kernel
theorem dX5_hit_105 : decode cX5_hit 105 = .ok (.iconst 1, 1) := by decide +kernel
theorem dX5_hit_106 : decode cX5_hit 106 = .ok (.goto 4, 3) := by decide +kernel
theorem dX5_hit_109 : decode cX5_hit 109 = .ok (.iconst 0, 1) := by decide +kernel
theorem dX5_hit_110 : decode cX5_hit 110 = .ok (.iadd, 1) := by decide +kernel
theorem dX5_hit_111 : decode cX5_hit 111 = .ok (.istore 10, 2) := by decide +kernel
theorem dX5_hit_113 : decode cX5_hit 113 = .ok (.iinc 11 1, 3) := by decide +kernel
theorem dX5_hit_116 : decode cX5_hit 116 = .ok (.goto (-46), 3) := by decide +kernel
theorem dX5_hit_119 : decode cX5_hit 119 = .ok (.iload 10, 2) := by decide +kernel
theorem dX5_hit_121 : decode cX5_hit 121 = .ok (.iload_n 3, 1) := by decide +kernel
theorem dX5_hit_122 : decode cX5_hit 122 = .ok (.if_icmp .le 17, 3) := by decide +kernel
theorem dX5_hit_125 : decode cX5_hit 125 = .ok (.iload 10, 2) := by decide +kernel
theorem dX5_hit_127 : decode cX5_hit 127 = .ok (.istore_n 3, 1) := by decide +kernel
theorem dX5_hit_128 : decode cX5_hit 128 = .ok (.iload 6, 2) := by decide +kernel
theorem dX5_hit_130 : decode cX5_hit 130 = .ok (.iload 7, 2) := by decide +kernel
theorem dX5_hit_132 : decode cX5_hit 132 = .ok (.iload 8, 2) := by decide +kernel
theorem dX5_hit_134 : decode cX5_hit 134 = .ok (.invokestatic 204, 3) := by decide +kernel
theorem dX5_hit_137 : decode cX5_hit 137 = .ok (.istore 4, 2) := by decide +kernel
theorem dX5_hit_139 : decode cX5_hit 139 = .ok (.iinc 5 1, 3) := by decide +kernel
theorem dX5_hit_142 : decode cX5_hit 142 = .ok (.goto (-115), 3) := by decide +kernel
theorem dX5_hit_145 : decode cX5_hit 145 = .ok (.iload 4, 2) := by decide +kernel
theorem dX5_hit_147 : decode cX5_hit 147 = .ok (.ifCond .ge 7, 3) := by decide +kernel
theorem dX5_hit_150 : decode cX5_hit 150 = .ok (.iconst (-1), 1) := by decide +kernel
theorem dX5_hit_151 : decode cX5_hit 151 = .ok (.goto 13, 3) := by decide +kernel
theorem dX5_hit_154 : decode cX5_hit 154 = .ok (.iload_n 2, 1) := by decide +kernel
theorem dX5_hit_155 : decode cX5_hit 155 = .ok (.ifCond .ne 7, 3) := by decide +kernel
theorem dX5_hit_158 : decode cX5_hit 158 = .ok (.iload_n 3, 1) := by decide +kernel
theorem dX5_hit_159 : decode cX5_hit 159 = .ok (.goto 5, 3) := by decide +kernel
theorem dX5_hit_162 : decode cX5_hit 162 = .ok (.iload 4, 2) := by decide +kernel
theorem dX5_hit_164 : decode cX5_hit 164 = .ok (.ireturn, 1) := by decide +kernel
theorem dX5_want_0 : decode cX5_want 0 = .ok (.iload_n 1, 1) := by decide +kernel
theorem dX5_want_1 : decode cX5_want 1 = .ok (.iload_n 2, 1) := by decide +kernel
theorem dX5_want_2 : decode cX5_want 2 = .ok (.invokestatic 66, 3) := by decide +kernel
theorem dX5_want_5 : decode cX5_want 5 = .ok (.ifCond .ne 8, 3) := by decide +kernel
theorem dX5_want_8 : decode cX5_want 8 = .ok (.aload_n 0, 1) := by decide +kernel
theorem dX5_want_9 : decode cX5_want 9 = .ok (.invokevirtual 110, 3) := by decide +kernel
theorem dX5_want_12 : decode cX5_want 12 = .ok (.ireturn, 1) := by decide +kernel
theorem dX5_want_13 : decode cX5_want 13 = .ok (.aload_n 0, 1) := by decide +kernel
theorem dX5_want_14 : decode cX5_want 14 = .ok (.getfield 7, 3) := by decide +kernel
theorem dX5_want_17 : decode cX5_want 17 = .ok (.bipush 67, 2) := by decide +kernel
theorem dX5_want_19 : decode cX5_want 19 = .ok (.iaload, 1) := by decide +kernel
theorem dX5_want_20 : decode cX5_want 20 = .ok (.bipush 8, 2) := by decide +kernel
theorem dX5_want_22 : decode cX5_want 22 = .ok (.if_icmp .ne 8, 3) := by decide +kernel
theorem dX5_want_25 : decode cX5_want 25 = .ok (.aload_n 0, 1) := by decide +kernel
theorem dX5_want_26 : decode cX5_want 26 = .ok (.invokevirtual 141, 3) := by decide +kernel
theorem dX5_want_29 : decode cX5_want 29 = .ok (.ireturn, 1) := by decide +kernel
theorem dX5_want_30 : decode cX5_want 30 = .ok (.aload_n 0, 1) := by decide +kernel
theorem dX5_want_31 : decode cX5_want 31 = .ok (.getfield 7, 3) := by decide +kernel
theorem dX5_want_34 : decode cX5_want 34 = .ok (.bipush 68, 2) := by decide +kernel
theorem dX5_want_36 : decode cX5_want 36 = .ok (.aload_n 0, 1) := by decide +kernel
theorem dX5_want_37 : decode cX5_want 37 = .ok (.getfield 7, 3) := by decide +kernel
theorem dX5_want_40 : decode cX5_want 40 = .ok (.bipush 67, 2) := by decide +kernel
theorem dX5_want_42 : decode cX5_want 42 = .ok (.iaload, 1) := by decide +kernel
theorem dX5_want_43 : decode cX5_want 43 = .ok (.iadd, 1) := by decide +kernel
theorem dX5_want_44 : decode cX5_want 44 = .ok (.bipush 8, 2) := by decide +kernel
theorem dX5_want_46 : decode cX5_want 46 = .ok (.iload_n 2, 1) := by decide +kernel
theorem dX5_want_47 : decode cX5_want 47 = .ok (.imul, 1) := by decide +kernel
theorem dX5_want_48 : decode cX5_want 48 = .ok (.iload_n 1, 1) := by decide +kernel
theorem dX5_want_49 : decode cX5_want 49 = .ok (.iadd, 1) := by decide +kernel
theorem dX5_want_50 : decode cX5_want 50 = .ok (.iastore, 1) := by decide +kernel
theorem dX5_want_51 : decode cX5_want 51 = .ok (.aload_n 0, 1) := by decide +kernel
theorem dX5_want_52 : decode cX5_want 52 = .ok (.getfield 7, 3) := by decide +kernel
theorem dX5_want_55 : decode cX5_want 55 = .ok (.bipush 67, 2) := by decide +kernel
theorem dX5_want_57 : decode cX5_want 57 = .ok (.dup2, 1) := by decide +kernel
theorem dX5_want_58 : decode cX5_want 58 = .ok (.iaload, 1) := by decide +kernel
theorem dX5_want_59 : decode cX5_want 59 = .ok (.iconst 1, 1) := by decide +kernel
theorem dX5_want_60 : decode cX5_want 60 = .ok (.iadd, 1) := by decide +kernel
theorem dX5_want_61 : decode cX5_want 61 = .ok (.iastore, 1) := by decide +kernel
theorem dX5_want_62 : decode cX5_want 62 = .ok (.aload_n 0, 1) := by decide +kernel
theorem dX5_want_63 : decode cX5_want 63 = .ok (.getfield 7, 3) := by decide +kernel
theorem dX5_want_66 : decode cX5_want 66 = .ok (.bipush 67, 2) := by decide +kernel
theorem dX5_want_68 : decode cX5_want 68 = .ok (.iaload, 1) := by decide +kernel
theorem dX5_want_69 : decode cX5_want 69 = .ok (.ireturn, 1) := by decide +kernel
theorem dX5_findWanted_0 : decode cX5_findWanted 0 = .ok (.iconst 0, 1) := by decide +kernel
theorem dX5_findWanted_1 : decode cX5_findWanted 1 = .ok (.istore_n 2, 1) := by decide +kernel
theorem dX5_findWanted_2 : decode cX5_findWanted 2 = .ok (.iload_n 2, 1) := by decide +kernel
theorem dX5_findWanted_3 : decode cX5_findWanted 3 = .ok (.sipush 256, 3) := by decide +kernel
theorem dX5_findWanted_6 : decode cX5_findWanted 6 = .ok (.if_icmp .ge 92, 3) := by decide +kernel
theorem dX5_findWanted_9 : decode cX5_findWanted 9 = .ok (.aload_n 0, 1) := by decide +kernel
theorem dX5_findWanted_10 : decode cX5_findWanted 10 = .ok (.iload_n 1, 1) := by decide +kernel
theorem dX5_findWanted_11 : decode cX5_findWanted 11 = .ok (.iload_n 2, 1) := by decide +kernel
theorem dX5_findWanted_12 : decode cX5_findWanted 12 = .ok (.bipush 64, 2) := by decide +kernel
theorem dX5_findWanted_14 : decode cX5_findWanted 14 = .ok (.idiv, 1) := by decide +kernel
theorem dX5_findWanted_15 : decode cX5_findWanted 15 = .ok (.invokevirtual 90, 3) := by decide +kernel
theorem dX5_findWanted_18 : decode cX5_findWanted 18 = .ok (.istore_n 3, 1) := by decide +kernel
theorem dX5_findWanted_19 : decode cX5_findWanted 19 = .ok (.aload_n 0, 1) := by decide +kernel
theorem dX5_findWanted_20 : decode cX5_findWanted 20 = .ok (.getfield 32, 3) := by decide +kernel
theorem dX5_findWanted_23 : decode cX5_findWanted 23 = .ok (.iload_n 2, 1) := by decide +kernel
theorem dX5_findWanted_24 : decode cX5_findWanted 24 = .ok (.iconst 0, 1) := by decide +kernel
theorem dX5_findWanted_25 : decode cX5_findWanted 25 = .ok (.iastore, 1) := by decide +kernel
theorem dX5_findWanted_26 : decode cX5_findWanted 26 = .ok (.iconst 0, 1) := by decide +kernel
theorem dX5_findWanted_27 : decode cX5_findWanted 27 = .ok (.istore 4, 2) := by decide +kernel
theorem dX5_findWanted_29 : decode cX5_findWanted 29 = .ok (.iload 4, 2) := by decide +kernel
theorem dX5_findWanted_31 : decode cX5_findWanted 31 = .ok (.aload_n 0, 1) := by decide +kernel
theorem dX5_findWanted_32 : decode cX5_findWanted 32 = .ok (.getfield 7, 3) := by decide +kernel
theorem dX5_findWanted_35 : decode cX5_findWanted 35 = .ok (.bipush 67, 2) := by decide +kernel
theorem dX5_findWanted_37 : decode cX5_findWanted 37 = .ok (.iaload, 1) := by decide +kernel
theorem dX5_findWanted_38 : decode cX5_findWanted 38 = .ok (.if_icmp .ge 54, 3) := by decide +kernel
theorem dX5_findWanted_41 : decode cX5_findWanted 41 = .ok (.aload_n 0, 1) := by decide +kernel
theorem dX5_findWanted_42 : decode cX5_findWanted 42 = .ok (.getfield 32, 3) := by decide +kernel
end
section
theorem dX5_findWanted_45 : decode cX5_findWanted 45 = .ok (.iload_n 2, 1) := by decide +kernel
theorem dX5_findWanted_46 : decode cX5_findWanted 46 = .ok (.dup2, 1) := by decide +kernel
theorem dX5_findWanted_47 : decode cX5_findWanted 47 = .ok (.iaload, 1) := by decide +kernel
theorem dX5_findWanted_48 : decode cX5_findWanted 48 = .ok (.iload_n 3, 1) := by decide +kernel
theorem dX5_findWanted_49 : decode cX5_findWanted 49 = .ok (.iload_n 2, 1) := by decide +kernel
theorem dX5_findWanted_50 : decode cX5_findWanted 50 = .ok (.bipush 8, 2) := by decide +kernel
theorem dX5_findWanted_52 : decode cX5_findWanted 52 = .ok (.irem, 1) := by decide +kernel
theorem dX5_findWanted_53 : decode cX5_findWanted 53 = .ok (.iload_n 2, 1) := by decide +kernel
theorem dX5_findWanted_54 : decode cX5_findWanted 54 = .ok (.bipush 8, 2) := by decide +kernel
theorem dX5_findWanted_56 : decode cX5_findWanted 56 = .ok (.idiv, 1) := by decide +kernel
theorem dX5_findWanted_57 : decode cX5_findWanted 57 = .ok (.bipush 8, 2) := by decide +kernel
theorem dX5_findWanted_59 : decode cX5_findWanted 59 = .ok (.irem, 1) := by decide +kernel
theorem dX5_findWanted_60 : decode cX5_findWanted 60 = .ok (.aload_n 0, 1) := by decide +kernel
theorem dX5_findWanted_61 : decode cX5_findWanted 61 = .ok (.getfield 7, 3) := by decide +kernel
theorem dX5_findWanted_64 : decode cX5_findWanted 64 = .ok (.bipush 68, 2) := by decide +kernel
theorem dX5_findWanted_66 : decode cX5_findWanted 66 = .ok (.iload 4, 2) := by decide +kernel
theorem dX5_findWanted_68 : decode cX5_findWanted 68 = .ok (.iadd, 1) := by decide +kernel
theorem dX5_findWanted_69 : decode cX5_findWanted 69 = .ok (.iaload, 1) := by decide +kernel
theorem dX5_findWanted_70 : decode cX5_findWanted 70 = .ok (.invokestatic 200, 3) := by decide +kernel
theorem dX5_findWanted_73 : decode cX5_findWanted 73 = .ok (.ifCond .eq 10, 3) := by decide +kernel
theorem dX5_findWanted_76 : decode cX5_findWanted 76 = .ok (.iconst 1, 1) := by decide +kernel
theorem dX5_findWanted_77 : decode cX5_findWanted 77 = .ok (.iload 4, 2) := by decide +kernel
theorem dX5_findWanted_79 : decode cX5_findWanted 79 = .ok (.ishl, 1) := by decide +kernel
theorem dX5_findWanted_80 : decode cX5_findWanted 80 = .ok (.goto 4, 3) := by decide +kernel
theorem dX5_findWanted_83 : decode cX5_findWanted 83 = .ok (.iconst 0, 1) := by decide +kernel
theorem dX5_findWanted_84 : decode cX5_findWanted 84 = .ok (.ior, 1) := by decide +kernel
theorem dX5_findWanted_85 : decode cX5_findWanted 85 = .ok (.iastore, 1) := by decide +kernel
theorem dX5_findWanted_86 : decode cX5_findWanted 86 = .ok (.iinc 4 1, 3) := by decide +kernel
theorem dX5_findWanted_89 : decode cX5_findWanted 89 = .ok (.goto (-60), 3) := by decide +kernel
theorem dX5_findWanted_92 : decode cX5_findWanted 92 = .ok (.iinc 2 1, 3) := by decide +kernel
theorem dX5_findWanted_95 : decode cX5_findWanted 95 = .ok (.goto (-93), 3) := by decide +kernel
theorem dX5_findWanted_98 : decode cX5_findWanted 98 = .ok (.return_, 1) := by decide +kernel
theorem dX5_numberBy_0 : decode cX5_numberBy 0 = .ok (.iload_n 0, 1) := by decide +kernel
theorem dX5_numberBy_1 : decode cX5_numberBy 1 = .ok (.bipush 64, 2) := by decide +kernel
theorem dX5_numberBy_3 : decode cX5_numberBy 3 = .ok (.idiv, 1) := by decide +kernel
theorem dX5_numberBy_4 : decode cX5_numberBy 4 = .ok (.iload_n 0, 1) := by decide +kernel
theorem dX5_numberBy_5 : decode cX5_numberBy 5 = .ok (.bipush 8, 2) := by decide +kernel
theorem dX5_numberBy_7 : decode cX5_numberBy 7 = .ok (.idiv, 1) := by decide +kernel
theorem dX5_numberBy_8 : decode cX5_numberBy 8 = .ok (.bipush 8, 2) := by decide +kernel
theorem dX5_numberBy_10 : decode cX5_numberBy 10 = .ok (.irem, 1) := by decide +kernel
theorem dX5_numberBy_11 : decode cX5_numberBy 11 = .ok (.iload_n 0, 1) := by decide +kernel
theorem dX5_numberBy_12 : decode cX5_numberBy 12 = .ok (.bipush 8, 2) := by decide +kernel
theorem dX5_numberBy_14 : decode cX5_numberBy 14 = .ok (.irem, 1) := by decide +kernel
theorem dX5_numberBy_15 : decode cX5_numberBy 15 = .ok (.invokestatic 204, 3) := by decide +kernel
theorem dX5_numberBy_18 : decode cX5_numberBy 18 = .ok (.ireturn, 1) := by decide +kernel
theorem dX5_cover_0 : decode cX5_cover 0 = .ok (.iload_n 1, 1) := by decide +kernel
theorem dX5_cover_1 : decode cX5_cover 1 = .ok (.invokestatic 62, 3) := by decide +kernel
theorem dX5_cover_4 : decode cX5_cover 4 = .ok (.ifCond .eq 10, 3) := by decide +kernel
theorem dX5_cover_7 : decode cX5_cover 7 = .ok (.iload_n 2, 1) := by decide +kernel
theorem dX5_cover_8 : decode cX5_cover 8 = .ok (.invokestatic 62, 3) := by decide +kernel
theorem dX5_cover_11 : decode cX5_cover 11 = .ok (.ifCond .ne 11, 3) := by decide +kernel
theorem dX5_cover_14 : decode cX5_cover 14 = .ok (.aload_n 0, 1) := by decide +kernel
theorem dX5_cover_15 : decode cX5_cover 15 = .ok (.invokevirtual 110, 3) := by decide +kernel
theorem dX5_cover_18 : decode cX5_cover 18 = .ok (.pop, 1) := by decide +kernel
theorem dX5_cover_19 : decode cX5_cover 19 = .ok (.bipush (-10), 2) := by decide +kernel
theorem dX5_cover_21 : decode cX5_cover 21 = .ok (.ireturn, 1) := by decide +kernel
theorem dX5_cover_22 : decode cX5_cover 22 = .ok (.iconst 1, 1) := by decide +kernel
theorem dX5_cover_23 : decode cX5_cover 23 = .ok (.aload_n 0, 1) := by decide +kernel
theorem dX5_cover_24 : decode cX5_cover 24 = .ok (.getfield 7, 3) := by decide +kernel
theorem dX5_cover_27 : decode cX5_cover 27 = .ok (.bipush 67, 2) := by decide +kernel
theorem dX5_cover_29 : decode cX5_cover 29 = .ok (.iaload, 1) := by decide +kernel
theorem dX5_cover_30 : decode cX5_cover 30 = .ok (.ishl, 1) := by decide +kernel
theorem dX5_cover_31 : decode cX5_cover 31 = .ok (.iconst 1, 1) := by decide +kernel
theorem dX5_cover_32 : decode cX5_cover 32 = .ok (.isub, 1) := by decide +kernel
theorem dX5_cover_33 : decode cX5_cover 33 = .ok (.istore_n 3, 1) := by decide +kernel
theorem dX5_cover_34 : decode cX5_cover 34 = .ok (.iload_n 3, 1) := by decide +kernel
theorem dX5_cover_35 : decode cX5_cover 35 = .ok (.ifCond .ne 13, 3) := by decide +kernel
theorem dX5_cover_38 : decode cX5_cover 38 = .ok (.iload_n 2, 1) := by decide +kernel
theorem dX5_cover_39 : decode cX5_cover 39 = .ok (.ifCond .ne 7, 3) := by decide +kernel
theorem dX5_cover_42 : decode cX5_cover 42 = .ok (.iconst 0, 1) := by decide +kernel
theorem dX5_cover_43 : decode cX5_cover 43 = .ok (.goto 4, 3) := by decide +kernel
theorem dX5_cover_46 : decode cX5_cover 46 = .ok (.iconst (-1), 1) := by decide +kernel
theorem dX5_cover_47 : decode cX5_cover 47 = .ok (.ireturn, 1) := by decide +kernel
theorem dX5_cover_48 : decode cX5_cover 48 = .ok (.aload_n 0, 1) := by decide +kernel
theorem dX5_cover_49 : decode cX5_cover 49 = .ok (.iload_n 1, 1) := by decide +kernel
theorem dX5_cover_50 : decode cX5_cover 50 = .ok (.invokevirtual 207, 3) := by decide +kernel
theorem dX5_cover_53 : decode cX5_cover 53 = .ok (.iconst 0, 1) := by decide +kernel
theorem dX5_cover_54 : decode cX5_cover 54 = .ok (.istore 4, 2) := by decide +kernel
theorem dX5_cover_56 : decode cX5_cover 56 = .ok (.iload 4, 2) := by decide +kernel
theorem dX5_cover_58 : decode cX5_cover 58 = .ok (.sipush 256, 3) := by decide +kernel
theorem dX5_cover_61 : decode cX5_cover 61 = .ok (.if_icmp .ge 34, 3) := by decide +kernel
theorem dX5_cover_64 : decode cX5_cover 64 = .ok (.aload_n 0, 1) := by decide +kernel
theorem dX5_cover_65 : decode cX5_cover 65 = .ok (.getfield 32, 3) := by decide +kernel
theorem dX5_cover_68 : decode cX5_cover 68 = .ok (.iload 4, 2) := by decide +kernel
theorem dX5_cover_70 : decode cX5_cover 70 = .ok (.iaload, 1) := by decide +kernel
theorem dX5_cover_71 : decode cX5_cover 71 = .ok (.iload_n 3, 1) := by decide +kernel
theorem dX5_cover_72 : decode cX5_cover 72 = .ok (.if_icmp .ne 17, 3) := by decide +kernel
theorem dX5_cover_75 : decode cX5_cover 75 = .ok (.iload_n 2, 1) := by decide +kernel
theorem dX5_cover_76 : decode cX5_cover 76 = .ok (.ifCond .ne 7, 3) := by decide +kernel
theorem dX5_cover_79 : decode cX5_cover 79 = .ok (.iconst 1, 1) := by decide +kernel
theorem dX5_cover_80 : decode cX5_cover 80 = .ok (.goto 8, 3) := by decide +kernel
theorem dX5_cover_83 : decode cX5_cover 83 = .ok (.iload 4, 2) := by decide +kernel
theorem dX5_cover_85 : decode cX5_cover 85 = .ok (.invokestatic 210, 3) := by decide +kernel
theorem dX5_cover_88 : decode cX5_cover 88 = .ok (.ireturn, 1) := by decide +kernel
theorem dX5_cover_89 : decode cX5_cover 89 = .ok (.iinc 4 1, 3) := by decide +kernel
theorem dX5_cover_92 : decode cX5_cover 92 = .ok (.goto (-36), 3) := by decide +kernel
theorem dX5_cover_95 : decode cX5_cover 95 = .ok (.iconst 0, 1) := by decide +kernel
theorem dX5_cover_96 : decode cX5_cover 96 = .ok (.istore 4, 2) := by decide +kernel
theorem dX5_cover_98 : decode cX5_cover 98 = .ok (.iload 4, 2) := by decide +kernel
theorem dX5_cover_100 : decode cX5_cover 100 = .ok (.sipush 256, 3) := by decide +kernel
theorem dX5_cover_103 : decode cX5_cover 103 = .ok (.if_icmp .ge 59, 3) := by decide +kernel
theorem dX5_cover_106 : decode cX5_cover 106 = .ok (.iconst 0, 1) := by decide +kernel
theorem dX5_cover_107 : decode cX5_cover 107 = .ok (.istore 5, 2) := by decide +kernel
theorem dX5_cover_109 : decode cX5_cover 109 = .ok (.iload 5, 2) := by decide +kernel
theorem dX5_cover_111 : decode cX5_cover 111 = .ok (.sipush 256, 3) := by decide +kernel
theorem dX5_cover_114 : decode cX5_cover 114 = .ok (.if_icmp .ge 42, 3) := by decide +kernel
theorem dX5_cover_117 : decode cX5_cover 117 = .ok (.aload_n 0, 1) := by decide +kernel
theorem dX5_cover_118 : decode cX5_cover 118 = .ok (.getfield 32, 3) := by decide +kernel
theorem dX5_cover_121 : decode cX5_cover 121 = .ok (.iload 4, 2) := by decide +kernel
theorem dX5_cover_123 : decode cX5_cover 123 = .ok (.iaload, 1) := by decide +kernel
theorem dX5_cover_124 : decode cX5_cover 124 = .ok (.aload_n 0, 1) := by decide +kernel
theorem dX5_cover_125 : decode cX5_cover 125 = .ok (.getfield 32, 3) := by decide +kernel
theorem dX5_cover_128 : decode cX5_cover 128 = .ok (.iload 5, 2) := by decide +kernel
theorem dX5_cover_130 : decode cX5_cover 130 = .ok (.iaload, 1) := by decide +kernel
theorem dX5_cover_131 : decode cX5_cover 131 = .ok (.ior, 1) := by decide +kernel
theorem dX5_cover_132 : decode cX5_cover 132 = .ok (.iload_n 3, 1) := by decide +kernel
theorem dX5_cover_133 : decode cX5_cover 133 = .ok (.if_icmp .ne 17, 3) := by decide +kernel
theorem dX5_cover_136 : decode cX5_cover 136 = .ok (.iload_n 2, 1) := by decide +kernel
theorem dX5_cover_137 : decode cX5_cover 137 = .ok (.ifCond .ne 7, 3) := by decide +kernel
theorem dX5_cover_140 : decode cX5_cover 140 = .ok (.iconst 2, 1) := by decide +kernel
theorem dX5_cover_141 : decode cX5_cover 141 = .ok (.goto 8, 3) := by decide +kernel
theorem dX5_cover_144 : decode cX5_cover 144 = .ok (.iload 4, 2) := by decide +kernel
theorem dX5_cover_146 : decode cX5_cover 146 = .ok (.invokestatic 210, 3) := by decide +kernel
theorem dX5_cover_149 : decode cX5_cover 149 = .ok (.ireturn, 1) := by decide +kernel
theorem dX5_cover_150 : decode cX5_cover 150 = .ok (.iinc 5 1, 3) := by decide +kernel
theorem dX5_cover_153 : decode cX5_cover 153 = .ok (.goto (-44), 3) := by decide +kernel
theorem dX5_cover_156 : decode cX5_cover 156 = .ok (.iinc 4 1, 3) := by decide +kernel
theorem dX5_cover_159 : decode cX5_cover 159 = .ok (.goto (-61), 3) := by decide +kernel
theorem dX5_cover_162 : decode cX5_cover 162 = .ok (.iconst (-1), 1) := by decide +kernel
theorem dX5_cover_163 : decode cX5_cover 163 = .ok (.ireturn, 1) := by decide +kernel
theorem dX5_shrunk_0 : decode cX5_shrunk 0 = .ok (.iconst 0, 1) := by decide +kernel
theorem dX5_shrunk_1 : decode cX5_shrunk 1 = .ok (.istore_n 1, 1) := by decide +kernel
theorem dX5_shrunk_2 : decode cX5_shrunk 2 = .ok (.iconst 0, 1) := by decide +kernel
theorem dX5_shrunk_3 : decode cX5_shrunk 3 = .ok (.istore_n 2, 1) := by decide +kernel
theorem dX5_shrunk_4 : decode cX5_shrunk 4 = .ok (.iload_n 2, 1) := by decide +kernel
theorem dX5_shrunk_5 : decode cX5_shrunk 5 = .ok (.bipush 16, 2) := by decide +kernel
theorem dX5_shrunk_7 : decode cX5_shrunk 7 = .ok (.if_icmp .ge 120, 3) := by decide +kernel
theorem dX5_shrunk_10 : decode cX5_shrunk 10 = .ok (.iload_n 2, 1) := by decide +kernel
theorem dX5_shrunk_11 : decode cX5_shrunk 11 = .ok (.iconst 4, 1) := by decide +kernel
theorem dX5_shrunk_12 : decode cX5_shrunk 12 = .ok (.irem, 1) := by decide +kernel
theorem dX5_shrunk_13 : decode cX5_shrunk 13 = .ok (.istore_n 3, 1) := by decide +kernel
theorem dX5_shrunk_14 : decode cX5_shrunk 14 = .ok (.iload_n 2, 1) := by decide +kernel
theorem dX5_shrunk_15 : decode cX5_shrunk 15 = .ok (.iconst 4, 1) := by decide +kernel
theorem dX5_shrunk_16 : decode cX5_shrunk 16 = .ok (.idiv, 1) := by decide +kernel
theorem dX5_shrunk_17 : decode cX5_shrunk 17 = .ok (.istore 4, 2) := by decide +kernel
theorem dX5_shrunk_19 : decode cX5_shrunk 19 = .ok (.iload_n 3, 1) := by decide +kernel
theorem dX5_shrunk_20 : decode cX5_shrunk 20 = .ok (.ifCond .le 23, 3) := by decide +kernel
theorem dX5_shrunk_23 : decode cX5_shrunk 23 = .ok (.iload_n 3, 1) := by decide +kernel
theorem dX5_shrunk_24 : decode cX5_shrunk 24 = .ok (.iconst 3, 1) := by decide +kernel
theorem dX5_shrunk_25 : decode cX5_shrunk 25 = .ok (.if_icmp .ge 18, 3) := by decide +kernel
theorem dX5_shrunk_28 : decode cX5_shrunk 28 = .ok (.iload 4, 2) := by decide +kernel
theorem dX5_shrunk_30 : decode cX5_shrunk 30 = .ok (.ifCond .le 13, 3) := by decide +kernel
theorem dX5_shrunk_33 : decode cX5_shrunk 33 = .ok (.iload 4, 2) := by decide +kernel
theorem dX5_shrunk_35 : decode cX5_shrunk 35 = .ok (.iconst 3, 1) := by decide +kernel
theorem dX5_shrunk_36 : decode cX5_shrunk 36 = .ok (.if_icmp .ge 7, 3) := by decide +kernel
theorem dX5_shrunk_39 : decode cX5_shrunk 39 = .ok (.iconst 1, 1) := by decide +kernel
theorem dX5_shrunk_40 : decode cX5_shrunk 40 = .ok (.goto 4, 3) := by decide +kernel
theorem dX5_shrunk_43 : decode cX5_shrunk 43 = .ok (.iconst 0, 1) := by decide +kernel
theorem dX5_shrunk_44 : decode cX5_shrunk 44 = .ok (.istore 5, 2) := by decide +kernel
theorem dX5_shrunk_46 : decode cX5_shrunk 46 = .ok (.iload 5, 2) := by decide +kernel
theorem dX5_shrunk_48 : decode cX5_shrunk 48 = .ok (.ifCond .eq 55, 3) := by decide +kernel
theorem dX5_shrunk_51 : decode cX5_shrunk 51 = .ok (.iload_n 0, 1) := by decide +kernel
theorem dX5_shrunk_52 : decode cX5_shrunk 52 = .ok (.iload_n 2, 1) := by decide +kernel
theorem dX5_shrunk_53 : decode cX5_shrunk 53 = .ok (.invokestatic 72, 3) := by decide +kernel
theorem dX5_shrunk_56 : decode cX5_shrunk 56 = .ok (.ifCond .eq 47, 3) := by decide +kernel
theorem dX5_shrunk_59 : decode cX5_shrunk 59 = .ok (.iload_n 0, 1) := by decide +kernel
theorem dX5_shrunk_60 : decode cX5_shrunk 60 = .ok (.iload_n 2, 1) := by decide +kernel
theorem dX5_shrunk_61 : decode cX5_shrunk 61 = .ok (.iconst 1, 1) := by decide +kernel
theorem dX5_shrunk_62 : decode cX5_shrunk 62 = .ok (.isub, 1) := by decide +kernel
theorem dX5_shrunk_63 : decode cX5_shrunk 63 = .ok (.invokestatic 72, 3) := by decide +kernel
theorem dX5_shrunk_66 : decode cX5_shrunk 66 = .ok (.ifCond .eq 37, 3) := by decide +kernel
theorem dX5_shrunk_69 : decode cX5_shrunk 69 = .ok (.iload_n 0, 1) := by decide +kernel
theorem dX5_shrunk_70 : decode cX5_shrunk 70 = .ok (.iload_n 2, 1) := by decide +kernel
theorem dX5_shrunk_71 : decode cX5_shrunk 71 = .ok (.iconst 1, 1) := by decide +kernel
theorem dX5_shrunk_72 : decode cX5_shrunk 72 = .ok (.iadd, 1) := by decide +kernel
theorem dX5_shrunk_73 : decode cX5_shrunk 73 = .ok (.invokestatic 72, 3) := by decide +kernel
theorem dX5_shrunk_76 : decode cX5_shrunk 76 = .ok (.ifCond .eq 27, 3) := by decide +kernel
theorem dX5_shrunk_79 : decode cX5_shrunk 79 = .ok (.iload_n 0, 1) := by decide +kernel
theorem dX5_shrunk_80 : decode cX5_shrunk 80 = .ok (.iload_n 2, 1) := by decide +kernel
theorem dX5_shrunk_81 : decode cX5_shrunk 81 = .ok (.iconst 4, 1) := by decide +kernel
theorem dX5_shrunk_82 : decode cX5_shrunk 82 = .ok (.isub, 1) := by decide +kernel
theorem dX5_shrunk_83 : decode cX5_shrunk 83 = .ok (.invokestatic 72, 3) := by decide +kernel
theorem dX5_shrunk_86 : decode cX5_shrunk 86 = .ok (.ifCond .eq 17, 3) := by decide +kernel
theorem dX5_shrunk_89 : decode cX5_shrunk 89 = .ok (.iload_n 0, 1) := by decide +kernel
theorem dX5_shrunk_90 : decode cX5_shrunk 90 = .ok (.iload_n 2, 1) := by decide +kernel
theorem dX5_shrunk_91 : decode cX5_shrunk 91 = .ok (.iconst 4, 1) := by decide +kernel
theorem dX5_shrunk_92 : decode cX5_shrunk 92 = .ok (.iadd, 1) := by decide +kernel
theorem dX5_shrunk_93 : decode cX5_shrunk 93 = .ok (.invokestatic 72, 3) := by decide +kernel
theorem dX5_shrunk_96 : decode cX5_shrunk 96 = .ok (.ifCond .eq 7, 3) := by decide +kernel
theorem dX5_shrunk_99 : decode cX5_shrunk 99 = .ok (.iconst 1, 1) := by decide +kernel
theorem dX5_shrunk_100 : decode cX5_shrunk 100 = .ok (.goto 4, 3) := by decide +kernel
theorem dX5_shrunk_103 : decode cX5_shrunk 103 = .ok (.iconst 0, 1) := by decide +kernel
theorem dX5_shrunk_104 : decode cX5_shrunk 104 = .ok (.istore 6, 2) := by decide +kernel
theorem dX5_shrunk_106 : decode cX5_shrunk 106 = .ok (.iload_n 1, 1) := by decide +kernel
theorem dX5_shrunk_107 : decode cX5_shrunk 107 = .ok (.iload 6, 2) := by decide +kernel
theorem dX5_shrunk_109 : decode cX5_shrunk 109 = .ok (.ifCond .eq 9, 3) := by decide +kernel
theorem dX5_shrunk_112 : decode cX5_shrunk 112 = .ok (.iconst 1, 1) := by decide +kernel
theorem dX5_shrunk_113 : decode cX5_shrunk 113 = .ok (.iload_n 2, 1) := by decide +kernel
theorem dX5_shrunk_114 : decode cX5_shrunk 114 = .ok (.ishl, 1) := by decide +kernel
theorem dX5_shrunk_115 : decode cX5_shrunk 115 = .ok (.goto 4, 3) := by decide +kernel
theorem dX5_shrunk_118 : decode cX5_shrunk 118 = .ok (.iconst 0, 1) := by decide +kernel
theorem dX5_shrunk_119 : decode cX5_shrunk 119 = .ok (.ior, 1) := by decide +kernel
theorem dX5_shrunk_120 : decode cX5_shrunk 120 = .ok (.istore_n 1, 1) := by decide +kernel
theorem dX5_shrunk_121 : decode cX5_shrunk 121 = .ok (.iinc 2 1, 3) := by decide +kernel
theorem dX5_shrunk_124 : decode cX5_shrunk 124 = .ok (.goto (-120), 3) := by decide +kernel
theorem dX5_shrunk_127 : decode cX5_shrunk 127 = .ok (.iload_n 1, 1) := by decide +kernel
theorem dX5_shrunk_128 : decode cX5_shrunk 128 = .ok (.ireturn, 1) := by decide +kernel
theorem dX5_shrinks_0 : decode cX5_shrinks 0 = .ok (.iload_n 1, 1) := by decide +kernel
theorem dX5_shrinks_1 : decode cX5_shrinks 1 = .ok (.invokestatic 62, 3) := by decide +kernel
theorem dX5_shrinks_4 : decode cX5_shrinks 4 = .ok (.ifCond .eq 15, 3) := by decide +kernel
theorem dX5_shrinks_7 : decode cX5_shrinks 7 = .ok (.iload_n 2, 1) := by decide +kernel
theorem dX5_shrinks_8 : decode cX5_shrinks 8 = .ok (.i2l, 1) := by decide +kernel
theorem dX5_shrinks_9 : decode cX5_shrinks 9 = .ok (.lconst 0, 1) := by decide +kernel
theorem dX5_shrinks_10 : decode cX5_shrinks 10 = .ok (.ldc2_w 193, 3) := by decide +kernel
theorem dX5_shrinks_13 : decode cX5_shrinks 13 = .ok (.invokestatic 54, 3) := by decide +kernel
theorem dX5_shrinks_16 : decode cX5_shrinks 16 = .ok (.ifCond .ne 8, 3) := by decide +kernel
theorem dX5_shrinks_19 : decode cX5_shrinks 19 = .ok (.aload_n 0, 1) := by decide +kernel
theorem dX5_shrinks_20 : decode cX5_shrinks 20 = .ok (.invokevirtual 110, 3) := by decide +kernel
theorem dX5_shrinks_23 : decode cX5_shrinks 23 = .ok (.ireturn, 1) := by decide +kernel
theorem dX5_shrinks_24 : decode cX5_shrinks 24 = .ok (.aload_n 0, 1) := by decide +kernel
theorem dX5_shrinks_25 : decode cX5_shrinks 25 = .ok (.getfield 7, 3) := by decide +kernel
theorem dX5_shrinks_28 : decode cX5_shrinks 28 = .ok (.bipush 65, 2) := by decide +kernel
theorem dX5_shrinks_30 : decode cX5_shrinks 30 = .ok (.iload_n 1, 1) := by decide +kernel
theorem dX5_shrinks_31 : decode cX5_shrinks 31 = .ok (.iadd, 1) := by decide +kernel
theorem dX5_shrinks_32 : decode cX5_shrinks 32 = .ok (.iaload, 1) := by decide +kernel
theorem dX5_shrinks_33 : decode cX5_shrinks 33 = .ok (.istore_n 3, 1) := by decide +kernel
theorem dX5_shrinks_34 : decode cX5_shrinks 34 = .ok (.iconst 0, 1) := by decide +kernel
theorem dX5_shrinks_35 : decode cX5_shrinks 35 = .ok (.istore 4, 2) := by decide +kernel
theorem dX5_shrinks_37 : decode cX5_shrinks 37 = .ok (.iload 4, 2) := by decide +kernel
theorem dX5_shrinks_39 : decode cX5_shrinks 39 = .ok (.iload_n 2, 1) := by decide +kernel
theorem dX5_shrinks_40 : decode cX5_shrinks 40 = .ok (.if_icmp .ge 14, 3) := by decide +kernel
theorem dX5_shrinks_43 : decode cX5_shrinks 43 = .ok (.iload_n 3, 1) := by decide +kernel
theorem dX5_shrinks_44 : decode cX5_shrinks 44 = .ok (.invokestatic 213, 3) := by decide +kernel
theorem dX5_shrinks_47 : decode cX5_shrinks 47 = .ok (.istore_n 3, 1) := by decide +kernel
theorem dX5_shrinks_48 : decode cX5_shrinks 48 = .ok (.iinc 4 1, 3) := by decide +kernel
theorem dX5_shrinks_51 : decode cX5_shrinks 51 = .ok (.goto (-14), 3) := by decide +kernel
theorem dX5_shrinks_54 : decode cX5_shrinks 54 = .ok (.iload_n 3, 1) := by decide +kernel
theorem dX5_shrinks_55 : decode cX5_shrinks 55 = .ok (.ireturn, 1) := by decide +kernel
theorem dX5_gone_0 : decode cX5_gone 0 = .ok (.iload_n 1, 1) := by decide +kernel
theorem dX5_gone_1 : decode cX5_gone 1 = .ok (.invokestatic 62, 3) := by decide +kernel
theorem dX5_gone_4 : decode cX5_gone 4 = .ok (.ifCond .ne 8, 3) := by decide +kernel
theorem dX5_gone_7 : decode cX5_gone 7 = .ok (.aload_n 0, 1) := by decide +kernel
theorem dX5_gone_8 : decode cX5_gone 8 = .ok (.invokevirtual 110, 3) := by decide +kernel
theorem dX5_gone_11 : decode cX5_gone 11 = .ok (.ireturn, 1) := by decide +kernel
theorem dX5_gone_12 : decode cX5_gone 12 = .ok (.iconst 0, 1) := by decide +kernel
theorem dX5_gone_13 : decode cX5_gone 13 = .ok (.istore_n 2, 1) := by decide +kernel
theorem dX5_gone_14 : decode cX5_gone 14 = .ok (.aload_n 0, 1) := by decide +kernel
theorem dX5_gone_15 : decode cX5_gone 15 = .ok (.getfield 7, 3) := by decide +kernel
theorem dX5_gone_18 : decode cX5_gone 18 = .ok (.bipush 65, 2) := by decide +kernel
theorem dX5_gone_20 : decode cX5_gone 20 = .ok (.iload_n 1, 1) := by decide +kernel
theorem dX5_gone_21 : decode cX5_gone 21 = .ok (.iadd, 1) := by decide +kernel
theorem dX5_gone_22 : decode cX5_gone 22 = .ok (.iaload, 1) := by decide +kernel
theorem dX5_gone_23 : decode cX5_gone 23 = .ok (.istore_n 3, 1) := by decide +kernel
theorem dX5_gone_24 : decode cX5_gone 24 = .ok (.iload_n 3, 1) := by decide +kernel
theorem dX5_gone_25 : decode cX5_gone 25 = .ok (.ifCond .eq 14, 3) := by decide +kernel
theorem dX5_gone_28 : decode cX5_gone 28 = .ok (.iinc 2 1, 3) := by decide +kernel
theorem dX5_gone_31 : decode cX5_gone 31 = .ok (.iload_n 3, 1) := by decide +kernel
theorem dX5_gone_32 : decode cX5_gone 32 = .ok (.invokestatic 213, 3) := by decide +kernel
theorem dX5_gone_35 : decode cX5_gone 35 = .ok (.istore_n 3, 1) := by decide +kernel
theorem dX5_gone_36 : decode cX5_gone 36 = .ok (.goto (-12), 3) := by decide +kernel
theorem dX5_gone_39 : decode cX5_gone 39 = .ok (.iload_n 2, 1) := by decide +kernel
theorem dX5_gone_40 : decode cX5_gone 40 = .ok (.ireturn, 1) := by decide +kernel
theorem dX5_seen_0 : decode cX5_seen 0 = .ok (.iload_n 1, 1) := by decide +kernel
theorem dX5_seen_1 : decode cX5_seen 1 = .ok (.iload_n 2, 1) := by decide +kernel
theorem dX5_seen_2 : decode cX5_seen 2 = .ok (.invokestatic 66, 3) := by decide +kernel
theorem dX5_seen_5 : decode cX5_seen 5 = .ok (.ifCond .eq 10, 3) := by decide +kernel
theorem dX5_seen_8 : decode cX5_seen 8 = .ok (.iload_n 3, 1) := by decide +kernel
theorem dX5_seen_9 : decode cX5_seen 9 = .ok (.invokestatic 62, 3) := by decide +kernel
theorem dX5_seen_12 : decode cX5_seen 12 = .ok (.ifCond .ne 8, 3) := by decide +kernel
theorem dX5_seen_15 : decode cX5_seen 15 = .ok (.aload_n 0, 1) := by decide +kernel
theorem dX5_seen_16 : decode cX5_seen 16 = .ok (.invokevirtual 110, 3) := by decide +kernel
theorem dX5_seen_19 : decode cX5_seen 19 = .ok (.ireturn, 1) := by decide +kernel
theorem dX5_seen_20 : decode cX5_seen 20 = .ok (.aload_n 0, 1) := by decide +kernel
theorem dX5_seen_21 : decode cX5_seen 21 = .ok (.getfield 7, 3) := by decide +kernel
theorem dX5_seen_24 : decode cX5_seen 24 = .ok (.bipush 76, 2) := by decide +kernel
theorem dX5_seen_26 : decode cX5_seen 26 = .ok (.iaload, 1) := by decide +kernel
theorem dX5_seen_27 : decode cX5_seen 27 = .ok (.bipush 8, 2) := by decide +kernel
theorem dX5_seen_29 : decode cX5_seen 29 = .ok (.if_icmp .ne 8, 3) := by decide +kernel
theorem dX5_seen_32 : decode cX5_seen 32 = .ok (.aload_n 0, 1) := by decide +kernel
theorem dX5_seen_33 : decode cX5_seen 33 = .ok (.invokevirtual 141, 3) := by decide +kernel
theorem dX5_seen_36 : decode cX5_seen 36 = .ok (.ireturn, 1) := by decide +kernel
theorem dX5_seen_37 : decode cX5_seen 37 = .ok (.aload_n 0, 1) := by decide +kernel
theorem dX5_seen_38 : decode cX5_seen 38 = .ok (.getfield 7, 3) := by decide +kernel
theorem dX5_seen_41 : decode cX5_seen 41 = .ok (.bipush 77, 2) := by decide +kernel
theorem dX5_seen_43 : decode cX5_seen 43 = .ok (.aload_n 0, 1) := by decide +kernel
theorem dX5_seen_44 : decode cX5_seen 44 = .ok (.getfield 7, 3) := by decide +kernel
theorem dX5_seen_47 : decode cX5_seen 47 = .ok (.bipush 76, 2) := by decide +kernel
theorem dX5_seen_49 : decode cX5_seen 49 = .ok (.iaload, 1) := by decide +kernel
theorem dX5_seen_50 : decode cX5_seen 50 = .ok (.iadd, 1) := by decide +kernel
theorem dX5_seen_51 : decode cX5_seen 51 = .ok (.iconst 2, 1) := by decide +kernel
theorem dX5_seen_52 : decode cX5_seen 52 = .ok (.bipush 8, 2) := by decide +kernel
theorem dX5_seen_54 : decode cX5_seen 54 = .ok (.iload_n 2, 1) := by decide +kernel
theorem dX5_seen_55 : decode cX5_seen 55 = .ok (.imul, 1) := by decide +kernel
theorem dX5_seen_56 : decode cX5_seen 56 = .ok (.iload_n 1, 1) := by decide +kernel
theorem dX5_seen_57 : decode cX5_seen 57 = .ok (.iadd, 1) := by decide +kernel
theorem dX5_seen_58 : decode cX5_seen 58 = .ok (.imul, 1) := by decide +kernel
theorem dX5_seen_59 : decode cX5_seen 59 = .ok (.iload_n 3, 1) := by decide +kernel
theorem dX5_seen_60 : decode cX5_seen 60 = .ok (.iadd, 1) := by decide +kernel
theorem dX5_seen_61 : decode cX5_seen 61 = .ok (.iastore, 1) := by decide +kernel
theorem dX5_seen_62 : decode cX5_seen 62 = .ok (.aload_n 0, 1) := by decide +kernel
theorem dX5_seen_63 : decode cX5_seen 63 = .ok (.getfield 7, 3) := by decide +kernel
theorem dX5_seen_66 : decode cX5_seen 66 = .ok (.bipush 76, 2) := by decide +kernel
theorem dX5_seen_68 : decode cX5_seen 68 = .ok (.dup2, 1) := by decide +kernel
theorem dX5_seen_69 : decode cX5_seen 69 = .ok (.iaload, 1) := by decide +kernel
theorem dX5_seen_70 : decode cX5_seen 70 = .ok (.iconst 1, 1) := by decide +kernel
theorem dX5_seen_71 : decode cX5_seen 71 = .ok (.iadd, 1) := by decide +kernel
theorem dX5_seen_72 : decode cX5_seen 72 = .ok (.iastore, 1) := by decide +kernel
theorem dX5_seen_73 : decode cX5_seen 73 = .ok (.aload_n 0, 1) := by decide +kernel
theorem dX5_seen_74 : decode cX5_seen 74 = .ok (.getfield 7, 3) := by decide +kernel
theorem dX5_seen_77 : decode cX5_seen 77 = .ok (.bipush 76, 2) := by decide +kernel
theorem dX5_seen_79 : decode cX5_seen 79 = .ok (.iaload, 1) := by decide +kernel
theorem dX5_seen_80 : decode cX5_seen 80 = .ok (.ireturn, 1) := by decide +kernel
theorem dX5_forget_0 : decode cX5_forget 0 = .ok (.iload_n 1, 1) := by decide +kernel
theorem dX5_forget_1 : decode cX5_forget 1 = .ok (.invokestatic 62, 3) := by decide +kernel
theorem dX5_forget_4 : decode cX5_forget 4 = .ok (.ifCond .ne 8, 3) := by decide +kernel
theorem dX5_forget_7 : decode cX5_forget 7 = .ok (.aload_n 0, 1) := by decide +kernel
theorem dX5_forget_8 : decode cX5_forget 8 = .ok (.invokevirtual 110, 3) := by decide +kernel
theorem dX5_forget_11 : decode cX5_forget 11 = .ok (.ireturn, 1) := by decide +kernel
theorem dX5_forget_12 : decode cX5_forget 12 = .ok (.iload_n 1, 1) := by decide +kernel
theorem dX5_forget_13 : decode cX5_forget 13 = .ok (.ifCond .ne 8, 3) := by decide +kernel
theorem dX5_forget_16 : decode cX5_forget 16 = .ok (.bipush 67, 2) := by decide +kernel
theorem dX5_forget_18 : decode cX5_forget 18 = .ok (.goto 5, 3) := by decide +kernel
theorem dX5_forget_21 : decode cX5_forget 21 = .ok (.bipush 76, 2) := by decide +kernel
theorem dX5_forget_23 : decode cX5_forget 23 = .ok (.istore_n 2, 1) := by decide +kernel
theorem dX5_forget_24 : decode cX5_forget 24 = .ok (.aload_n 0, 1) := by decide +kernel
theorem dX5_forget_25 : decode cX5_forget 25 = .ok (.getfield 7, 3) := by decide +kernel
theorem dX5_forget_28 : decode cX5_forget 28 = .ok (.iload_n 2, 1) := by decide +kernel
theorem dX5_forget_29 : decode cX5_forget 29 = .ok (.iaload, 1) := by decide +kernel
theorem dX5_forget_30 : decode cX5_forget 30 = .ok (.istore_n 3, 1) := by decide +kernel
theorem dX5_forget_31 : decode cX5_forget 31 = .ok (.aload_n 0, 1) := by decide +kernel
theorem dX5_forget_32 : decode cX5_forget 32 = .ok (.getfield 7, 3) := by decide +kernel
theorem dX5_forget_35 : decode cX5_forget 35 = .ok (.iload_n 2, 1) := by decide +kernel
theorem dX5_forget_36 : decode cX5_forget 36 = .ok (.iconst 0, 1) := by decide +kernel
theorem dX5_forget_37 : decode cX5_forget 37 = .ok (.iastore, 1) := by decide +kernel
theorem dX5_forget_38 : decode cX5_forget 38 = .ok (.iload_n 3, 1) := by decide +kernel
theorem dX5_forget_39 : decode cX5_forget 39 = .ok (.ireturn, 1) := by decide +kernel
theorem dX5_canBe_0 : decode cX5_canBe 0 = .ok (.aload_n 0, 1) := by decide +kernel
theorem dX5_canBe_1 : decode cX5_canBe 1 = .ok (.iload_n 1, 1) := by decide +kernel
theorem dX5_canBe_2 : decode cX5_canBe 2 = .ok (.iload_n 2, 1) := by decide +kernel
theorem dX5_canBe_3 : decode cX5_canBe 3 = .ok (.bipush 64, 2) := by decide +kernel
theorem dX5_canBe_5 : decode cX5_canBe 5 = .ok (.idiv, 1) := by decide +kernel
theorem dX5_canBe_6 : decode cX5_canBe 6 = .ok (.invokevirtual 90, 3) := by decide +kernel
theorem dX5_canBe_9 : decode cX5_canBe 9 = .ok (.istore_n 3, 1) := by decide +kernel
theorem dX5_canBe_10 : decode cX5_canBe 10 = .ok (.iconst 1, 1) := by decide +kernel
theorem dX5_canBe_11 : decode cX5_canBe 11 = .ok (.istore 4, 2) := by decide +kernel
theorem dX5_canBe_13 : decode cX5_canBe 13 = .ok (.iconst 0, 1) := by decide +kernel
theorem dX5_canBe_14 : decode cX5_canBe 14 = .ok (.istore 5, 2) := by decide +kernel
theorem dX5_canBe_16 : decode cX5_canBe 16 = .ok (.iload 5, 2) := by decide +kernel
theorem dX5_canBe_18 : decode cX5_canBe 18 = .ok (.aload_n 0, 1) := by decide +kernel
theorem dX5_canBe_19 : decode cX5_canBe 19 = .ok (.getfield 7, 3) := by decide +kernel
theorem dX5_canBe_22 : decode cX5_canBe 22 = .ok (.bipush 76, 2) := by decide +kernel
theorem dX5_canBe_24 : decode cX5_canBe 24 = .ok (.iaload, 1) := by decide +kernel
theorem dX5_canBe_25 : decode cX5_canBe 25 = .ok (.if_icmp .ge 68, 3) := by decide +kernel
theorem dX5_canBe_28 : decode cX5_canBe 28 = .ok (.aload_n 0, 1) := by decide +kernel
theorem dX5_canBe_29 : decode cX5_canBe 29 = .ok (.getfield 7, 3) := by decide +kernel
theorem dX5_canBe_32 : decode cX5_canBe 32 = .ok (.bipush 77, 2) := by decide +kernel
theorem dX5_canBe_34 : decode cX5_canBe 34 = .ok (.iload 5, 2) := by decide +kernel
theorem dX5_canBe_36 : decode cX5_canBe 36 = .ok (.iadd, 1) := by decide +kernel
theorem dX5_canBe_37 : decode cX5_canBe 37 = .ok (.iaload, 1) := by decide +kernel
theorem dX5_canBe_38 : decode cX5_canBe 38 = .ok (.istore 6, 2) := by decide +kernel
theorem dX5_canBe_40 : decode cX5_canBe 40 = .ok (.iload 4, 2) := by decide +kernel
theorem dX5_canBe_42 : decode cX5_canBe 42 = .ok (.ifCond .eq 42, 3) := by decide +kernel
theorem dX5_canBe_45 : decode cX5_canBe 45 = .ok (.iload_n 3, 1) := by decide +kernel
theorem dX5_canBe_46 : decode cX5_canBe 46 = .ok (.iload_n 2, 1) := by decide +kernel
theorem dX5_canBe_47 : decode cX5_canBe 47 = .ok (.bipush 8, 2) := by decide +kernel
theorem dX5_canBe_49 : decode cX5_canBe 49 = .ok (.irem, 1) := by decide +kernel
theorem dX5_canBe_50 : decode cX5_canBe 50 = .ok (.iload_n 2, 1) := by decide +kernel
theorem dX5_canBe_51 : decode cX5_canBe 51 = .ok (.bipush 8, 2) := by decide +kernel
theorem dX5_canBe_53 : decode cX5_canBe 53 = .ok (.idiv, 1) := by decide +kernel
theorem dX5_canBe_54 : decode cX5_canBe 54 = .ok (.bipush 8, 2) := by decide +kernel
theorem dX5_canBe_56 : decode cX5_canBe 56 = .ok (.irem, 1) := by decide +kernel
theorem dX5_canBe_57 : decode cX5_canBe 57 = .ok (.iload 6, 2) := by decide +kernel
theorem dX5_canBe_59 : decode cX5_canBe 59 = .ok (.iconst 2, 1) := by decide +kernel
theorem dX5_canBe_60 : decode cX5_canBe 60 = .ok (.idiv, 1) := by decide +kernel
theorem dX5_canBe_61 : decode cX5_canBe 61 = .ok (.invokestatic 200, 3) := by decide +kernel
theorem dX5_canBe_64 : decode cX5_canBe 64 = .ok (.iload 6, 2) := by decide +kernel
theorem dX5_canBe_66 : decode cX5_canBe 66 = .ok (.iconst 2, 1) := by decide +kernel
theorem dX5_canBe_67 : decode cX5_canBe 67 = .ok (.irem, 1) := by decide +kernel
theorem dX5_canBe_68 : decode cX5_canBe 68 = .ok (.iconst 1, 1) := by decide +kernel
theorem dX5_canBe_69 : decode cX5_canBe 69 = .ok (.if_icmp .ne 7, 3) := by decide +kernel
theorem dX5_canBe_72 : decode cX5_canBe 72 = .ok (.iconst 1, 1) := by decide +kernel
theorem dX5_canBe_73 : decode cX5_canBe 73 = .ok (.goto 4, 3) := by decide +kernel
theorem dX5_canBe_76 : decode cX5_canBe 76 = .ok (.iconst 0, 1) := by decide +kernel
theorem dX5_canBe_77 : decode cX5_canBe 77 = .ok (.if_icmp .ne 7, 3) := by decide +kernel
theorem dX5_canBe_80 : decode cX5_canBe 80 = .ok (.iconst 1, 1) := by decide +kernel
theorem dX5_canBe_81 : decode cX5_canBe 81 = .ok (.goto 4, 3) := by decide +kernel
theorem dX5_canBe_84 : decode cX5_canBe 84 = .ok (.iconst 0, 1) := by decide +kernel
theorem dX5_canBe_85 : decode cX5_canBe 85 = .ok (.istore 4, 2) := by decide +kernel
theorem dX5_canBe_87 : decode cX5_canBe 87 = .ok (.iinc 5 1, 3) := by decide +kernel
theorem dX5_canBe_90 : decode cX5_canBe 90 = .ok (.goto (-74), 3) := by decide +kernel
theorem dX5_canBe_93 : decode cX5_canBe 93 = .ok (.iload 4, 2) := by decide +kernel
theorem dX5_canBe_95 : decode cX5_canBe 95 = .ok (.ireturn, 1) := by decide +kernel
theorem dX5_which_0 : decode cX5_which 0 = .ok (.iload_n 1, 1) := by decide +kernel
theorem dX5_which_1 : decode cX5_which 1 = .ok (.invokestatic 62, 3) := by decide +kernel
theorem dX5_which_4 : decode cX5_which 4 = .ok (.ifCond .eq 10, 3) := by decide +kernel
theorem dX5_which_7 : decode cX5_which 7 = .ok (.iload_n 2, 1) := by decide +kernel
theorem dX5_which_8 : decode cX5_which 8 = .ok (.invokestatic 62, 3) := by decide +kernel
theorem dX5_which_11 : decode cX5_which 11 = .ok (.ifCond .ne 11, 3) := by decide +kernel
theorem dX5_which_14 : decode cX5_which 14 = .ok (.aload_n 0, 1) := by decide +kernel
theorem dX5_which_15 : decode cX5_which 15 = .ok (.invokevirtual 110, 3) := by decide +kernel
theorem dX5_which_18 : decode cX5_which 18 = .ok (.pop, 1) := by decide +kernel
theorem dX5_which_19 : decode cX5_which 19 = .ok (.bipush (-10), 2) := by decide +kernel
theorem dX5_which_21 : decode cX5_which 21 = .ok (.ireturn, 1) := by decide +kernel
theorem dX5_which_22 : decode cX5_which 22 = .ok (.iconst 0, 1) := by decide +kernel
theorem dX5_which_23 : decode cX5_which 23 = .ok (.istore_n 3, 1) := by decide +kernel
theorem dX5_which_24 : decode cX5_which 24 = .ok (.iconst (-1), 1) := by decide +kernel
theorem dX5_which_25 : decode cX5_which 25 = .ok (.istore 4, 2) := by decide +kernel
theorem dX5_which_27 : decode cX5_which 27 = .ok (.sipush 255, 3) := by decide +kernel
theorem dX5_which_30 : decode cX5_which 30 = .ok (.istore 5, 2) := by decide +kernel
theorem dX5_which_32 : decode cX5_which 32 = .ok (.iload 5, 2) := by decide +kernel
theorem dX5_which_34 : decode cX5_which 34 = .ok (.ifCond .lt 48, 3) := by decide +kernel
theorem dX5_which_37 : decode cX5_which 37 = .ok (.aload_n 0, 1) := by decide +kernel
theorem dX5_which_38 : decode cX5_which 38 = .ok (.iload_n 1, 1) := by decide +kernel
theorem dX5_which_39 : decode cX5_which 39 = .ok (.iload 5, 2) := by decide +kernel
theorem dX5_which_41 : decode cX5_which 41 = .ok (.invokevirtual 216, 3) := by decide +kernel
theorem dX5_which_44 : decode cX5_which 44 = .ok (.istore 6, 2) := by decide +kernel
theorem dX5_which_46 : decode cX5_which 46 = .ok (.iload_n 3, 1) := by decide +kernel
theorem dX5_which_47 : decode cX5_which 47 = .ok (.iload 6, 2) := by decide +kernel
theorem dX5_which_49 : decode cX5_which 49 = .ok (.ifCond .eq 7, 3) := by decide +kernel
theorem dX5_which_52 : decode cX5_which 52 = .ok (.iconst 1, 1) := by decide +kernel
theorem dX5_which_53 : decode cX5_which 53 = .ok (.goto 4, 3) := by decide +kernel
theorem dX5_which_56 : decode cX5_which 56 = .ok (.iconst 0, 1) := by decide +kernel
theorem dX5_which_57 : decode cX5_which 57 = .ok (.iadd, 1) := by decide +kernel
theorem dX5_which_58 : decode cX5_which 58 = .ok (.istore_n 3, 1) := by decide +kernel
theorem dX5_which_59 : decode cX5_which 59 = .ok (.iload 6, 2) := by decide +kernel
theorem dX5_which_61 : decode cX5_which 61 = .ok (.ifCond .eq 11, 3) := by decide +kernel
theorem dX5_which_64 : decode cX5_which 64 = .ok (.iload 5, 2) := by decide +kernel
theorem dX5_which_66 : decode cX5_which 66 = .ok (.invokestatic 210, 3) := by decide +kernel
theorem dX5_which_69 : decode cX5_which 69 = .ok (.goto 5, 3) := by decide +kernel
theorem dX5_which_72 : decode cX5_which 72 = .ok (.iload 4, 2) := by decide +kernel
theorem dX5_which_74 : decode cX5_which 74 = .ok (.istore 4, 2) := by decide +kernel
theorem dX5_which_76 : decode cX5_which 76 = .ok (.iinc 5 (-1), 3) := by decide +kernel
theorem dX5_which_79 : decode cX5_which 79 = .ok (.goto (-47), 3) := by decide +kernel
theorem dX5_which_82 : decode cX5_which 82 = .ok (.iload_n 2, 1) := by decide +kernel
theorem dX5_which_83 : decode cX5_which 83 = .ok (.ifCond .ne 7, 3) := by decide +kernel
theorem dX5_which_86 : decode cX5_which 86 = .ok (.iload_n 3, 1) := by decide +kernel
theorem dX5_which_87 : decode cX5_which 87 = .ok (.goto 5, 3) := by decide +kernel
theorem dX5_which_90 : decode cX5_which 90 = .ok (.iload 4, 2) := by decide +kernel
theorem dX5_which_92 : decode cX5_which 92 = .ok (.ireturn, 1) := by decide +kernel
theorem dX5_look_0 : decode cX5_look 0 = .ok (.iload_n 1, 1) := by decide +kernel
theorem dX5_look_1 : decode cX5_look 1 = .ok (.invokestatic 62, 3) := by decide +kernel
theorem dX5_look_4 : decode cX5_look 4 = .ok (.ifCond .ne 8, 3) := by decide +kernel
theorem dX5_look_7 : decode cX5_look 7 = .ok (.aload_n 0, 1) := by decide +kernel
theorem dX5_look_8 : decode cX5_look 8 = .ok (.invokevirtual 110, 3) := by decide +kernel
theorem dX5_look_11 : decode cX5_look 11 = .ok (.ireturn, 1) := by decide +kernel
theorem dX5_look_12 : decode cX5_look 12 = .ok (.iconst 0, 1) := by decide +kernel
theorem dX5_look_13 : decode cX5_look 13 = .ok (.istore_n 2, 1) := by decide +kernel
theorem dX5_look_14 : decode cX5_look 14 = .ok (.iload_n 2, 1) := by decide +kernel
theorem dX5_look_15 : decode cX5_look 15 = .ok (.bipush 64, 2) := by decide +kernel
theorem dX5_look_17 : decode cX5_look 17 = .ok (.if_icmp .ge 16, 3) := by decide +kernel
theorem dX5_look_20 : decode cX5_look 20 = .ok (.aload_n 0, 1) := by decide +kernel
theorem dX5_look_21 : decode cX5_look 21 = .ok (.getfield 35, 3) := by decide +kernel
theorem dX5_look_24 : decode cX5_look 24 = .ok (.iload_n 2, 1) := by decide +kernel
theorem dX5_look_25 : decode cX5_look 25 = .ok (.iconst 0, 1) := by decide +kernel
theorem dX5_look_26 : decode cX5_look 26 = .ok (.iastore, 1) := by decide +kernel
theorem dX5_look_27 : decode cX5_look 27 = .ok (.iinc 2 1, 3) := by decide +kernel
theorem dX5_look_30 : decode cX5_look 30 = .ok (.goto (-16), 3) := by decide +kernel
theorem dX5_look_33 : decode cX5_look 33 = .ok (.iconst 0, 1) := by decide +kernel
theorem dX5_look_34 : decode cX5_look 34 = .ok (.istore_n 2, 1) := by decide +kernel
theorem dX5_look_35 : decode cX5_look 35 = .ok (.iconst 0, 1) := by decide +kernel
theorem dX5_look_36 : decode cX5_look 36 = .ok (.istore_n 3, 1) := by decide +kernel
theorem dX5_look_37 : decode cX5_look 37 = .ok (.iload_n 3, 1) := by decide +kernel
theorem dX5_look_38 : decode cX5_look 38 = .ok (.sipush 256, 3) := by decide +kernel
theorem dX5_look_41 : decode cX5_look 41 = .ok (.if_icmp .ge 84, 3) := by decide +kernel
theorem dX5_look_44 : decode cX5_look 44 = .ok (.aload_n 0, 1) := by decide +kernel
theorem dX5_look_45 : decode cX5_look 45 = .ok (.iload_n 1, 1) := by decide +kernel
theorem dX5_look_46 : decode cX5_look 46 = .ok (.iload_n 3, 1) := by decide +kernel
theorem dX5_look_47 : decode cX5_look 47 = .ok (.invokevirtual 216, 3) := by decide +kernel
theorem dX5_look_50 : decode cX5_look 50 = .ok (.ifCond .eq 69, 3) := by decide +kernel
theorem dX5_look_53 : decode cX5_look 53 = .ok (.aload_n 0, 1) := by decide +kernel
theorem dX5_look_54 : decode cX5_look 54 = .ok (.iload_n 1, 1) := by decide +kernel
theorem dX5_look_55 : decode cX5_look 55 = .ok (.iload_n 3, 1) := by decide +kernel
theorem dX5_look_56 : decode cX5_look 56 = .ok (.bipush 64, 2) := by decide +kernel
theorem dX5_look_58 : decode cX5_look 58 = .ok (.idiv, 1) := by decide +kernel
theorem dX5_look_59 : decode cX5_look 59 = .ok (.invokevirtual 90, 3) := by decide +kernel
theorem dX5_look_62 : decode cX5_look 62 = .ok (.istore 4, 2) := by decide +kernel
theorem dX5_look_64 : decode cX5_look 64 = .ok (.iinc 2 1, 3) := by decide +kernel
theorem dX5_look_67 : decode cX5_look 67 = .ok (.iconst 0, 1) := by decide +kernel
theorem dX5_look_68 : decode cX5_look 68 = .ok (.istore 5, 2) := by decide +kernel
theorem dX5_look_70 : decode cX5_look 70 = .ok (.iload 5, 2) := by decide +kernel
theorem dX5_look_72 : decode cX5_look 72 = .ok (.bipush 64, 2) := by decide +kernel
theorem dX5_look_74 : decode cX5_look 74 = .ok (.if_icmp .ge 45, 3) := by decide +kernel
theorem dX5_look_77 : decode cX5_look 77 = .ok (.aload_n 0, 1) := by decide +kernel
theorem dX5_look_78 : decode cX5_look 78 = .ok (.getfield 35, 3) := by decide +kernel
theorem dX5_look_81 : decode cX5_look 81 = .ok (.iload 5, 2) := by decide +kernel
theorem dX5_look_83 : decode cX5_look 83 = .ok (.dup2, 1) := by decide +kernel
theorem dX5_look_84 : decode cX5_look 84 = .ok (.iaload, 1) := by decide +kernel
theorem dX5_look_85 : decode cX5_look 85 = .ok (.iload 4, 2) := by decide +kernel
theorem dX5_look_87 : decode cX5_look 87 = .ok (.iload_n 3, 1) := by decide +kernel
theorem dX5_look_88 : decode cX5_look 88 = .ok (.bipush 8, 2) := by decide +kernel
theorem dX5_look_90 : decode cX5_look 90 = .ok (.irem, 1) := by decide +kernel
theorem dX5_look_91 : decode cX5_look 91 = .ok (.iload_n 3, 1) := by decide +kernel
theorem dX5_look_92 : decode cX5_look 92 = .ok (.bipush 8, 2) := by decide +kernel
theorem dX5_look_94 : decode cX5_look 94 = .ok (.idiv, 1) := by decide +kernel
theorem dX5_look_95 : decode cX5_look 95 = .ok (.bipush 8, 2) := by decide +kernel
theorem dX5_look_97 : decode cX5_look 97 = .ok (.irem, 1) := by decide +kernel
theorem dX5_look_98 : decode cX5_look 98 = .ok (.iload 5, 2) := by decide +kernel
theorem dX5_look_100 : decode cX5_look 100 = .ok (.invokestatic 200, 3) := by decide +kernel
theorem dX5_look_103 : decode cX5_look 103 = .ok (.ifCond .eq 7, 3) := by decide +kernel
theorem dX5_look_106 : decode cX5_look 106 = .ok (.iconst 1, 1) := by decide +kernel
theorem dX5_look_107 : decode cX5_look 107 = .ok (.goto 4, 3) := by decide +kernel
theorem dX5_look_110 : decode cX5_look 110 = .ok (.iconst 0, 1) := by decide +kernel
theorem dX5_look_111 : decode cX5_look 111 = .ok (.iadd, 1) := by decide +kernel
theorem dX5_look_112 : decode cX5_look 112 = .ok (.iastore, 1) := by decide +kernel
theorem dX5_look_113 : decode cX5_look 113 = .ok (.iinc 5 1, 3) := by decide +kernel
theorem dX5_look_116 : decode cX5_look 116 = .ok (.goto (-46), 3) := by decide +kernel
theorem dX5_look_119 : decode cX5_look 119 = .ok (.iinc 3 1, 3) := by decide +kernel
theorem dX5_look_122 : decode cX5_look 122 = .ok (.goto (-85), 3) := by decide +kernel
theorem dX5_look_125 : decode cX5_look 125 = .ok (.iconst (-1), 1) := by decide +kernel
theorem dX5_look_126 : decode cX5_look 126 = .ok (.istore_n 3, 1) := by decide +kernel
theorem dX5_look_127 : decode cX5_look 127 = .ok (.iload_n 2, 1) := by decide +kernel
theorem dX5_look_128 : decode cX5_look 128 = .ok (.istore 4, 2) := by decide +kernel
theorem dX5_look_130 : decode cX5_look 130 = .ok (.bipush 63, 2) := by decide +kernel
theorem dX5_look_132 : decode cX5_look 132 = .ok (.istore 5, 2) := by decide +kernel
theorem dX5_look_134 : decode cX5_look 134 = .ok (.iload 5, 2) := by decide +kernel
theorem dX5_look_136 : decode cX5_look 136 = .ok (.ifCond .lt 67, 3) := by decide +kernel
theorem dX5_look_139 : decode cX5_look 139 = .ok (.aload_n 0, 1) := by decide +kernel
theorem dX5_look_140 : decode cX5_look 140 = .ok (.getfield 35, 3) := by decide +kernel
theorem dX5_look_143 : decode cX5_look 143 = .ok (.iload 5, 2) := by decide +kernel
theorem dX5_look_145 : decode cX5_look 145 = .ok (.iaload, 1) := by decide +kernel
theorem dX5_look_146 : decode cX5_look 146 = .ok (.iload_n 2, 1) := by decide +kernel
theorem dX5_look_147 : decode cX5_look 147 = .ok (.aload_n 0, 1) := by decide +kernel
theorem dX5_look_148 : decode cX5_look 148 = .ok (.getfield 35, 3) := by decide +kernel
theorem dX5_look_151 : decode cX5_look 151 = .ok (.iload 5, 2) := by decide +kernel
theorem dX5_look_153 : decode cX5_look 153 = .ok (.iaload, 1) := by decide +kernel
theorem dX5_look_154 : decode cX5_look 154 = .ok (.isub, 1) := by decide +kernel
theorem dX5_look_155 : decode cX5_look 155 = .ok (.if_icmp .le 13, 3) := by decide +kernel
theorem dX5_look_158 : decode cX5_look 158 = .ok (.aload_n 0, 1) := by decide +kernel
theorem dX5_look_159 : decode cX5_look 159 = .ok (.getfield 35, 3) := by decide +kernel
theorem dX5_look_162 : decode cX5_look 162 = .ok (.iload 5, 2) := by decide +kernel
theorem dX5_look_164 : decode cX5_look 164 = .ok (.iaload, 1) := by decide +kernel
theorem dX5_look_165 : decode cX5_look 165 = .ok (.goto 12, 3) := by decide +kernel
theorem dX5_look_168 : decode cX5_look 168 = .ok (.iload_n 2, 1) := by decide +kernel
theorem dX5_look_169 : decode cX5_look 169 = .ok (.aload_n 0, 1) := by decide +kernel
theorem dX5_look_170 : decode cX5_look 170 = .ok (.getfield 35, 3) := by decide +kernel
theorem dX5_look_173 : decode cX5_look 173 = .ok (.iload 5, 2) := by decide +kernel
theorem dX5_look_175 : decode cX5_look 175 = .ok (.iaload, 1) := by decide +kernel
theorem dX5_look_176 : decode cX5_look 176 = .ok (.isub, 1) := by decide +kernel
theorem dX5_look_177 : decode cX5_look 177 = .ok (.istore 6, 2) := by decide +kernel
theorem dX5_look_179 : decode cX5_look 179 = .ok (.iload 6, 2) := by decide +kernel
theorem dX5_look_181 : decode cX5_look 181 = .ok (.iload 4, 2) := by decide +kernel
theorem dX5_look_183 : decode cX5_look 183 = .ok (.if_icmp .gt 14, 3) := by decide +kernel
theorem dX5_look_186 : decode cX5_look 186 = .ok (.iload_n 2, 1) := by decide +kernel
theorem dX5_look_187 : decode cX5_look 187 = .ok (.ifCond .le 10, 3) := by decide +kernel
theorem dX5_look_190 : decode cX5_look 190 = .ok (.iload 5, 2) := by decide +kernel
theorem dX5_look_192 : decode cX5_look 192 = .ok (.istore_n 3, 1) := by decide +kernel
theorem dX5_look_193 : decode cX5_look 193 = .ok (.iload 6, 2) := by decide +kernel
theorem dX5_look_195 : decode cX5_look 195 = .ok (.istore 4, 2) := by decide +kernel
theorem dX5_look_197 : decode cX5_look 197 = .ok (.iinc 5 (-1), 3) := by decide +kernel
theorem dX5_look_200 : decode cX5_look 200 = .ok (.goto (-66), 3) := by decide +kernel
theorem dX5_look_203 : decode cX5_look 203 = .ok (.iload_n 3, 1) := by decide +kernel
theorem dX5_look_204 : decode cX5_look 204 = .ok (.ireturn, 1) := by decide +kernel
theorem dX5_bitten_0 : decode cX5_bitten 0 = .ok (.iload_n 1, 1) := by decide +kernel
theorem dX5_bitten_1 : decode cX5_bitten 1 = .ok (.invokestatic 62, 3) := by decide +kernel
theorem dX5_bitten_4 : decode cX5_bitten 4 = .ok (.ifCond .eq 32, 3) := by decide +kernel
theorem dX5_bitten_7 : decode cX5_bitten 7 = .ok (.iload_n 2, 1) := by decide +kernel
theorem dX5_bitten_8 : decode cX5_bitten 8 = .ok (.iload_n 3, 1) := by decide +kernel
theorem dX5_bitten_9 : decode cX5_bitten 9 = .ok (.invokestatic 66, 3) := by decide +kernel
theorem dX5_bitten_12 : decode cX5_bitten 12 = .ok (.ifCond .eq 24, 3) := by decide +kernel
theorem dX5_bitten_15 : decode cX5_bitten 15 = .ok (.iload 4, 2) := by decide +kernel
theorem dX5_bitten_17 : decode cX5_bitten 17 = .ok (.i2l, 1) := by decide +kernel
theorem dX5_bitten_18 : decode cX5_bitten 18 = .ok (.lconst 0, 1) := by decide +kernel
theorem dX5_bitten_19 : decode cX5_bitten 19 = .ok (.ldc2_w 70, 3) := by decide +kernel
theorem dX5_bitten_22 : decode cX5_bitten 22 = .ok (.invokestatic 54, 3) := by decide +kernel
theorem dX5_bitten_25 : decode cX5_bitten 25 = .ok (.ifCond .eq 11, 3) := by decide +kernel
theorem dX5_bitten_28 : decode cX5_bitten 28 = .ok (.iload 5, 2) := by decide +kernel
theorem dX5_bitten_30 : decode cX5_bitten 30 = .ok (.invokestatic 62, 3) := by decide +kernel
theorem dX5_bitten_33 : decode cX5_bitten 33 = .ok (.ifCond .ne 8, 3) := by decide +kernel
theorem dX5_bitten_36 : decode cX5_bitten 36 = .ok (.aload_n 0, 1) := by decide +kernel
theorem dX5_bitten_37 : decode cX5_bitten 37 = .ok (.invokevirtual 110, 3) := by decide +kernel
theorem dX5_bitten_40 : decode cX5_bitten 40 = .ok (.ireturn, 1) := by decide +kernel
theorem dX5_bitten_41 : decode cX5_bitten 41 = .ok (.aload_n 0, 1) := by decide +kernel
theorem dX5_bitten_42 : decode cX5_bitten 42 = .ok (.iload_n 1, 1) := by decide +kernel
theorem dX5_bitten_43 : decode cX5_bitten 43 = .ok (.iload 4, 2) := by decide +kernel
theorem dX5_bitten_45 : decode cX5_bitten 45 = .ok (.invokevirtual 90, 3) := by decide +kernel
theorem dX5_bitten_48 : decode cX5_bitten 48 = .ok (.istore 6, 2) := by decide +kernel
theorem dX5_bitten_50 : decode cX5_bitten 50 = .ok (.iconst 0, 1) := by decide +kernel
theorem dX5_bitten_51 : decode cX5_bitten 51 = .ok (.istore 7, 2) := by decide +kernel
theorem dX5_bitten_53 : decode cX5_bitten 53 = .ok (.iconst 1, 1) := by decide +kernel
theorem dX5_bitten_54 : decode cX5_bitten 54 = .ok (.istore 8, 2) := by decide +kernel
theorem dX5_bitten_56 : decode cX5_bitten 56 = .ok (.iconst 0, 1) := by decide +kernel
theorem dX5_bitten_57 : decode cX5_bitten 57 = .ok (.istore 9, 2) := by decide +kernel
theorem dX5_bitten_59 : decode cX5_bitten 59 = .ok (.iload 9, 2) := by decide +kernel
theorem dX5_bitten_61 : decode cX5_bitten 61 = .ok (.aload_n 0, 1) := by decide +kernel
theorem dX5_bitten_62 : decode cX5_bitten 62 = .ok (.getfield 7, 3) := by decide +kernel
theorem dX5_bitten_65 : decode cX5_bitten 65 = .ok (.bipush 76, 2) := by decide +kernel
theorem dX5_bitten_67 : decode cX5_bitten 67 = .ok (.iaload, 1) := by decide +kernel
theorem dX5_bitten_68 : decode cX5_bitten 68 = .ok (.if_icmp .ge 99, 3) := by decide +kernel
theorem dX5_bitten_71 : decode cX5_bitten 71 = .ok (.aload_n 0, 1) := by decide +kernel
theorem dX5_bitten_72 : decode cX5_bitten 72 = .ok (.getfield 7, 3) := by decide +kernel
theorem dX5_bitten_75 : decode cX5_bitten 75 = .ok (.bipush 77, 2) := by decide +kernel
theorem dX5_bitten_77 : decode cX5_bitten 77 = .ok (.iload 9, 2) := by decide +kernel
theorem dX5_bitten_79 : decode cX5_bitten 79 = .ok (.iadd, 1) := by decide +kernel
theorem dX5_bitten_80 : decode cX5_bitten 80 = .ok (.iaload, 1) := by decide +kernel
theorem dX5_bitten_81 : decode cX5_bitten 81 = .ok (.iconst 2, 1) := by decide +kernel
theorem dX5_bitten_82 : decode cX5_bitten 82 = .ok (.idiv, 1) := by decide +kernel
theorem dX5_bitten_83 : decode cX5_bitten 83 = .ok (.istore 10, 2) := by decide +kernel
theorem dX5_bitten_85 : decode cX5_bitten 85 = .ok (.iload 6, 2) := by decide +kernel
theorem dX5_bitten_87 : decode cX5_bitten 87 = .ok (.iload_n 2, 1) := by decide +kernel
theorem dX5_bitten_88 : decode cX5_bitten 88 = .ok (.iload_n 3, 1) := by decide +kernel
theorem dX5_bitten_89 : decode cX5_bitten 89 = .ok (.iload 10, 2) := by decide +kernel
theorem dX5_bitten_91 : decode cX5_bitten 91 = .ok (.invokestatic 200, 3) := by decide +kernel
theorem dX5_bitten_94 : decode cX5_bitten 94 = .ok (.istore 11, 2) := by decide +kernel
theorem dX5_bitten_96 : decode cX5_bitten 96 = .ok (.aload_n 0, 1) := by decide +kernel
theorem dX5_bitten_97 : decode cX5_bitten 97 = .ok (.getfield 7, 3) := by decide +kernel
theorem dX5_bitten_100 : decode cX5_bitten 100 = .ok (.bipush 77, 2) := by decide +kernel
theorem dX5_bitten_102 : decode cX5_bitten 102 = .ok (.iload 9, 2) := by decide +kernel
theorem dX5_bitten_104 : decode cX5_bitten 104 = .ok (.iadd, 1) := by decide +kernel
theorem dX5_bitten_105 : decode cX5_bitten 105 = .ok (.iaload, 1) := by decide +kernel
theorem dX5_bitten_106 : decode cX5_bitten 106 = .ok (.iconst 2, 1) := by decide +kernel
theorem dX5_bitten_107 : decode cX5_bitten 107 = .ok (.irem, 1) := by decide +kernel
theorem dX5_bitten_108 : decode cX5_bitten 108 = .ok (.iconst 1, 1) := by decide +kernel
theorem dX5_bitten_109 : decode cX5_bitten 109 = .ok (.if_icmp .ne 23, 3) := by decide +kernel
theorem dX5_bitten_112 : decode cX5_bitten 112 = .ok (.iload 8, 2) := by decide +kernel
theorem dX5_bitten_114 : decode cX5_bitten 114 = .ok (.ifCond .eq 12, 3) := by decide +kernel
theorem dX5_bitten_117 : decode cX5_bitten 117 = .ok (.iload 11, 2) := by decide +kernel
theorem dX5_bitten_119 : decode cX5_bitten 119 = .ok (.ifCond .eq 7, 3) := by decide +kernel
theorem dX5_bitten_122 : decode cX5_bitten 122 = .ok (.iconst 1, 1) := by decide +kernel
theorem dX5_bitten_123 : decode cX5_bitten 123 = .ok (.goto 4, 3) := by decide +kernel
theorem dX5_bitten_126 : decode cX5_bitten 126 = .ok (.iconst 0, 1) := by decide +kernel
theorem dX5_bitten_127 : decode cX5_bitten 127 = .ok (.istore 8, 2) := by decide +kernel
theorem dX5_bitten_129 : decode cX5_bitten 129 = .ok (.goto 32, 3) := by decide +kernel
theorem dX5_bitten_132 : decode cX5_bitten 132 = .ok (.iload 11, 2) := by decide +kernel
theorem dX5_bitten_134 : decode cX5_bitten 134 = .ok (.ifCond .eq 27, 3) := by decide +kernel
theorem dX5_bitten_137 : decode cX5_bitten 137 = .ok (.iload 7, 2) := by decide +kernel
theorem dX5_bitten_139 : decode cX5_bitten 139 = .ok (.iconst 1, 1) := by decide +kernel
theorem dX5_bitten_140 : decode cX5_bitten 140 = .ok (.iconst 4, 1) := by decide +kernel
theorem dX5_bitten_141 : decode cX5_bitten 141 = .ok (.iload 10, 2) := by decide +kernel
theorem dX5_bitten_143 : decode cX5_bitten 143 = .ok (.bipush 8, 2) := by decide +kernel
theorem dX5_bitten_145 : decode cX5_bitten 145 = .ok (.idiv, 1) := by decide +kernel
theorem dX5_bitten_146 : decode cX5_bitten 146 = .ok (.iload_n 3, 1) := by decide +kernel
theorem dX5_bitten_147 : decode cX5_bitten 147 = .ok (.isub, 1) := by decide +kernel
theorem dX5_bitten_148 : decode cX5_bitten 148 = .ok (.imul, 1) := by decide +kernel
theorem dX5_bitten_149 : decode cX5_bitten 149 = .ok (.iload 10, 2) := by decide +kernel
theorem dX5_bitten_151 : decode cX5_bitten 151 = .ok (.bipush 8, 2) := by decide +kernel
theorem dX5_bitten_153 : decode cX5_bitten 153 = .ok (.irem, 1) := by decide +kernel
theorem dX5_bitten_154 : decode cX5_bitten 154 = .ok (.iadd, 1) := by decide +kernel
theorem dX5_bitten_155 : decode cX5_bitten 155 = .ok (.iload_n 2, 1) := by decide +kernel
theorem dX5_bitten_156 : decode cX5_bitten 156 = .ok (.isub, 1) := by decide +kernel
theorem dX5_bitten_157 : decode cX5_bitten 157 = .ok (.ishl, 1) := by decide +kernel
theorem dX5_bitten_158 : decode cX5_bitten 158 = .ok (.ior, 1) := by decide +kernel
theorem dX5_bitten_159 : decode cX5_bitten 159 = .ok (.istore 7, 2) := by decide +kernel
theorem dX5_bitten_161 : decode cX5_bitten 161 = .ok (.iinc 9 1, 3) := by decide +kernel
theorem dX5_bitten_164 : decode cX5_bitten 164 = .ok (.goto (-105), 3) := by decide +kernel
theorem dX5_bitten_167 : decode cX5_bitten 167 = .ok (.iload 5, 2) := by decide +kernel
theorem dX5_bitten_169 : decode cX5_bitten 169 = .ok (.iconst 1, 1) := by decide +kernel
theorem dX5_bitten_170 : decode cX5_bitten 170 = .ok (.if_icmp .ne 14, 3) := by decide +kernel
theorem dX5_bitten_173 : decode cX5_bitten 173 = .ok (.iload 8, 2) := by decide +kernel
theorem dX5_bitten_175 : decode cX5_bitten 175 = .ok (.ifCond .eq 7, 3) := by decide +kernel
theorem dX5_bitten_178 : decode cX5_bitten 178 = .ok (.iconst 1, 1) := by decide +kernel
theorem dX5_bitten_179 : decode cX5_bitten 179 = .ok (.goto 4, 3) := by decide +kernel
theorem dX5_bitten_182 : decode cX5_bitten 182 = .ok (.iconst 0, 1) := by decide +kernel
theorem dX5_bitten_183 : decode cX5_bitten 183 = .ok (.ireturn, 1) := by decide +kernel
theorem dX5_bitten_184 : decode cX5_bitten 184 = .ok (.iconst 0, 1) := by decide +kernel
theorem dX5_bitten_185 : decode cX5_bitten 185 = .ok (.istore 9, 2) := by decide +kernel
theorem dX5_bitten_187 : decode cX5_bitten 187 = .ok (.iconst 0, 1) := by decide +kernel
theorem dX5_bitten_188 : decode cX5_bitten 188 = .ok (.istore 10, 2) := by decide +kernel
theorem dX5_bitten_190 : decode cX5_bitten 190 = .ok (.iload 10, 2) := by decide +kernel
theorem dX5_bitten_192 : decode cX5_bitten 192 = .ok (.bipush 16, 2) := by decide +kernel
theorem dX5_bitten_194 : decode cX5_bitten 194 = .ok (.if_icmp .ge 37, 3) := by decide +kernel
theorem dX5_bitten_197 : decode cX5_bitten 197 = .ok (.iload 9, 2) := by decide +kernel
theorem dX5_bitten_199 : decode cX5_bitten 199 = .ok (.iload 7, 2) := by decide +kernel
theorem dX5_bitten_201 : decode cX5_bitten 201 = .ok (.iload 10, 2) := by decide +kernel
theorem dX5_bitten_203 : decode cX5_bitten 203 = .ok (.iload 4, 2) := by decide +kernel
theorem dX5_bitten_205 : decode cX5_bitten 205 = .ok (.invokestatic 75, 3) := by decide +kernel
theorem dX5_bitten_208 : decode cX5_bitten 208 = .ok (.invokestatic 72, 3) := by decide +kernel
theorem dX5_bitten_211 : decode cX5_bitten 211 = .ok (.ifCond .eq 10, 3) := by decide +kernel
theorem dX5_bitten_214 : decode cX5_bitten 214 = .ok (.iconst 1, 1) := by decide +kernel
theorem dX5_bitten_215 : decode cX5_bitten 215 = .ok (.iload 10, 2) := by decide +kernel
theorem dX5_bitten_217 : decode cX5_bitten 217 = .ok (.ishl, 1) := by decide +kernel
theorem dX5_bitten_218 : decode cX5_bitten 218 = .ok (.goto 4, 3) := by decide +kernel
theorem dX5_bitten_221 : decode cX5_bitten 221 = .ok (.iconst 0, 1) := by decide +kernel
theorem dX5_bitten_222 : decode cX5_bitten 222 = .ok (.ior, 1) := by decide +kernel
theorem dX5_bitten_223 : decode cX5_bitten 223 = .ok (.istore 9, 2) := by decide +kernel
theorem dX5_bitten_225 : decode cX5_bitten 225 = .ok (.iinc 10 1, 3) := by decide +kernel
theorem dX5_bitten_228 : decode cX5_bitten 228 = .ok (.goto (-38), 3) := by decide +kernel
theorem dX5_bitten_231 : decode cX5_bitten 231 = .ok (.iload 9, 2) := by decide +kernel
theorem dX5_bitten_233 : decode cX5_bitten 233 = .ok (.ireturn, 1) := by decide +kernel
theorem dX5_setFraction_0 : decode cX5_setFraction 0 = .ok (.lload_n 1, 1) := by decide +kernel
theorem dX5_setFraction_1 : decode cX5_setFraction 1 = .ok (.lstore 5, 2) := by decide +kernel
theorem dX5_setFraction_3 : decode cX5_setFraction 3 = .ok (.lload_n 3, 1) := by decide +kernel
theorem dX5_setFraction_4 : decode cX5_setFraction 4 = .ok (.lstore 7, 2) := by decide +kernel
theorem dX5_setFraction_6 : decode cX5_setFraction 6 = .ok (.lload 7, 2) := by decide +kernel
theorem dX5_setFraction_8 : decode cX5_setFraction 8 = .ok (.lconst 0, 1) := by decide +kernel
theorem dX5_setFraction_9 : decode cX5_setFraction 9 = .ok (.lcmp, 1) := by decide +kernel
theorem dX5_setFraction_10 : decode cX5_setFraction 10 = .ok (.ifCond .eq 21, 3) := by decide +kernel
theorem dX5_setFraction_13 : decode cX5_setFraction 13 = .ok (.lload 5, 2) := by decide +kernel
theorem dX5_setFraction_15 : decode cX5_setFraction 15 = .ok (.lload 7, 2) := by decide +kernel
theorem dX5_setFraction_17 : decode cX5_setFraction 17 = .ok (.lrem, 1) := by decide +kernel
theorem dX5_setFraction_18 : decode cX5_setFraction 18 = .ok (.lstore 9, 2) := by decide +kernel
theorem dX5_setFraction_20 : decode cX5_setFraction 20 = .ok (.lload 7, 2) := by decide +kernel
theorem dX5_setFraction_22 : decode cX5_setFraction 22 = .ok (.lstore 5, 2) := by decide +kernel
theorem dX5_setFraction_24 : decode cX5_setFraction 24 = .ok (.lload 9, 2) := by decide +kernel
theorem dX5_setFraction_26 : decode cX5_setFraction 26 = .ok (.lstore 7, 2) := by decide +kernel
theorem dX5_setFraction_28 : decode cX5_setFraction 28 = .ok (.goto (-22), 3) := by decide +kernel
theorem dX5_setFraction_31 : decode cX5_setFraction 31 = .ok (.aload_n 0, 1) := by decide +kernel
theorem dX5_setFraction_32 : decode cX5_setFraction 32 = .ok (.lload_n 1, 1) := by decide +kernel
theorem dX5_setFraction_33 : decode cX5_setFraction 33 = .ok (.lload 5, 2) := by decide +kernel
theorem dX5_setFraction_35 : decode cX5_setFraction 35 = .ok (.ldiv, 1) := by decide +kernel
theorem dX5_setFraction_36 : decode cX5_setFraction 36 = .ok (.putfield 219, 3) := by decide +kernel
theorem dX5_setFraction_39 : decode cX5_setFraction 39 = .ok (.aload_n 0, 1) := by decide +kernel
theorem dX5_setFraction_40 : decode cX5_setFraction 40 = .ok (.lload_n 3, 1) := by decide +kernel
theorem dX5_setFraction_41 : decode cX5_setFraction 41 = .ok (.lload 5, 2) := by decide +kernel
theorem dX5_setFraction_43 : decode cX5_setFraction 43 = .ok (.ldiv, 1) := by decide +kernel
theorem dX5_setFraction_44 : decode cX5_setFraction 44 = .ok (.putfield 13, 3) := by decide +kernel
theorem dX5_setFraction_47 : decode cX5_setFraction 47 = .ok (.return_, 1) := by decide +kernel
theorem dX5_slips_0 : decode cX5_slips 0 = .ok (.iload_n 1, 1) := by decide +kernel
theorem dX5_slips_1 : decode cX5_slips 1 = .ok (.iload_n 2, 1) := by decide +kernel
theorem dX5_slips_2 : decode cX5_slips 2 = .ok (.iload_n 3, 1) := by decide +kernel
theorem dX5_slips_3 : decode cX5_slips 3 = .ok (.iload 4, 2) := by decide +kernel
theorem dX5_slips_5 : decode cX5_slips 5 = .ok (.iconst 0, 1) := by decide +kernel
theorem dX5_slips_6 : decode cX5_slips 6 = .ok (.invokestatic 125, 3) := by decide +kernel
theorem dX5_slips_9 : decode cX5_slips 9 = .ok (.ifCond .eq 42, 3) := by decide +kernel
theorem dX5_slips_12 : decode cX5_slips 12 = .ok (.iload 5, 2) := by decide +kernel
theorem dX5_slips_14 : decode cX5_slips 14 = .ok (.i2l, 1) := by decide +kernel
theorem dX5_slips_15 : decode cX5_slips 15 = .ok (.lconst 0, 1) := by decide +kernel
theorem dX5_slips_16 : decode cX5_slips 16 = .ok (.ldc2_w 60, 3) := by decide +kernel
theorem dX5_slips_19 : decode cX5_slips 19 = .ok (.invokestatic 54, 3) := by decide +kernel
theorem dX5_slips_22 : decode cX5_slips 22 = .ok (.ifCond .eq 29, 3) := by decide +kernel
theorem dX5_slips_25 : decode cX5_slips 25 = .ok (.iload 6, 2) := by decide +kernel
theorem dX5_slips_27 : decode cX5_slips 27 = .ok (.i2l, 1) := by decide +kernel
theorem dX5_slips_28 : decode cX5_slips 28 = .ok (.lconst 0, 1) := by decide +kernel
theorem dX5_slips_29 : decode cX5_slips 29 = .ok (.ldc2_w 222, 3) := by decide +kernel
theorem dX5_slips_32 : decode cX5_slips 32 = .ok (.invokestatic 54, 3) := by decide +kernel
theorem dX5_slips_35 : decode cX5_slips 35 = .ok (.ifCond .eq 16, 3) := by decide +kernel
theorem dX5_slips_38 : decode cX5_slips 38 = .ok (.iload 7, 2) := by decide +kernel
theorem dX5_slips_40 : decode cX5_slips 40 = .ok (.i2l, 1) := by decide +kernel
theorem dX5_slips_41 : decode cX5_slips 41 = .ok (.lconst 0, 1) := by decide +kernel
theorem dX5_slips_42 : decode cX5_slips 42 = .ok (.ldc2_w 224, 3) := by decide +kernel
theorem dX5_slips_45 : decode cX5_slips 45 = .ok (.invokestatic 54, 3) := by decide +kernel
theorem dX5_slips_48 : decode cX5_slips 48 = .ok (.ifCond .ne 8, 3) := by decide +kernel
theorem dX5_slips_51 : decode cX5_slips 51 = .ok (.aload_n 0, 1) := by decide +kernel
theorem dX5_slips_52 : decode cX5_slips 52 = .ok (.invokevirtual 110, 3) := by decide +kernel
theorem dX5_slips_55 : decode cX5_slips 55 = .ok (.ireturn, 1) := by decide +kernel
theorem dX5_slips_56 : decode cX5_slips 56 = .ok (.aload_n 0, 1) := by decide +kernel
theorem dX5_slips_57 : decode cX5_slips 57 = .ok (.iload_n 2, 1) := by decide +kernel
theorem dX5_slips_58 : decode cX5_slips 58 = .ok (.iconst 0, 1) := by decide +kernel
theorem dX5_slips_59 : decode cX5_slips 59 = .ok (.invokevirtual 90, 3) := by decide +kernel
theorem dX5_slips_62 : decode cX5_slips 62 = .ok (.istore 8, 2) := by decide +kernel
theorem dX5_slips_64 : decode cX5_slips 64 = .ok (.lconst 1, 1) := by decide +kernel
theorem dX5_slips_65 : decode cX5_slips 65 = .ok (.lstore 9, 2) := by decide +kernel
theorem dX5_slips_67 : decode cX5_slips 67 = .ok (.lconst 1, 1) := by decide +kernel
theorem dX5_slips_68 : decode cX5_slips 68 = .ok (.lstore 11, 2) := by decide +kernel
theorem dX5_slips_70 : decode cX5_slips 70 = .ok (.aload_n 0, 1) := by decide +kernel
theorem dX5_slips_71 : decode cX5_slips 71 = .ok (.getfield 7, 3) := by decide +kernel
theorem dX5_slips_74 : decode cX5_slips 74 = .ok (.bipush 64, 2) := by decide +kernel
theorem dX5_slips_76 : decode cX5_slips 76 = .ok (.iaload, 1) := by decide +kernel
theorem dX5_slips_77 : decode cX5_slips 77 = .ok (.istore 13, 2) := by decide +kernel
theorem dX5_slips_79 : decode cX5_slips 79 = .ok (.iconst 0, 1) := by decide +kernel
theorem dX5_slips_80 : decode cX5_slips 80 = .ok (.istore 14, 2) := by decide +kernel
theorem dX5_slips_82 : decode cX5_slips 82 = .ok (.iload 14, 2) := by decide +kernel
theorem dX5_slips_84 : decode cX5_slips 84 = .ok (.iload 5, 2) := by decide +kernel
theorem dX5_slips_86 : decode cX5_slips 86 = .ok (.if_icmp .ge 106, 3) := by decide +kernel
theorem dX5_slips_89 : decode cX5_slips 89 = .ok (.aload_n 0, 1) := by decide +kernel
theorem dX5_slips_90 : decode cX5_slips 90 = .ok (.iload_n 1, 1) := by decide +kernel
theorem dX5_slips_91 : decode cX5_slips 91 = .ok (.iload 8, 2) := by decide +kernel
theorem dX5_slips_93 : decode cX5_slips 93 = .ok (.iload_n 3, 1) := by decide +kernel
theorem dX5_slips_94 : decode cX5_slips 94 = .ok (.iload 4, 2) := by decide +kernel
theorem dX5_slips_96 : decode cX5_slips 96 = .ok (.iload 13, 2) := by decide +kernel
theorem dX5_slips_98 : decode cX5_slips 98 = .ok (.invokevirtual 93, 3) := by decide +kernel
theorem dX5_slips_101 : decode cX5_slips 101 = .ok (.aload_n 0, 1) := by decide +kernel
theorem dX5_slips_102 : decode cX5_slips 102 = .ok (.getfield 20, 3) := by decide +kernel
theorem dX5_slips_105 : decode cX5_slips 105 = .ok (.iload 7, 2) := by decide +kernel
theorem dX5_slips_107 : decode cX5_slips 107 = .ok (.iaload, 1) := by decide +kernel
theorem dX5_slips_108 : decode cX5_slips 108 = .ok (.ifCond .le 7, 3) := by decide +kernel
theorem dX5_slips_111 : decode cX5_slips 111 = .ok (.lconst 0, 1) := by decide +kernel
theorem dX5_slips_112 : decode cX5_slips 112 = .ok (.goto 10, 3) := by decide +kernel
theorem dX5_slips_115 : decode cX5_slips 115 = .ok (.ldc2_w 222, 3) := by decide +kernel
theorem dX5_slips_118 : decode cX5_slips 118 = .ok (.iload 6, 2) := by decide +kernel
theorem dX5_slips_120 : decode cX5_slips 120 = .ok (.i2l, 1) := by decide +kernel
theorem dX5_slips_121 : decode cX5_slips 121 = .ok (.lsub, 1) := by decide +kernel
theorem dX5_slips_122 : decode cX5_slips 122 = .ok (.lstore 15, 2) := by decide +kernel
theorem dX5_slips_124 : decode cX5_slips 124 = .ok (.aload_n 0, 1) := by decide +kernel
theorem dX5_slips_125 : decode cX5_slips 125 = .ok (.iload_n 1, 1) := by decide +kernel
theorem dX5_slips_126 : decode cX5_slips 126 = .ok (.iload 8, 2) := by decide +kernel
theorem dX5_slips_128 : decode cX5_slips 128 = .ok (.iload_n 3, 1) := by decide +kernel
theorem dX5_slips_129 : decode cX5_slips 129 = .ok (.iconst 1, 1) := by decide +kernel
theorem dX5_slips_130 : decode cX5_slips 130 = .ok (.iadd, 1) := by decide +kernel
theorem dX5_slips_131 : decode cX5_slips 131 = .ok (.iload 4, 2) := by decide +kernel
theorem dX5_slips_133 : decode cX5_slips 133 = .ok (.iload 13, 2) := by decide +kernel
theorem dX5_slips_135 : decode cX5_slips 135 = .ok (.invokevirtual 93, 3) := by decide +kernel
theorem dX5_slips_138 : decode cX5_slips 138 = .ok (.lload 15, 2) := by decide +kernel
theorem dX5_slips_140 : decode cX5_slips 140 = .ok (.aload_n 0, 1) := by decide +kernel
theorem dX5_slips_141 : decode cX5_slips 141 = .ok (.getfield 20, 3) := by decide +kernel
theorem dX5_slips_144 : decode cX5_slips 144 = .ok (.iload 7, 2) := by decide +kernel
theorem dX5_slips_146 : decode cX5_slips 146 = .ok (.iaload, 1) := by decide +kernel
theorem dX5_slips_147 : decode cX5_slips 147 = .ok (.ifCond .le 7, 3) := by decide +kernel
theorem dX5_slips_150 : decode cX5_slips 150 = .ok (.lconst 0, 1) := by decide +kernel
theorem dX5_slips_151 : decode cX5_slips 151 = .ok (.goto 6, 3) := by decide +kernel
theorem dX5_slips_154 : decode cX5_slips 154 = .ok (.iload 6, 2) := by decide +kernel
theorem dX5_slips_156 : decode cX5_slips 156 = .ok (.i2l, 1) := by decide +kernel
theorem dX5_slips_157 : decode cX5_slips 157 = .ok (.ladd, 1) := by decide +kernel
theorem dX5_slips_158 : decode cX5_slips 158 = .ok (.lstore 15, 2) := by decide +kernel
theorem dX5_slips_160 : decode cX5_slips 160 = .ok (.lload 9, 2) := by decide +kernel
theorem dX5_slips_162 : decode cX5_slips 162 = .ok (.lload 15, 2) := by decide +kernel
theorem dX5_slips_164 : decode cX5_slips 164 = .ok (.lmul, 1) := by decide +kernel
theorem dX5_slips_165 : decode cX5_slips 165 = .ok (.lstore 9, 2) := by decide +kernel
theorem dX5_slips_167 : decode cX5_slips 167 = .ok (.lload 11, 2) := by decide +kernel
theorem dX5_slips_169 : decode cX5_slips 169 = .ok (.ldc2_w 222, 3) := by decide +kernel
theorem dX5_slips_172 : decode cX5_slips 172 = .ok (.lmul, 1) := by decide +kernel
theorem dX5_slips_173 : decode cX5_slips 173 = .ok (.lstore 11, 2) := by decide +kernel
theorem dX5_slips_175 : decode cX5_slips 175 = .ok (.iload 13, 2) := by decide +kernel
theorem dX5_slips_177 : decode cX5_slips 177 = .ok (.iload_n 1, 1) := by decide +kernel
theorem dX5_slips_178 : decode cX5_slips 178 = .ok (.iload 13, 2) := by decide +kernel
theorem dX5_slips_180 : decode cX5_slips 180 = .ok (.invokestatic 101, 3) := by decide +kernel
theorem dX5_slips_183 : decode cX5_slips 183 = .ok (.isub, 1) := by decide +kernel
theorem dX5_slips_184 : decode cX5_slips 184 = .ok (.istore 13, 2) := by decide +kernel
theorem dX5_slips_186 : decode cX5_slips 186 = .ok (.iinc 14 1, 3) := by decide +kernel
theorem dX5_slips_189 : decode cX5_slips 189 = .ok (.goto (-107), 3) := by decide +kernel
theorem dX5_slips_192 : decode cX5_slips 192 = .ok (.aload_n 0, 1) := by decide +kernel
theorem dX5_slips_193 : decode cX5_slips 193 = .ok (.lload 11, 2) := by decide +kernel
theorem dX5_slips_195 : decode cX5_slips 195 = .ok (.lload 9, 2) := by decide +kernel
theorem dX5_slips_197 : decode cX5_slips 197 = .ok (.lsub, 1) := by decide +kernel
theorem dX5_slips_198 : decode cX5_slips 198 = .ok (.lload 11, 2) := by decide +kernel
theorem dX5_slips_200 : decode cX5_slips 200 = .ok (.invokevirtual 226, 3) := by decide +kernel
theorem dX5_slips_203 : decode cX5_slips 203 = .ok (.iconst 1, 1) := by decide +kernel
theorem dX5_slips_204 : decode cX5_slips 204 = .ok (.ireturn, 1) := by decide +kernel
theorem dX5_draw_0 : decode cX5_draw 0 = .ok (.aload_n 0, 1) := by decide +kernel
theorem dX5_draw_1 : decode cX5_draw 1 = .ok (.aload_n 0, 1) := by decide +kernel
theorem dX5_draw_2 : decode cX5_draw 2 = .ok (.getfield 230, 3) := by decide +kernel
theorem dX5_draw_5 : decode cX5_draw 5 = .ok (.ldc2_w 233, 3) := by decide +kernel
theorem dX5_draw_8 : decode cX5_draw 8 = .ok (.lmul, 1) := by decide +kernel
theorem dX5_draw_9 : decode cX5_draw 9 = .ok (.ldc2_w 235, 3) := by decide +kernel
theorem dX5_draw_12 : decode cX5_draw 12 = .ok (.ladd, 1) := by decide +kernel
theorem dX5_draw_13 : decode cX5_draw 13 = .ok (.ldc2_w 237, 3) := by decide +kernel
theorem dX5_draw_16 : decode cX5_draw 16 = .ok (.lrem, 1) := by decide +kernel
theorem dX5_draw_17 : decode cX5_draw 17 = .ok (.putfield 230, 3) := by decide +kernel
theorem dX5_draw_20 : decode cX5_draw 20 = .ok (.aload_n 0, 1) := by decide +kernel
theorem dX5_draw_21 : decode cX5_draw 21 = .ok (.getfield 230, 3) := by decide +kernel
theorem dX5_draw_24 : decode cX5_draw 24 = .ok (.ldc2_w 239, 3) := by decide +kernel
theorem dX5_draw_27 : decode cX5_draw 27 = .ok (.ldiv, 1) := by decide +kernel
theorem dX5_draw_28 : decode cX5_draw 28 = .ok (.iload_n 1, 1) := by decide +kernel
theorem dX5_draw_29 : decode cX5_draw 29 = .ok (.i2l, 1) := by decide +kernel
theorem dX5_draw_30 : decode cX5_draw 30 = .ok (.lrem, 1) := by decide +kernel
theorem dX5_draw_31 : decode cX5_draw 31 = .ok (.l2i, 1) := by decide +kernel
theorem dX5_draw_32 : decode cX5_draw 32 = .ok (.ireturn, 1) := by decide +kernel
theorem dX5_sheets_0 : decode cX5_sheets 0 = .ok (.iload_n 1, 1) := by decide +kernel
theorem dX5_sheets_1 : decode cX5_sheets 1 = .ok (.i2l, 1) := by decide +kernel
theorem dX5_sheets_2 : decode cX5_sheets 2 = .ok (.lconst 0, 1) := by decide +kernel
theorem dX5_sheets_3 : decode cX5_sheets 3 = .ok (.ldc2_w 241, 3) := by decide +kernel
theorem dX5_sheets_6 : decode cX5_sheets 6 = .ok (.invokestatic 54, 3) := by decide +kernel
theorem dX5_sheets_9 : decode cX5_sheets 9 = .ok (.ifCond .eq 15, 3) := by decide +kernel
theorem dX5_sheets_12 : decode cX5_sheets 12 = .ok (.iload_n 2, 1) := by decide +kernel
theorem dX5_sheets_13 : decode cX5_sheets 13 = .ok (.i2l, 1) := by decide +kernel
theorem dX5_sheets_14 : decode cX5_sheets 14 = .ok (.lconst 0, 1) := by decide +kernel
theorem dX5_sheets_15 : decode cX5_sheets 15 = .ok (.ldc2_w 243, 3) := by decide +kernel
theorem dX5_sheets_18 : decode cX5_sheets 18 = .ok (.invokestatic 54, 3) := by decide +kernel
theorem dX5_sheets_21 : decode cX5_sheets 21 = .ok (.ifCond .ne 8, 3) := by decide +kernel
theorem dX5_sheets_24 : decode cX5_sheets 24 = .ok (.aload_n 0, 1) := by decide +kernel
theorem dX5_sheets_25 : decode cX5_sheets 25 = .ok (.invokevirtual 110, 3) := by decide +kernel
theorem dX5_sheets_28 : decode cX5_sheets 28 = .ok (.ireturn, 1) := by decide +kernel
theorem dX5_sheets_29 : decode cX5_sheets 29 = .ok (.iconst 0, 1) := by decide +kernel
theorem dX5_sheets_30 : decode cX5_sheets 30 = .ok (.istore_n 3, 1) := by decide +kernel
theorem dX5_sheets_31 : decode cX5_sheets 31 = .ok (.iload_n 3, 1) := by decide +kernel
theorem dX5_sheets_32 : decode cX5_sheets 32 = .ok (.bipush 99, 2) := by decide +kernel
theorem dX5_sheets_34 : decode cX5_sheets 34 = .ok (.if_icmp .ge 21, 3) := by decide +kernel
theorem dX5_sheets_37 : decode cX5_sheets 37 = .ok (.aload_n 0, 1) := by decide +kernel
theorem dX5_sheets_38 : decode cX5_sheets 38 = .ok (.getfield 38, 3) := by decide +kernel
theorem dX5_sheets_41 : decode cX5_sheets 41 = .ok (.iload_n 3, 1) := by decide +kernel
theorem dX5_sheets_42 : decode cX5_sheets 42 = .ok (.aload_n 0, 1) := by decide +kernel
theorem dX5_sheets_43 : decode cX5_sheets 43 = .ok (.getfield 7, 3) := by decide +kernel
theorem dX5_sheets_46 : decode cX5_sheets 46 = .ok (.iload_n 3, 1) := by decide +kernel
theorem dX5_sheets_47 : decode cX5_sheets 47 = .ok (.iaload, 1) := by decide +kernel
theorem dX5_sheets_48 : decode cX5_sheets 48 = .ok (.iastore, 1) := by decide +kernel
theorem dX5_sheets_49 : decode cX5_sheets 49 = .ok (.iinc 3 1, 3) := by decide +kernel
theorem dX5_sheets_52 : decode cX5_sheets 52 = .ok (.goto (-21), 3) := by decide +kernel
theorem dX5_sheets_55 : decode cX5_sheets 55 = .ok (.aload_n 0, 1) := by decide +kernel
theorem dX5_sheets_56 : decode cX5_sheets 56 = .ok (.iload_n 1, 1) := by decide +kernel
theorem dX5_sheets_57 : decode cX5_sheets 57 = .ok (.i2l, 1) := by decide +kernel
theorem dX5_sheets_58 : decode cX5_sheets 58 = .ok (.putfield 230, 3) := by decide +kernel
theorem dX5_sheets_61 : decode cX5_sheets 61 = .ok (.iconst 0, 1) := by decide +kernel
theorem dX5_sheets_62 : decode cX5_sheets 62 = .ok (.istore_n 3, 1) := by decide +kernel
theorem dX5_sheets_63 : decode cX5_sheets 63 = .ok (.iload_n 3, 1) := by decide +kernel
theorem dX5_sheets_64 : decode cX5_sheets 64 = .ok (.iload_n 2, 1) := by decide +kernel
theorem dX5_sheets_65 : decode cX5_sheets 65 = .ok (.if_icmp .ge 89, 3) := by decide +kernel
theorem dX5_sheets_68 : decode cX5_sheets 68 = .ok (.aload_n 0, 1) := by decide +kernel
theorem dX5_sheets_69 : decode cX5_sheets 69 = .ok (.bipush 6, 2) := by decide +kernel
theorem dX5_sheets_71 : decode cX5_sheets 71 = .ok (.invokevirtual 245, 3) := by decide +kernel
theorem dX5_sheets_74 : decode cX5_sheets 74 = .ok (.istore 4, 2) := by decide +kernel
theorem dX5_sheets_76 : decode cX5_sheets 76 = .ok (.aload_n 0, 1) := by decide +kernel
theorem dX5_sheets_77 : decode cX5_sheets 77 = .ok (.iconst 2, 1) := by decide +kernel
theorem dX5_sheets_78 : decode cX5_sheets 78 = .ok (.invokevirtual 245, 3) := by decide +kernel
theorem dX5_sheets_81 : decode cX5_sheets 81 = .ok (.istore 5, 2) := by decide +kernel
theorem dX5_sheets_83 : decode cX5_sheets 83 = .ok (.aload_n 0, 1) := by decide +kernel
theorem dX5_sheets_84 : decode cX5_sheets 84 = .ok (.bipush 64, 2) := by decide +kernel
theorem dX5_sheets_86 : decode cX5_sheets 86 = .ok (.invokevirtual 245, 3) := by decide +kernel
theorem dX5_sheets_89 : decode cX5_sheets 89 = .ok (.istore 6, 2) := by decide +kernel
theorem dX5_sheets_91 : decode cX5_sheets 91 = .ok (.aload_n 0, 1) := by decide +kernel
theorem dX5_sheets_92 : decode cX5_sheets 92 = .ok (.iconst 4, 1) := by decide +kernel
theorem dX5_sheets_93 : decode cX5_sheets 93 = .ok (.invokevirtual 245, 3) := by decide +kernel
theorem dX5_sheets_96 : decode cX5_sheets 96 = .ok (.istore 7, 2) := by decide +kernel
theorem dX5_sheets_98 : decode cX5_sheets 98 = .ok (.aload_n 0, 1) := by decide +kernel
theorem dX5_sheets_99 : decode cX5_sheets 99 = .ok (.getfield 7, 3) := by decide +kernel
theorem dX5_sheets_102 : decode cX5_sheets 102 = .ok (.bipush 64, 2) := by decide +kernel
theorem dX5_sheets_104 : decode cX5_sheets 104 = .ok (.aload_n 0, 1) := by decide +kernel
theorem dX5_sheets_105 : decode cX5_sheets 105 = .ok (.getfield 7, 3) := by decide +kernel
theorem dX5_sheets_108 : decode cX5_sheets 108 = .ok (.bipush 64, 2) := by decide +kernel
theorem dX5_sheets_110 : decode cX5_sheets 110 = .ok (.iaload, 1) := by decide +kernel
theorem dX5_sheets_111 : decode cX5_sheets 111 = .ok (.ifCond .ne 8, 3) := by decide +kernel
theorem dX5_sheets_114 : decode cX5_sheets 114 = .ok (.bipush 12, 2) := by decide +kernel
theorem dX5_sheets_116 : decode cX5_sheets 116 = .ok (.goto 10, 3) := by decide +kernel
theorem dX5_sheets_119 : decode cX5_sheets 119 = .ok (.aload_n 0, 1) := by decide +kernel
theorem dX5_sheets_120 : decode cX5_sheets 120 = .ok (.getfield 7, 3) := by decide +kernel
theorem dX5_sheets_123 : decode cX5_sheets 123 = .ok (.bipush 64, 2) := by decide +kernel
theorem dX5_sheets_125 : decode cX5_sheets 125 = .ok (.iaload, 1) := by decide +kernel
theorem dX5_sheets_126 : decode cX5_sheets 126 = .ok (.iastore, 1) := by decide +kernel
theorem dX5_sheets_127 : decode cX5_sheets 127 = .ok (.aload_n 0, 1) := by decide +kernel
theorem dX5_sheets_128 : decode cX5_sheets 128 = .ok (.iload 4, 2) := by decide +kernel
theorem dX5_sheets_130 : decode cX5_sheets 130 = .ok (.iload 5, 2) := by decide +kernel
theorem dX5_sheets_132 : decode cX5_sheets 132 = .ok (.iload 6, 2) := by decide +kernel
theorem dX5_sheets_134 : decode cX5_sheets 134 = .ok (.bipush 8, 2) := by decide +kernel
theorem dX5_sheets_136 : decode cX5_sheets 136 = .ok (.irem, 1) := by decide +kernel
theorem dX5_sheets_137 : decode cX5_sheets 137 = .ok (.iload 6, 2) := by decide +kernel
theorem dX5_sheets_139 : decode cX5_sheets 139 = .ok (.bipush 8, 2) := by decide +kernel
theorem dX5_sheets_141 : decode cX5_sheets 141 = .ok (.idiv, 1) := by decide +kernel
theorem dX5_sheets_142 : decode cX5_sheets 142 = .ok (.iload 7, 2) := by decide +kernel
theorem dX5_sheets_144 : decode cX5_sheets 144 = .ok (.invokevirtual 132, 3) := by decide +kernel
theorem dX5_sheets_147 : decode cX5_sheets 147 = .ok (.pop, 1) := by decide +kernel
theorem dX5_sheets_148 : decode cX5_sheets 148 = .ok (.iinc 3 1, 3) := by decide +kernel
theorem dX5_sheets_151 : decode cX5_sheets 151 = .ok (.goto (-88), 3) := by decide +kernel
theorem dX5_sheets_154 : decode cX5_sheets 154 = .ok (.iconst 0, 1) := by decide +kernel
theorem dX5_sheets_155 : decode cX5_sheets 155 = .ok (.istore_n 3, 1) := by decide +kernel
theorem dX5_sheets_156 : decode cX5_sheets 156 = .ok (.iconst 0, 1) := by decide +kernel
theorem dX5_sheets_157 : decode cX5_sheets 157 = .ok (.istore 4, 2) := by decide +kernel
theorem dX5_sheets_159 : decode cX5_sheets 159 = .ok (.iload 4, 2) := by decide +kernel
theorem dX5_sheets_161 : decode cX5_sheets 161 = .ok (.bipush 64, 2) := by decide +kernel
theorem dX5_sheets_163 : decode cX5_sheets 163 = .ok (.if_icmp .ge 21, 3) := by decide +kernel
theorem dX5_sheets_166 : decode cX5_sheets 166 = .ok (.iload_n 3, 1) := by decide +kernel
theorem dX5_sheets_167 : decode cX5_sheets 167 = .ok (.aload_n 0, 1) := by decide +kernel
theorem dX5_sheets_168 : decode cX5_sheets 168 = .ok (.getfield 7, 3) := by decide +kernel
theorem dX5_sheets_171 : decode cX5_sheets 171 = .ok (.iconst 0, 1) := by decide +kernel
theorem dX5_sheets_172 : decode cX5_sheets 172 = .ok (.iload 4, 2) := by decide +kernel
theorem dX5_sheets_174 : decode cX5_sheets 174 = .ok (.iadd, 1) := by decide +kernel
theorem dX5_sheets_175 : decode cX5_sheets 175 = .ok (.iaload, 1) := by decide +kernel
theorem dX5_sheets_176 : decode cX5_sheets 176 = .ok (.iadd, 1) := by decide +kernel
theorem dX5_sheets_177 : decode cX5_sheets 177 = .ok (.istore_n 3, 1) := by decide +kernel
theorem dX5_sheets_178 : decode cX5_sheets 178 = .ok (.iinc 4 1, 3) := by decide +kernel
theorem dX5_sheets_181 : decode cX5_sheets 181 = .ok (.goto (-22), 3) := by decide +kernel
theorem dX5_sheets_184 : decode cX5_sheets 184 = .ok (.iconst 0, 1) := by decide +kernel
theorem dX5_sheets_185 : decode cX5_sheets 185 = .ok (.istore 4, 2) := by decide +kernel
theorem dX5_sheets_187 : decode cX5_sheets 187 = .ok (.iload 4, 2) := by decide +kernel
theorem dX5_sheets_189 : decode cX5_sheets 189 = .ok (.bipush 99, 2) := by decide +kernel
theorem dX5_sheets_191 : decode cX5_sheets 191 = .ok (.if_icmp .ge 23, 3) := by decide +kernel
theorem dX5_sheets_194 : decode cX5_sheets 194 = .ok (.aload_n 0, 1) := by decide +kernel
theorem dX5_sheets_195 : decode cX5_sheets 195 = .ok (.getfield 7, 3) := by decide +kernel
theorem dX5_sheets_198 : decode cX5_sheets 198 = .ok (.iload 4, 2) := by decide +kernel
theorem dX5_sheets_200 : decode cX5_sheets 200 = .ok (.aload_n 0, 1) := by decide +kernel
theorem dX5_sheets_201 : decode cX5_sheets 201 = .ok (.getfield 38, 3) := by decide +kernel
theorem dX5_sheets_204 : decode cX5_sheets 204 = .ok (.iload 4, 2) := by decide +kernel
theorem dX5_sheets_206 : decode cX5_sheets 206 = .ok (.iaload, 1) := by decide +kernel
theorem dX5_sheets_207 : decode cX5_sheets 207 = .ok (.iastore, 1) := by decide +kernel
theorem dX5_sheets_208 : decode cX5_sheets 208 = .ok (.iinc 4 1, 3) := by decide +kernel
theorem dX5_sheets_211 : decode cX5_sheets 211 = .ok (.goto (-24), 3) := by decide +kernel
theorem dX5_sheets_214 : decode cX5_sheets 214 = .ok (.iload_n 3, 1) := by decide +kernel
theorem dX5_sheets_215 : decode cX5_sheets 215 = .ok (.ireturn, 1) := by decide +kernel
theorem dX5_part_0 : decode cX5_part 0 = .ok (.iload_n 1, 1) := by decide +kernel
theorem dX5_part_1 : decode cX5_part 1 = .ok (.ifCond .ne 10, 3) := by decide +kernel
theorem dX5_part_4 : decode cX5_part 4 = .ok (.aload_n 0, 1) := by decide +kernel
theorem dX5_part_5 : decode cX5_part 5 = .ok (.getfield 219, 3) := by decide +kernel
theorem dX5_part_8 : decode cX5_part 8 = .ok (.goto 20, 3) := by decide +kernel
theorem dX5_part_11 : decode cX5_part 11 = .ok (.iload_n 1, 1) := by decide +kernel
theorem dX5_part_12 : decode cX5_part 12 = .ok (.iconst 1, 1) := by decide +kernel
theorem dX5_part_13 : decode cX5_part 13 = .ok (.if_icmp .ne 10, 3) := by decide +kernel
theorem dX5_part_16 : decode cX5_part 16 = .ok (.aload_n 0, 1) := by decide +kernel
theorem dX5_part_17 : decode cX5_part 17 = .ok (.getfield 13, 3) := by decide +kernel
theorem dX5_part_20 : decode cX5_part 20 = .ok (.goto 8, 3) := by decide +kernel
theorem dX5_part_23 : decode cX5_part 23 = .ok (.aload_n 0, 1) := by decide +kernel
theorem dX5_part_24 : decode cX5_part 24 = .ok (.invokevirtual 110, 3) := by decide +kernel
theorem dX5_part_27 : decode cX5_part 27 = .ok (.i2l, 1) := by decide +kernel
theorem dX5_part_28 : decode cX5_part 28 = .ok (.lreturn, 1) := by decide +kernel
theorem dX5_image_0 : decode cX5_image 0 = .ok (.iload_n 1, 1) := by decide +kernel
theorem dX5_image_1 : decode cX5_image 1 = .ok (.invokestatic 62, 3) := by decide +kernel
theorem dX5_image_4 : decode cX5_image 4 = .ok (.ifCond .ne 8, 3) := by decide +kernel
theorem dX5_image_7 : decode cX5_image 7 = .ok (.aload_n 0, 1) := by decide +kernel
theorem dX5_image_8 : decode cX5_image 8 = .ok (.invokevirtual 110, 3) := by decide +kernel
theorem dX5_image_11 : decode cX5_image 11 = .ok (.ireturn, 1) := by decide +kernel
theorem dX5_image_12 : decode cX5_image 12 = .ok (.iconst 0, 1) := by decide +kernel
theorem dX5_image_13 : decode cX5_image 13 = .ok (.istore_n 2, 1) := by decide +kernel
theorem dX5_image_14 : decode cX5_image 14 = .ok (.iload_n 2, 1) := by decide +kernel
theorem dX5_image_15 : decode cX5_image 15 = .ok (.bipush 99, 2) := by decide +kernel
theorem dX5_image_17 : decode cX5_image 17 = .ok (.if_icmp .ge 26, 3) := by decide +kernel
theorem dX5_image_20 : decode cX5_image 20 = .ok (.aload_n 0, 1) := by decide +kernel
theorem dX5_image_21 : decode cX5_image 21 = .ok (.getfield 45, 3) := by decide +kernel
theorem dX5_image_24 : decode cX5_image 24 = .ok (.bipush 99, 2) := by decide +kernel
theorem dX5_image_26 : decode cX5_image 26 = .ok (.iload_n 1, 1) := by decide +kernel
theorem dX5_image_27 : decode cX5_image 27 = .ok (.imul, 1) := by decide +kernel
theorem dX5_image_28 : decode cX5_image 28 = .ok (.iload_n 2, 1) := by decide +kernel
theorem dX5_image_29 : decode cX5_image 29 = .ok (.iadd, 1) := by decide +kernel
theorem dX5_image_30 : decode cX5_image 30 = .ok (.aload_n 0, 1) := by decide +kernel
theorem dX5_image_31 : decode cX5_image 31 = .ok (.getfield 7, 3) := by decide +kernel
theorem dX5_image_34 : decode cX5_image 34 = .ok (.iload_n 2, 1) := by decide +kernel
theorem dX5_image_35 : decode cX5_image 35 = .ok (.iaload, 1) := by decide +kernel
theorem dX5_image_36 : decode cX5_image 36 = .ok (.iastore, 1) := by decide +kernel
theorem dX5_image_37 : decode cX5_image 37 = .ok (.iinc 2 1, 3) := by decide +kernel
theorem dX5_image_40 : decode cX5_image 40 = .ok (.goto (-26), 3) := by decide +kernel
theorem dX5_image_43 : decode cX5_image 43 = .ok (.iconst 0, 1) := by decide +kernel
theorem dX5_image_44 : decode cX5_image 44 = .ok (.istore_n 2, 1) := by decide +kernel
theorem dX5_image_45 : decode cX5_image 45 = .ok (.iload_n 2, 1) := by decide +kernel
theorem dX5_image_46 : decode cX5_image 46 = .ok (.sipush 520, 3) := by decide +kernel
theorem dX5_image_49 : decode cX5_image 49 = .ok (.if_icmp .ge 27, 3) := by decide +kernel
theorem dX5_image_52 : decode cX5_image 52 = .ok (.aload_n 0, 1) := by decide +kernel
theorem dX5_image_53 : decode cX5_image 53 = .ok (.getfield 48, 3) := by decide +kernel
theorem dX5_image_56 : decode cX5_image 56 = .ok (.sipush 520, 3) := by decide +kernel
theorem dX5_image_59 : decode cX5_image 59 = .ok (.iload_n 1, 1) := by decide +kernel
theorem dX5_image_60 : decode cX5_image 60 = .ok (.imul, 1) := by decide +kernel
theorem dX5_image_61 : decode cX5_image 61 = .ok (.iload_n 2, 1) := by decide +kernel
theorem dX5_image_62 : decode cX5_image 62 = .ok (.iadd, 1) := by decide +kernel
theorem dX5_image_63 : decode cX5_image 63 = .ok (.aload_n 0, 1) := by decide +kernel
theorem dX5_image_64 : decode cX5_image 64 = .ok (.getfield 23, 3) := by decide +kernel
theorem dX5_image_67 : decode cX5_image 67 = .ok (.iload_n 2, 1) := by decide +kernel
theorem dX5_image_68 : decode cX5_image 68 = .ok (.iaload, 1) := by decide +kernel
theorem dX5_image_69 : decode cX5_image 69 = .ok (.iastore, 1) := by decide +kernel
theorem dX5_image_70 : decode cX5_image 70 = .ok (.iinc 2 1, 3) := by decide +kernel
theorem dX5_image_73 : decode cX5_image 73 = .ok (.goto (-28), 3) := by decide +kernel
theorem dX5_image_76 : decode cX5_image 76 = .ok (.aload_n 0, 1) := by decide +kernel
theorem dX5_image_77 : decode cX5_image 77 = .ok (.getfield 51, 3) := by decide +kernel
theorem dX5_image_80 : decode cX5_image 80 = .ok (.iload_n 1, 1) := by decide +kernel
theorem dX5_image_81 : decode cX5_image 81 = .ok (.aload_n 0, 1) := by decide +kernel
theorem dX5_image_82 : decode cX5_image 82 = .ok (.getfield 104, 3) := by decide +kernel
theorem dX5_image_85 : decode cX5_image 85 = .ok (.iastore, 1) := by decide +kernel
theorem dX5_image_86 : decode cX5_image 86 = .ok (.aload_n 0, 1) := by decide +kernel
theorem dX5_image_87 : decode cX5_image 87 = .ok (.getfield 41, 3) := by decide +kernel
theorem dX5_image_90 : decode cX5_image 90 = .ok (.iload_n 1, 1) := by decide +kernel
theorem dX5_image_91 : decode cX5_image 91 = .ok (.iconst 1, 1) := by decide +kernel
theorem dX5_image_92 : decode cX5_image 92 = .ok (.bastore, 1) := by decide +kernel
theorem dX5_image_93 : decode cX5_image 93 = .ok (.iconst 1, 1) := by decide +kernel
theorem dX5_image_94 : decode cX5_image 94 = .ok (.ireturn, 1) := by decide +kernel
theorem dX5_from_0 : decode cX5_from 0 = .ok (.iload_n 1, 1) := by decide +kernel
theorem dX5_from_1 : decode cX5_from 1 = .ok (.invokestatic 62, 3) := by decide +kernel
theorem dX5_from_4 : decode cX5_from 4 = .ok (.ifCond .ne 8, 3) := by decide +kernel
theorem dX5_from_7 : decode cX5_from 7 = .ok (.aload_n 0, 1) := by decide +kernel
theorem dX5_from_8 : decode cX5_from 8 = .ok (.invokevirtual 110, 3) := by decide +kernel
theorem dX5_from_11 : decode cX5_from 11 = .ok (.ireturn, 1) := by decide +kernel
theorem dX5_from_12 : decode cX5_from 12 = .ok (.aload_n 0, 1) := by decide +kernel
theorem dX5_from_13 : decode cX5_from 13 = .ok (.getfield 41, 3) := by decide +kernel
theorem dX5_from_16 : decode cX5_from 16 = .ok (.iload_n 1, 1) := by decide +kernel
theorem dX5_from_17 : decode cX5_from 17 = .ok (.baload, 1) := by decide +kernel
theorem dX5_from_18 : decode cX5_from 18 = .ok (.ifCond .ne 8, 3) := by decide +kernel
theorem dX5_from_21 : decode cX5_from 21 = .ok (.aload_n 0, 1) := by decide +kernel
theorem dX5_from_22 : decode cX5_from 22 = .ok (.invokevirtual 129, 3) := by decide +kernel
theorem dX5_from_25 : decode cX5_from 25 = .ok (.ireturn, 1) := by decide +kernel
theorem dX5_from_26 : decode cX5_from 26 = .ok (.iconst 0, 1) := by decide +kernel
theorem dX5_from_27 : decode cX5_from 27 = .ok (.istore_n 2, 1) := by decide +kernel
theorem dX5_from_28 : decode cX5_from 28 = .ok (.iload_n 2, 1) := by decide +kernel
theorem dX5_from_29 : decode cX5_from 29 = .ok (.bipush 99, 2) := by decide +kernel
theorem dX5_from_31 : decode cX5_from 31 = .ok (.if_icmp .ge 26, 3) := by decide +kernel
theorem dX5_from_34 : decode cX5_from 34 = .ok (.aload_n 0, 1) := by decide +kernel
theorem dX5_from_35 : decode cX5_from 35 = .ok (.getfield 7, 3) := by decide +kernel
theorem dX5_from_38 : decode cX5_from 38 = .ok (.iload_n 2, 1) := by decide +kernel
theorem dX5_from_39 : decode cX5_from 39 = .ok (.aload_n 0, 1) := by decide +kernel
theorem dX5_from_40 : decode cX5_from 40 = .ok (.getfield 45, 3) := by decide +kernel
theorem dX5_from_43 : decode cX5_from 43 = .ok (.bipush 99, 2) := by decide +kernel
theorem dX5_from_45 : decode cX5_from 45 = .ok (.iload_n 1, 1) := by decide +kernel
theorem dX5_from_46 : decode cX5_from 46 = .ok (.imul, 1) := by decide +kernel
theorem dX5_from_47 : decode cX5_from 47 = .ok (.iload_n 2, 1) := by decide +kernel
theorem dX5_from_48 : decode cX5_from 48 = .ok (.iadd, 1) := by decide +kernel
theorem dX5_from_49 : decode cX5_from 49 = .ok (.iaload, 1) := by decide +kernel
theorem dX5_from_50 : decode cX5_from 50 = .ok (.iastore, 1) := by decide +kernel
theorem dX5_from_51 : decode cX5_from 51 = .ok (.iinc 2 1, 3) := by decide +kernel
theorem dX5_from_54 : decode cX5_from 54 = .ok (.goto (-26), 3) := by decide +kernel
theorem dX5_from_57 : decode cX5_from 57 = .ok (.iconst 0, 1) := by decide +kernel
theorem dX5_from_58 : decode cX5_from 58 = .ok (.istore_n 2, 1) := by decide +kernel
theorem dX5_from_59 : decode cX5_from 59 = .ok (.iload_n 2, 1) := by decide +kernel
theorem dX5_from_60 : decode cX5_from 60 = .ok (.sipush 520, 3) := by decide +kernel
theorem dX5_from_63 : decode cX5_from 63 = .ok (.if_icmp .ge 27, 3) := by decide +kernel
theorem dX5_from_66 : decode cX5_from 66 = .ok (.aload_n 0, 1) := by decide +kernel
theorem dX5_from_67 : decode cX5_from 67 = .ok (.getfield 23, 3) := by decide +kernel
theorem dX5_from_70 : decode cX5_from 70 = .ok (.iload_n 2, 1) := by decide +kernel
theorem dX5_from_71 : decode cX5_from 71 = .ok (.aload_n 0, 1) := by decide +kernel
theorem dX5_from_72 : decode cX5_from 72 = .ok (.getfield 48, 3) := by decide +kernel
theorem dX5_from_75 : decode cX5_from 75 = .ok (.sipush 520, 3) := by decide +kernel
theorem dX5_from_78 : decode cX5_from 78 = .ok (.iload_n 1, 1) := by decide +kernel
theorem dX5_from_79 : decode cX5_from 79 = .ok (.imul, 1) := by decide +kernel
theorem dX5_from_80 : decode cX5_from 80 = .ok (.iload_n 2, 1) := by decide +kernel
theorem dX5_from_81 : decode cX5_from 81 = .ok (.iadd, 1) := by decide +kernel
theorem dX5_from_82 : decode cX5_from 82 = .ok (.iaload, 1) := by decide +kernel
theorem dX5_from_83 : decode cX5_from 83 = .ok (.iastore, 1) := by decide +kernel
theorem dX5_from_84 : decode cX5_from 84 = .ok (.iinc 2 1, 3) := by decide +kernel
theorem dX5_from_87 : decode cX5_from 87 = .ok (.goto (-28), 3) := by decide +kernel
theorem dX5_from_90 : decode cX5_from 90 = .ok (.aload_n 0, 1) := by decide +kernel
theorem dX5_from_91 : decode cX5_from 91 = .ok (.aload_n 0, 1) := by decide +kernel
theorem dX5_from_92 : decode cX5_from 92 = .ok (.getfield 51, 3) := by decide +kernel
theorem dX5_from_95 : decode cX5_from 95 = .ok (.iload_n 1, 1) := by decide +kernel
theorem dX5_from_96 : decode cX5_from 96 = .ok (.iaload, 1) := by decide +kernel
theorem dX5_from_97 : decode cX5_from 97 = .ok (.putfield 104, 3) := by decide +kernel
theorem dX5_from_100 : decode cX5_from 100 = .ok (.iconst 1, 1) := by decide +kernel
theorem dX5_from_101 : decode cX5_from 101 = .ok (.ireturn, 1) := by decide +kernel
theorem dX5_status_0 : decode cX5_status 0 = .ok (.iload_n 1, 1) := by decide +kernel
theorem dX5_status_1 : decode cX5_status 1 = .ok (.i2l, 1) := by decide +kernel
theorem dX5_status_2 : decode cX5_status 2 = .ok (.lconst 0, 1) := by decide +kernel
theorem dX5_status_3 : decode cX5_status 3 = .ok (.ldc2_w 248, 3) := by decide +kernel
theorem dX5_status_6 : decode cX5_status 6 = .ok (.invokestatic 54, 3) := by decide +kernel
theorem dX5_status_9 : decode cX5_status 9 = .ok (.ifCond .ne 10, 3) := by decide +kernel
theorem dX5_status_12 : decode cX5_status 12 = .ok (.aload_n 0, 1) := by decide +kernel
theorem dX5_status_13 : decode cX5_status 13 = .ok (.invokevirtual 110, 3) := by decide +kernel
theorem dX5_status_16 : decode cX5_status 16 = .ok (.pop, 1) := by decide +kernel
theorem dX5_status_17 : decode cX5_status 17 = .ok (.iconst (-1), 1) := by decide +kernel
theorem dX5_status_18 : decode cX5_status 18 = .ok (.ireturn, 1) := by decide +kernel
theorem dX5_status_19 : decode cX5_status 19 = .ok (.aload_n 0, 1) := by decide +kernel
theorem dX5_status_20 : decode cX5_status 20 = .ok (.getfield 17, 3) := by decide +kernel
theorem dX5_status_23 : decode cX5_status 23 = .ok (.iload_n 1, 1) := by decide +kernel
theorem dX5_status_24 : decode cX5_status 24 = .ok (.iaload, 1) := by decide +kernel
theorem dX5_status_25 : decode cX5_status 25 = .ok (.ireturn, 1) := by decide +kernel
theorem dX5_countOf_0 : decode cX5_countOf 0 = .ok (.iload_n 1, 1) := by decide +kernel
theorem dX5_countOf_1 : decode cX5_countOf 1 = .ok (.ifCond .ne 10, 3) := by decide +kernel
theorem dX5_countOf_4 : decode cX5_countOf 4 = .ok (.aload_n 0, 1) := by decide +kernel
theorem dX5_countOf_5 : decode cX5_countOf 5 = .ok (.invokevirtual 113, 3) := by decide +kernel
theorem dX5_countOf_8 : decode cX5_countOf 8 = .ok (.goto 64, 3) := by decide +kernel
theorem dX5_countOf_11 : decode cX5_countOf 11 = .ok (.iload_n 1, 1) := by decide +kernel
theorem dX5_countOf_12 : decode cX5_countOf 12 = .ok (.iconst 1, 1) := by decide +kernel
theorem dX5_countOf_13 : decode cX5_countOf 13 = .ok (.if_icmp .ne 13, 3) := by decide +kernel
theorem dX5_countOf_16 : decode cX5_countOf 16 = .ok (.aload_n 0, 1) := by decide +kernel
theorem dX5_countOf_17 : decode cX5_countOf 17 = .ok (.getfield 7, 3) := by decide +kernel
theorem dX5_countOf_20 : decode cX5_countOf 20 = .ok (.bipush 64, 2) := by decide +kernel
theorem dX5_countOf_22 : decode cX5_countOf 22 = .ok (.iaload, 1) := by decide +kernel
theorem dX5_countOf_23 : decode cX5_countOf 23 = .ok (.goto 49, 3) := by decide +kernel
theorem dX5_countOf_26 : decode cX5_countOf 26 = .ok (.iload_n 1, 1) := by decide +kernel
theorem dX5_countOf_27 : decode cX5_countOf 27 = .ok (.iconst 2, 1) := by decide +kernel
theorem dX5_countOf_28 : decode cX5_countOf 28 = .ok (.if_icmp .ne 13, 3) := by decide +kernel
theorem dX5_countOf_31 : decode cX5_countOf 31 = .ok (.aload_n 0, 1) := by decide +kernel
theorem dX5_countOf_32 : decode cX5_countOf 32 = .ok (.getfield 7, 3) := by decide +kernel
theorem dX5_countOf_35 : decode cX5_countOf 35 = .ok (.bipush 67, 2) := by decide +kernel
theorem dX5_countOf_37 : decode cX5_countOf 37 = .ok (.iaload, 1) := by decide +kernel
theorem dX5_countOf_38 : decode cX5_countOf 38 = .ok (.goto 34, 3) := by decide +kernel
theorem dX5_countOf_41 : decode cX5_countOf 41 = .ok (.iload_n 1, 1) := by decide +kernel
theorem dX5_countOf_42 : decode cX5_countOf 42 = .ok (.iconst 3, 1) := by decide +kernel
theorem dX5_countOf_43 : decode cX5_countOf 43 = .ok (.if_icmp .ne 13, 3) := by decide +kernel
theorem dX5_countOf_46 : decode cX5_countOf 46 = .ok (.aload_n 0, 1) := by decide +kernel
theorem dX5_countOf_47 : decode cX5_countOf 47 = .ok (.getfield 7, 3) := by decide +kernel
theorem dX5_countOf_50 : decode cX5_countOf 50 = .ok (.bipush 76, 2) := by decide +kernel
theorem dX5_countOf_52 : decode cX5_countOf 52 = .ok (.iaload, 1) := by decide +kernel
theorem dX5_countOf_53 : decode cX5_countOf 53 = .ok (.goto 19, 3) := by decide +kernel
theorem dX5_countOf_56 : decode cX5_countOf 56 = .ok (.iload_n 1, 1) := by decide +kernel
theorem dX5_countOf_57 : decode cX5_countOf 57 = .ok (.iconst 4, 1) := by decide +kernel
theorem dX5_countOf_58 : decode cX5_countOf 58 = .ok (.if_icmp .ne 10, 3) := by decide +kernel
theorem dX5_countOf_61 : decode cX5_countOf 61 = .ok (.aload_n 0, 1) := by decide +kernel
theorem dX5_countOf_62 : decode cX5_countOf 62 = .ok (.getfield 104, 3) := by decide +kernel
theorem dX5_countOf_65 : decode cX5_countOf 65 = .ok (.goto 7, 3) := by decide +kernel
theorem dX5_countOf_68 : decode cX5_countOf 68 = .ok (.aload_n 0, 1) := by decide +kernel
theorem dX5_countOf_69 : decode cX5_countOf 69 = .ok (.getfield 138, 3) := by decide +kernel
theorem dX5_countOf_72 : decode cX5_countOf 72 = .ok (.ireturn, 1) := by decide +kernel
theorem dX5_count_0 : decode cX5_count 0 = .ok (.iload_n 1, 1) := by decide +kernel
theorem dX5_count_1 : decode cX5_count 1 = .ok (.i2l, 1) := by decide +kernel
theorem dX5_count_2 : decode cX5_count 2 = .ok (.lconst 0, 1) := by decide +kernel
theorem dX5_count_3 : decode cX5_count 3 = .ok (.ldc2_w 60, 3) := by decide +kernel
theorem dX5_count_6 : decode cX5_count 6 = .ok (.invokestatic 54, 3) := by decide +kernel
theorem dX5_count_9 : decode cX5_count 9 = .ok (.ifCond .eq 11, 3) := by decide +kernel
theorem dX5_count_12 : decode cX5_count 12 = .ok (.aload_n 0, 1) := by decide +kernel
theorem dX5_count_13 : decode cX5_count 13 = .ok (.iload_n 1, 1) := by decide +kernel
theorem dX5_count_14 : decode cX5_count 14 = .ok (.invokevirtual 250, 3) := by decide +kernel
theorem dX5_count_17 : decode cX5_count 17 = .ok (.goto 7, 3) := by decide +kernel
theorem dX5_count_20 : decode cX5_count 20 = .ok (.aload_n 0, 1) := by decide +kernel
theorem dX5_count_21 : decode cX5_count 21 = .ok (.invokevirtual 110, 3) := by decide +kernel
theorem dX5_count_24 : decode cX5_count 24 = .ok (.ireturn, 1) := by decide +kernel
theorem dX5_digest_0 : decode cX5_digest 0 = .ok (.ldc2_w 253, 3) := by decide +kernel
theorem dX5_digest_3 : decode cX5_digest 3 = .ok (.lstore_n 1, 1) := by decide +kernel
theorem dX5_digest_4 : decode cX5_digest 4 = .ok (.iconst 0, 1) := by decide +kernel
theorem dX5_digest_5 : decode cX5_digest 5 = .ok (.istore_n 3, 1) := by decide +kernel
theorem dX5_digest_6 : decode cX5_digest 6 = .ok (.iload_n 3, 1) := by decide +kernel
theorem dX5_digest_7 : decode cX5_digest 7 = .ok (.bipush 6, 2) := by decide +kernel
theorem dX5_digest_9 : decode cX5_digest 9 = .ok (.if_icmp .ge 22, 3) := by decide +kernel
theorem dX5_digest_12 : decode cX5_digest 12 = .ok (.ldc2_w 255, 3) := by decide +kernel
theorem dX5_digest_15 : decode cX5_digest 15 = .ok (.lload_n 1, 1) := by decide +kernel
theorem dX5_digest_16 : decode cX5_digest 16 = .ok (.lmul, 1) := by decide +kernel
theorem dX5_digest_17 : decode cX5_digest 17 = .ok (.aload_n 0, 1) := by decide +kernel
theorem dX5_digest_18 : decode cX5_digest 18 = .ok (.iload_n 3, 1) := by decide +kernel
theorem dX5_digest_19 : decode cX5_digest 19 = .ok (.invokevirtual 250, 3) := by decide +kernel
theorem dX5_digest_22 : decode cX5_digest 22 = .ok (.i2l, 1) := by decide +kernel
theorem dX5_digest_23 : decode cX5_digest 23 = .ok (.ladd, 1) := by decide +kernel
theorem dX5_digest_24 : decode cX5_digest 24 = .ok (.lstore_n 1, 1) := by decide +kernel
theorem dX5_digest_25 : decode cX5_digest 25 = .ok (.iinc 3 1, 3) := by decide +kernel
theorem dX5_digest_28 : decode cX5_digest 28 = .ok (.goto (-22), 3) := by decide +kernel
theorem dX5_digest_31 : decode cX5_digest 31 = .ok (.ldc2_w 255, 3) := by decide +kernel
theorem dX5_digest_34 : decode cX5_digest 34 = .ok (.lload_n 1, 1) := by decide +kernel
theorem dX5_digest_35 : decode cX5_digest 35 = .ok (.lmul, 1) := by decide +kernel
theorem dX5_digest_36 : decode cX5_digest 36 = .ok (.aload_n 0, 1) := by decide +kernel
theorem dX5_digest_37 : decode cX5_digest 37 = .ok (.getfield 7, 3) := by decide +kernel
theorem dX5_digest_40 : decode cX5_digest 40 = .ok (.bipush 65, 2) := by decide +kernel
theorem dX5_digest_42 : decode cX5_digest 42 = .ok (.iaload, 1) := by decide +kernel
theorem dX5_digest_43 : decode cX5_digest 43 = .ok (.i2l, 1) := by decide +kernel
theorem dX5_digest_44 : decode cX5_digest 44 = .ok (.ladd, 1) := by decide +kernel
theorem dX5_digest_45 : decode cX5_digest 45 = .ok (.lstore_n 1, 1) := by decide +kernel
theorem dX5_digest_46 : decode cX5_digest 46 = .ok (.ldc2_w 255, 3) := by decide +kernel
theorem dX5_digest_49 : decode cX5_digest 49 = .ok (.lload_n 1, 1) := by decide +kernel
theorem dX5_digest_50 : decode cX5_digest 50 = .ok (.lmul, 1) := by decide +kernel
theorem dX5_digest_51 : decode cX5_digest 51 = .ok (.aload_n 0, 1) := by decide +kernel
theorem dX5_digest_52 : decode cX5_digest 52 = .ok (.getfield 7, 3) := by decide +kernel
theorem dX5_digest_55 : decode cX5_digest 55 = .ok (.bipush 66, 2) := by decide +kernel
theorem dX5_digest_57 : decode cX5_digest 57 = .ok (.iaload, 1) := by decide +kernel
theorem dX5_digest_58 : decode cX5_digest 58 = .ok (.i2l, 1) := by decide +kernel
theorem dX5_digest_59 : decode cX5_digest 59 = .ok (.ladd, 1) := by decide +kernel
theorem dX5_digest_60 : decode cX5_digest 60 = .ok (.lstore_n 1, 1) := by decide +kernel
theorem dX5_digest_61 : decode cX5_digest 61 = .ok (.iconst 0, 1) := by decide +kernel
theorem dX5_digest_62 : decode cX5_digest 62 = .ok (.istore_n 3, 1) := by decide +kernel
theorem dX5_digest_63 : decode cX5_digest 63 = .ok (.iload_n 3, 1) := by decide +kernel
theorem dX5_digest_64 : decode cX5_digest 64 = .ok (.bipush 64, 2) := by decide +kernel
theorem dX5_digest_66 : decode cX5_digest 66 = .ok (.if_icmp .ge 25, 3) := by decide +kernel
theorem dX5_digest_69 : decode cX5_digest 69 = .ok (.ldc2_w 255, 3) := by decide +kernel
theorem dX5_digest_72 : decode cX5_digest 72 = .ok (.lload_n 1, 1) := by decide +kernel
theorem dX5_digest_73 : decode cX5_digest 73 = .ok (.lmul, 1) := by decide +kernel
theorem dX5_digest_74 : decode cX5_digest 74 = .ok (.aload_n 0, 1) := by decide +kernel
theorem dX5_digest_75 : decode cX5_digest 75 = .ok (.getfield 7, 3) := by decide +kernel
theorem dX5_digest_78 : decode cX5_digest 78 = .ok (.iconst 0, 1) := by decide +kernel
theorem dX5_digest_79 : decode cX5_digest 79 = .ok (.iload_n 3, 1) := by decide +kernel
theorem dX5_digest_80 : decode cX5_digest 80 = .ok (.iadd, 1) := by decide +kernel
theorem dX5_digest_81 : decode cX5_digest 81 = .ok (.iaload, 1) := by decide +kernel
theorem dX5_digest_82 : decode cX5_digest 82 = .ok (.i2l, 1) := by decide +kernel
theorem dX5_digest_83 : decode cX5_digest 83 = .ok (.ladd, 1) := by decide +kernel
theorem dX5_digest_84 : decode cX5_digest 84 = .ok (.lstore_n 1, 1) := by decide +kernel
theorem dX5_digest_85 : decode cX5_digest 85 = .ok (.iinc 3 1, 3) := by decide +kernel
theorem dX5_digest_88 : decode cX5_digest 88 = .ok (.goto (-25), 3) := by decide +kernel
theorem dX5_digest_91 : decode cX5_digest 91 = .ok (.iconst 0, 1) := by decide +kernel
theorem dX5_digest_92 : decode cX5_digest 92 = .ok (.istore_n 3, 1) := by decide +kernel
theorem dX5_digest_93 : decode cX5_digest 93 = .ok (.iload_n 3, 1) := by decide +kernel
theorem dX5_digest_94 : decode cX5_digest 94 = .ok (.aload_n 0, 1) := by decide +kernel
theorem dX5_digest_95 : decode cX5_digest 95 = .ok (.getfield 7, 3) := by decide +kernel
theorem dX5_digest_98 : decode cX5_digest 98 = .ok (.bipush 67, 2) := by decide +kernel
theorem dX5_digest_100 : decode cX5_digest 100 = .ok (.iaload, 1) := by decide +kernel
theorem dX5_digest_101 : decode cX5_digest 101 = .ok (.if_icmp .ge 26, 3) := by decide +kernel
theorem dX5_digest_104 : decode cX5_digest 104 = .ok (.ldc2_w 255, 3) := by decide +kernel
theorem dX5_digest_107 : decode cX5_digest 107 = .ok (.lload_n 1, 1) := by decide +kernel
theorem dX5_digest_108 : decode cX5_digest 108 = .ok (.lmul, 1) := by decide +kernel
theorem dX5_digest_109 : decode cX5_digest 109 = .ok (.aload_n 0, 1) := by decide +kernel
theorem dX5_digest_110 : decode cX5_digest 110 = .ok (.getfield 7, 3) := by decide +kernel
theorem dX5_digest_113 : decode cX5_digest 113 = .ok (.bipush 68, 2) := by decide +kernel
theorem dX5_digest_115 : decode cX5_digest 115 = .ok (.iload_n 3, 1) := by decide +kernel
theorem dX5_digest_116 : decode cX5_digest 116 = .ok (.iadd, 1) := by decide +kernel
theorem dX5_digest_117 : decode cX5_digest 117 = .ok (.iaload, 1) := by decide +kernel
theorem dX5_digest_118 : decode cX5_digest 118 = .ok (.i2l, 1) := by decide +kernel
theorem dX5_digest_119 : decode cX5_digest 119 = .ok (.ladd, 1) := by decide +kernel
theorem dX5_digest_120 : decode cX5_digest 120 = .ok (.lstore_n 1, 1) := by decide +kernel
theorem dX5_digest_121 : decode cX5_digest 121 = .ok (.iinc 3 1, 3) := by decide +kernel
theorem dX5_digest_124 : decode cX5_digest 124 = .ok (.goto (-31), 3) := by decide +kernel
theorem dX5_digest_127 : decode cX5_digest 127 = .ok (.iconst 0, 1) := by decide +kernel
theorem dX5_digest_128 : decode cX5_digest 128 = .ok (.istore_n 3, 1) := by decide +kernel
theorem dX5_digest_129 : decode cX5_digest 129 = .ok (.iload_n 3, 1) := by decide +kernel
theorem dX5_digest_130 : decode cX5_digest 130 = .ok (.aload_n 0, 1) := by decide +kernel
theorem dX5_digest_131 : decode cX5_digest 131 = .ok (.getfield 7, 3) := by decide +kernel
theorem dX5_digest_134 : decode cX5_digest 134 = .ok (.bipush 76, 2) := by decide +kernel
theorem dX5_digest_136 : decode cX5_digest 136 = .ok (.iaload, 1) := by decide +kernel
theorem dX5_digest_137 : decode cX5_digest 137 = .ok (.if_icmp .ge 47, 3) := by decide +kernel
theorem dX5_digest_140 : decode cX5_digest 140 = .ok (.ldc2_w 255, 3) := by decide +kernel
theorem dX5_digest_143 : decode cX5_digest 143 = .ok (.lload_n 1, 1) := by decide +kernel
theorem dX5_digest_144 : decode cX5_digest 144 = .ok (.lmul, 1) := by decide +kernel
theorem dX5_digest_145 : decode cX5_digest 145 = .ok (.aload_n 0, 1) := by decide +kernel
theorem dX5_digest_146 : decode cX5_digest 146 = .ok (.getfield 7, 3) := by decide +kernel
theorem dX5_digest_149 : decode cX5_digest 149 = .ok (.bipush 77, 2) := by decide +kernel
theorem dX5_digest_151 : decode cX5_digest 151 = .ok (.iload_n 3, 1) := by decide +kernel
theorem dX5_digest_152 : decode cX5_digest 152 = .ok (.iadd, 1) := by decide +kernel
theorem dX5_digest_153 : decode cX5_digest 153 = .ok (.iaload, 1) := by decide +kernel
theorem dX5_digest_154 : decode cX5_digest 154 = .ok (.iconst 2, 1) := by decide +kernel
theorem dX5_digest_155 : decode cX5_digest 155 = .ok (.idiv, 1) := by decide +kernel
theorem dX5_digest_156 : decode cX5_digest 156 = .ok (.i2l, 1) := by decide +kernel
theorem dX5_digest_157 : decode cX5_digest 157 = .ok (.ladd, 1) := by decide +kernel
theorem dX5_digest_158 : decode cX5_digest 158 = .ok (.lstore_n 1, 1) := by decide +kernel
theorem dX5_digest_159 : decode cX5_digest 159 = .ok (.ldc2_w 255, 3) := by decide +kernel
theorem dX5_digest_162 : decode cX5_digest 162 = .ok (.lload_n 1, 1) := by decide +kernel
theorem dX5_digest_163 : decode cX5_digest 163 = .ok (.lmul, 1) := by decide +kernel
theorem dX5_digest_164 : decode cX5_digest 164 = .ok (.aload_n 0, 1) := by decide +kernel
theorem dX5_digest_165 : decode cX5_digest 165 = .ok (.getfield 7, 3) := by decide +kernel
theorem dX5_digest_168 : decode cX5_digest 168 = .ok (.bipush 77, 2) := by decide +kernel
theorem dX5_digest_170 : decode cX5_digest 170 = .ok (.iload_n 3, 1) := by decide +kernel
theorem dX5_digest_171 : decode cX5_digest 171 = .ok (.iadd, 1) := by decide +kernel
theorem dX5_digest_172 : decode cX5_digest 172 = .ok (.iaload, 1) := by decide +kernel
theorem dX5_digest_173 : decode cX5_digest 173 = .ok (.iconst 2, 1) := by decide +kernel
theorem dX5_digest_174 : decode cX5_digest 174 = .ok (.irem, 1) := by decide +kernel
theorem dX5_digest_175 : decode cX5_digest 175 = .ok (.i2l, 1) := by decide +kernel
theorem dX5_digest_176 : decode cX5_digest 176 = .ok (.ladd, 1) := by decide +kernel
theorem dX5_digest_177 : decode cX5_digest 177 = .ok (.lstore_n 1, 1) := by decide +kernel
theorem dX5_digest_178 : decode cX5_digest 178 = .ok (.iinc 3 1, 3) := by decide +kernel
theorem dX5_digest_181 : decode cX5_digest 181 = .ok (.goto (-52), 3) := by decide +kernel
theorem dX5_digest_184 : decode cX5_digest 184 = .ok (.ldc2_w 255, 3) := by decide +kernel
theorem dX5_digest_187 : decode cX5_digest 187 = .ok (.lload_n 1, 1) := by decide +kernel
theorem dX5_digest_188 : decode cX5_digest 188 = .ok (.lmul, 1) := by decide +kernel
theorem dX5_digest_189 : decode cX5_digest 189 = .ok (.aload_n 0, 1) := by decide +kernel
theorem dX5_digest_190 : decode cX5_digest 190 = .ok (.getfield 219, 3) := by decide +kernel
theorem dX5_digest_193 : decode cX5_digest 193 = .ok (.ladd, 1) := by decide +kernel
theorem dX5_digest_194 : decode cX5_digest 194 = .ok (.lstore_n 1, 1) := by decide +kernel
theorem dX5_digest_195 : decode cX5_digest 195 = .ok (.ldc2_w 255, 3) := by decide +kernel
theorem dX5_digest_198 : decode cX5_digest 198 = .ok (.lload_n 1, 1) := by decide +kernel
theorem dX5_digest_199 : decode cX5_digest 199 = .ok (.lmul, 1) := by decide +kernel
theorem dX5_digest_200 : decode cX5_digest 200 = .ok (.aload_n 0, 1) := by decide +kernel
theorem dX5_digest_201 : decode cX5_digest 201 = .ok (.getfield 13, 3) := by decide +kernel
theorem dX5_digest_204 : decode cX5_digest 204 = .ok (.ladd, 1) := by decide +kernel
theorem dX5_digest_205 : decode cX5_digest 205 = .ok (.lreturn, 1) := by decide +kernel
theorem dJ13_bitCount_95d88_0 : decode cJ13_bitCount_95d88 0 = .ok (.lload_n 0, 1) := by decide +kernel
theorem dJ13_bitCount_95d88_1 : decode cJ13_bitCount_95d88 1 = .ok (.lload_n 0, 1) := by decide +kernel
theorem dJ13_bitCount_95d88_2 : decode cJ13_bitCount_95d88 2 = .ok (.iconst 1, 1) := by decide +kernel
theorem dJ13_bitCount_95d88_3 : decode cJ13_bitCount_95d88 3 = .ok (.lushr, 1) := by decide +kernel
theorem dJ13_bitCount_95d88_4 : decode cJ13_bitCount_95d88 4 = .ok (.ldc2_w 314, 3) := by decide +kernel
theorem dJ13_bitCount_95d88_7 : decode cJ13_bitCount_95d88 7 = .ok (.land, 1) := by decide +kernel
theorem dJ13_bitCount_95d88_8 : decode cJ13_bitCount_95d88 8 = .ok (.lsub, 1) := by decide +kernel
theorem dJ13_bitCount_95d88_9 : decode cJ13_bitCount_95d88 9 = .ok (.lstore_n 0, 1) := by decide +kernel
theorem dJ13_bitCount_95d88_10 : decode cJ13_bitCount_95d88 10 = .ok (.lload_n 0, 1) := by decide +kernel
theorem dJ13_bitCount_95d88_11 : decode cJ13_bitCount_95d88 11 = .ok (.ldc2_w 316, 3) := by decide +kernel
theorem dJ13_bitCount_95d88_14 : decode cJ13_bitCount_95d88 14 = .ok (.land, 1) := by decide +kernel
theorem dJ13_bitCount_95d88_15 : decode cJ13_bitCount_95d88 15 = .ok (.lload_n 0, 1) := by decide +kernel
theorem dJ13_bitCount_95d88_16 : decode cJ13_bitCount_95d88 16 = .ok (.iconst 2, 1) := by decide +kernel
theorem dJ13_bitCount_95d88_17 : decode cJ13_bitCount_95d88 17 = .ok (.lushr, 1) := by decide +kernel
theorem dJ13_bitCount_95d88_18 : decode cJ13_bitCount_95d88 18 = .ok (.ldc2_w 316, 3) := by decide +kernel
theorem dJ13_bitCount_95d88_21 : decode cJ13_bitCount_95d88 21 = .ok (.land, 1) := by decide +kernel
theorem dJ13_bitCount_95d88_22 : decode cJ13_bitCount_95d88 22 = .ok (.ladd, 1) := by decide +kernel
theorem dJ13_bitCount_95d88_23 : decode cJ13_bitCount_95d88 23 = .ok (.lstore_n 0, 1) := by decide +kernel
theorem dJ13_bitCount_95d88_24 : decode cJ13_bitCount_95d88 24 = .ok (.lload_n 0, 1) := by decide +kernel
theorem dJ13_bitCount_95d88_25 : decode cJ13_bitCount_95d88 25 = .ok (.lload_n 0, 1) := by decide +kernel
theorem dJ13_bitCount_95d88_26 : decode cJ13_bitCount_95d88 26 = .ok (.iconst 4, 1) := by decide +kernel
theorem dJ13_bitCount_95d88_27 : decode cJ13_bitCount_95d88 27 = .ok (.lushr, 1) := by decide +kernel
theorem dJ13_bitCount_95d88_28 : decode cJ13_bitCount_95d88 28 = .ok (.ladd, 1) := by decide +kernel
theorem dJ13_bitCount_95d88_29 : decode cJ13_bitCount_95d88 29 = .ok (.ldc2_w 318, 3) := by decide +kernel
theorem dJ13_bitCount_95d88_32 : decode cJ13_bitCount_95d88 32 = .ok (.land, 1) := by decide +kernel
theorem dJ13_bitCount_95d88_33 : decode cJ13_bitCount_95d88 33 = .ok (.lstore_n 0, 1) := by decide +kernel
theorem dJ13_bitCount_95d88_34 : decode cJ13_bitCount_95d88 34 = .ok (.lload_n 0, 1) := by decide +kernel
theorem dJ13_bitCount_95d88_35 : decode cJ13_bitCount_95d88 35 = .ok (.lload_n 0, 1) := by decide +kernel
theorem dJ13_bitCount_95d88_36 : decode cJ13_bitCount_95d88 36 = .ok (.bipush 8, 2) := by decide +kernel
theorem dJ13_bitCount_95d88_38 : decode cJ13_bitCount_95d88 38 = .ok (.lushr, 1) := by decide +kernel
theorem dJ13_bitCount_95d88_39 : decode cJ13_bitCount_95d88 39 = .ok (.ladd, 1) := by decide +kernel
theorem dJ13_bitCount_95d88_40 : decode cJ13_bitCount_95d88 40 = .ok (.lstore_n 0, 1) := by decide +kernel
theorem dJ13_bitCount_95d88_41 : decode cJ13_bitCount_95d88 41 = .ok (.lload_n 0, 1) := by decide +kernel
theorem dJ13_bitCount_95d88_42 : decode cJ13_bitCount_95d88 42 = .ok (.lload_n 0, 1) := by decide +kernel
theorem dJ13_bitCount_95d88_43 : decode cJ13_bitCount_95d88 43 = .ok (.bipush 16, 2) := by decide +kernel
theorem dJ13_bitCount_95d88_45 : decode cJ13_bitCount_95d88 45 = .ok (.lushr, 1) := by decide +kernel
theorem dJ13_bitCount_95d88_46 : decode cJ13_bitCount_95d88 46 = .ok (.ladd, 1) := by decide +kernel
theorem dJ13_bitCount_95d88_47 : decode cJ13_bitCount_95d88 47 = .ok (.lstore_n 0, 1) := by decide +kernel
theorem dJ13_bitCount_95d88_48 : decode cJ13_bitCount_95d88 48 = .ok (.lload_n 0, 1) := by decide +kernel
theorem dJ13_bitCount_95d88_49 : decode cJ13_bitCount_95d88 49 = .ok (.lload_n 0, 1) := by decide +kernel
theorem dJ13_bitCount_95d88_50 : decode cJ13_bitCount_95d88 50 = .ok (.bipush 32, 2) := by decide +kernel
theorem dJ13_bitCount_95d88_52 : decode cJ13_bitCount_95d88 52 = .ok (.lushr, 1) := by decide +kernel
theorem dJ13_bitCount_95d88_53 : decode cJ13_bitCount_95d88 53 = .ok (.ladd, 1) := by decide +kernel
theorem dJ13_bitCount_95d88_54 : decode cJ13_bitCount_95d88 54 = .ok (.lstore_n 0, 1) := by decide +kernel
theorem dJ13_bitCount_95d88_55 : decode cJ13_bitCount_95d88 55 = .ok (.lload_n 0, 1) := by decide +kernel
theorem dJ13_bitCount_95d88_56 : decode cJ13_bitCount_95d88 56 = .ok (.l2i, 1) := by decide +kernel
theorem dJ13_bitCount_95d88_57 : decode cJ13_bitCount_95d88 57 = .ok (.bipush 127, 2) := by decide +kernel
theorem dJ13_bitCount_95d88_59 : decode cJ13_bitCount_95d88 59 = .ok (.iand, 1) := by decide +kernel
theorem dJ13_bitCount_95d88_60 : decode cJ13_bitCount_95d88 60 = .ok (.ireturn, 1) := by decide +kernel
theorem dJ9_max_7cf53_0 : decode cJ9_max_7cf53 0 = .ok (.iload_n 0, 1) := by decide +kernel
theorem dJ9_max_7cf53_1 : decode cJ9_max_7cf53 1 = .ok (.iload_n 1, 1) := by decide +kernel
theorem dJ9_max_7cf53_2 : decode cJ9_max_7cf53 2 = .ok (.if_icmp .lt 7, 3) := by decide +kernel
theorem dJ9_max_7cf53_5 : decode cJ9_max_7cf53 5 = .ok (.iload_n 0, 1) := by decide +kernel
theorem dJ9_max_7cf53_6 : decode cJ9_max_7cf53 6 = .ok (.goto 4, 3) := by decide +kernel
theorem dJ9_max_7cf53_9 : decode cJ9_max_7cf53 9 = .ok (.iload_n 1, 1) := by decide +kernel
theorem dJ9_max_7cf53_10 : decode cJ9_max_7cf53 10 = .ok (.ireturn, 1) := by decide +kernel
theorem dJ9_min_7cf53_0 : decode cJ9_min_7cf53 0 = .ok (.iload_n 0, 1) := by decide +kernel
theorem dJ9_min_7cf53_1 : decode cJ9_min_7cf53 1 = .ok (.iload_n 1, 1) := by decide +kernel
theorem dJ9_min_7cf53_2 : decode cJ9_min_7cf53 2 = .ok (.if_icmp .gt 7, 3) := by decide +kernel
theorem dJ9_min_7cf53_5 : decode cJ9_min_7cf53 5 = .ok (.iload_n 0, 1) := by decide +kernel
theorem dJ9_min_7cf53_6 : decode cJ9_min_7cf53 6 = .ok (.goto 4, 3) := by decide +kernel
theorem dJ9_min_7cf53_9 : decode cJ9_min_7cf53 9 = .ok (.iload_n 1, 1) := by decide +kernel
theorem dJ9_min_7cf53_10 : decode cJ9_min_7cf53 10 = .ok (.ireturn, 1) := by decide +kernel
theorem dJ0_length_8abf5_0 : decode cJ0_length_8abf5 0 = .ok (.aload_n 0, 1) := by decide +kernel
theorem dJ0_length_8abf5_1 : decode cJ0_length_8abf5 1 = .ok (.getfield 9, 3) := by decide +kernel
theorem dJ0_length_8abf5_4 : decode cJ0_length_8abf5 4 = .ok (.arraylength, 1) := by decide +kernel
theorem dJ0_length_8abf5_5 : decode cJ0_length_8abf5 5 = .ok (.aload_n 0, 1) := by decide +kernel
theorem dJ0_length_8abf5_6 : decode cJ0_length_8abf5 6 = .ok (.invokevirtual 335, 3) := by decide +kernel
theorem dJ0_length_8abf5_9 : decode cJ0_length_8abf5 9 = .ok (.ishr, 1) := by decide +kernel
theorem dJ0_length_8abf5_10 : decode cJ0_length_8abf5 10 = .ok (.ireturn, 1) := by decide +kernel
theorem dJ0_charAt_5068e_0 : decode cJ0_charAt_5068e 0 = .ok (.aload_n 0, 1) := by decide +kernel
theorem dJ0_charAt_5068e_1 : decode cJ0_charAt_5068e 1 = .ok (.invokevirtual 492, 3) := by decide +kernel
theorem dJ0_charAt_5068e_4 : decode cJ0_charAt_5068e 4 = .ok (.ifCond .eq 12, 3) := by decide +kernel
theorem dJ0_charAt_5068e_7 : decode cJ0_charAt_5068e 7 = .ok (.aload_n 0, 1) := by decide +kernel
theorem dJ0_charAt_5068e_8 : decode cJ0_charAt_5068e 8 = .ok (.getfield 9, 3) := by decide +kernel
theorem dJ0_charAt_5068e_11 : decode cJ0_charAt_5068e 11 = .ok (.iload_n 1, 1) := by decide +kernel
theorem dJ0_charAt_5068e_12 : decode cJ0_charAt_5068e 12 = .ok (.invokestatic 495, 3) := by decide +kernel
theorem dJ0_charAt_5068e_15 : decode cJ0_charAt_5068e 15 = .ok (.ireturn, 1) := by decide +kernel
theorem dJ0_charAt_5068e_16 : decode cJ0_charAt_5068e 16 = .ok (.aload_n 0, 1) := by decide +kernel
theorem dJ0_charAt_5068e_17 : decode cJ0_charAt_5068e 17 = .ok (.getfield 9, 3) := by decide +kernel
theorem dJ0_charAt_5068e_20 : decode cJ0_charAt_5068e 20 = .ok (.iload_n 1, 1) := by decide +kernel
theorem dJ0_charAt_5068e_21 : decode cJ0_charAt_5068e 21 = .ok (.invokestatic 498, 3) := by decide +kernel
theorem dJ0_charAt_5068e_24 : decode cJ0_charAt_5068e 24 = .ok (.ireturn, 1) := by decide +kernel
theorem dJ0_coder_7d493_0 : decode cJ0_coder_7d493 0 = .ok (.getstatic 38, 3) := by decide +kernel
theorem dJ0_coder_7d493_3 : decode cJ0_coder_7d493 3 = .ok (.ifCond .eq 10, 3) := by decide +kernel
theorem dJ0_coder_7d493_6 : decode cJ0_coder_7d493 6 = .ok (.aload_n 0, 1) := by decide +kernel
theorem dJ0_coder_7d493_7 : decode cJ0_coder_7d493 7 = .ok (.getfield 15, 3) := by decide +kernel
theorem dJ0_coder_7d493_10 : decode cJ0_coder_7d493 10 = .ok (.goto 4, 3) := by decide +kernel
theorem dJ0_coder_7d493_13 : decode cJ0_coder_7d493 13 = .ok (.iconst 1, 1) := by decide +kernel
theorem dJ0_coder_7d493_14 : decode cJ0_coder_7d493 14 = .ok (.ireturn, 1) := by decide +kernel
theorem dJ0_isLatin1_aae02_0 : decode cJ0_isLatin1_aae02 0 = .ok (.getstatic 38, 3) := by decide +kernel
theorem dJ0_isLatin1_aae02_3 : decode cJ0_isLatin1_aae02 3 = .ok (.ifCond .eq 14, 3) := by decide +kernel
theorem dJ0_isLatin1_aae02_6 : decode cJ0_isLatin1_aae02 6 = .ok (.aload_n 0, 1) := by decide +kernel
theorem dJ0_isLatin1_aae02_7 : decode cJ0_isLatin1_aae02 7 = .ok (.getfield 15, 3) := by decide +kernel
theorem dJ0_isLatin1_aae02_10 : decode cJ0_isLatin1_aae02 10 = .ok (.ifCond .ne 7, 3) := by decide +kernel
theorem dJ0_isLatin1_aae02_13 : decode cJ0_isLatin1_aae02 13 = .ok (.iconst 1, 1) := by decide +kernel
theorem dJ0_isLatin1_aae02_14 : decode cJ0_isLatin1_aae02 14 = .ok (.goto 4, 3) := by decide +kernel
theorem dJ0_isLatin1_aae02_17 : decode cJ0_isLatin1_aae02 17 = .ok (.iconst 0, 1) := by decide +kernel
theorem dJ0_isLatin1_aae02_18 : decode cJ0_isLatin1_aae02 18 = .ok (.ireturn, 1) := by decide +kernel
theorem dJ0_checkIndex_df160_0 : decode cJ0_checkIndex_df160 0 = .ok (.iload_n 0, 1) := by decide +kernel
theorem dJ0_checkIndex_df160_1 : decode cJ0_checkIndex_df160 1 = .ok (.iload_n 1, 1) := by decide +kernel
theorem dJ0_checkIndex_df160_2 : decode cJ0_checkIndex_df160 2 = .ok (.getstatic 1053, 3) := by decide +kernel
theorem dJ0_checkIndex_df160_5 : decode cJ0_checkIndex_df160 5 = .ok (.invokestatic 1059, 3) := by decide +kernel
theorem dJ0_checkIndex_df160_8 : decode cJ0_checkIndex_df160 8 = .ok (.pop, 1) := by decide +kernel
theorem dJ0_checkIndex_df160_9 : decode cJ0_checkIndex_df160 9 = .ok (.return_, 1) := by decide +kernel
theorem dJ1_charAt_3b067_0 : decode cJ1_charAt_3b067 0 = .ok (.iload_n 1, 1) := by decide +kernel
theorem dJ1_charAt_3b067_1 : decode cJ1_charAt_3b067 1 = .ok (.aload_n 0, 1) := by decide +kernel
theorem dJ1_charAt_3b067_2 : decode cJ1_charAt_3b067 2 = .ok (.arraylength, 1) := by decide +kernel
theorem dJ1_charAt_3b067_3 : decode cJ1_charAt_3b067 3 = .ok (.invokestatic 9, 3) := by decide +kernel
theorem dJ1_charAt_3b067_6 : decode cJ1_charAt_3b067 6 = .ok (.aload_n 0, 1) := by decide +kernel
theorem dJ1_charAt_3b067_7 : decode cJ1_charAt_3b067 7 = .ok (.iload_n 1, 1) := by decide +kernel
theorem dJ1_charAt_3b067_8 : decode cJ1_charAt_3b067 8 = .ok (.baload, 1) := by decide +kernel
theorem dJ1_charAt_3b067_9 : decode cJ1_charAt_3b067 9 = .ok (.sipush 255, 3) := by decide +kernel
theorem dJ1_charAt_3b067_12 : decode cJ1_charAt_3b067 12 = .ok (.iand, 1) := by decide +kernel
theorem dJ1_charAt_3b067_13 : decode cJ1_charAt_3b067 13 = .ok (.i2c, 1) := by decide +kernel
theorem dJ1_charAt_3b067_14 : decode cJ1_charAt_3b067 14 = .ok (.ireturn, 1) := by decide +kernel
theorem dJ2_getChar_3b067_0 : decode cJ2_getChar_3b067 0 = .ok (.getstatic 44, 3) := by decide +kernel
theorem dJ2_getChar_3b067_3 : decode cJ2_getChar_3b067 3 = .ok (.ifCond .ne 25, 3) := by decide +kernel
theorem dJ2_getChar_3b067_6 : decode cJ2_getChar_3b067 6 = .ok (.iload_n 1, 1) := by decide +kernel
theorem dJ2_getChar_3b067_7 : decode cJ2_getChar_3b067 7 = .ok (.ifCond .lt 11, 3) := by decide +kernel
theorem dJ2_getChar_3b067_10 : decode cJ2_getChar_3b067 10 = .ok (.iload_n 1, 1) := by decide +kernel
theorem dJ2_getChar_3b067_11 : decode cJ2_getChar_3b067 11 = .ok (.aload_n 0, 1) := by decide +kernel
theorem dJ2_getChar_3b067_12 : decode cJ2_getChar_3b067 12 = .ok (.invokestatic 48, 3) := by decide +kernel
theorem dJ2_getChar_3b067_15 : decode cJ2_getChar_3b067 15 = .ok (.if_icmp .lt 13, 3) := by decide +kernel
theorem dJ2_getChar_3b067_18 : decode cJ2_getChar_3b067 18 = .ok (.new 52, 3) := by decide +kernel
theorem dJ2_getChar_3b067_21 : decode cJ2_getChar_3b067 21 = .ok (.dup, 1) := by decide +kernel
theorem dJ2_getChar_3b067_22 : decode cJ2_getChar_3b067 22 = .ok (.ldc 54, 2) := by decide +kernel
theorem dJ2_getChar_3b067_24 : decode cJ2_getChar_3b067 24 = .ok (.invokespecial 56, 3) := by decide +kernel
theorem dJ2_getChar_3b067_27 : decode cJ2_getChar_3b067 27 = .ok (.athrow, 1) := by decide +kernel
theorem dJ2_getChar_3b067_28 : decode cJ2_getChar_3b067 28 = .ok (.iload_n 1, 1) := by decide +kernel
theorem dJ2_getChar_3b067_29 : decode cJ2_getChar_3b067 29 = .ok (.iconst 1, 1) := by decide +kernel
theorem dJ2_getChar_3b067_30 : decode cJ2_getChar_3b067 30 = .ok (.ishl, 1) := by decide +kernel
theorem dJ2_getChar_3b067_31 : decode cJ2_getChar_3b067 31 = .ok (.istore_n 1, 1) := by decide +kernel
theorem dJ2_getChar_3b067_32 : decode cJ2_getChar_3b067 32 = .ok (.aload_n 0, 1) := by decide +kernel
theorem dJ2_getChar_3b067_33 : decode cJ2_getChar_3b067 33 = .ok (.iload_n 1, 1) := by decide +kernel
theorem dJ2_getChar_3b067_34 : decode cJ2_getChar_3b067 34 = .ok (.iinc 1 1, 3) := by decide +kernel
theorem dJ2_getChar_3b067_37 : decode cJ2_getChar_3b067 37 = .ok (.baload, 1) := by decide +kernel
theorem dJ2_getChar_3b067_38 : decode cJ2_getChar_3b067 38 = .ok (.sipush 255, 3) := by decide +kernel
theorem dJ2_getChar_3b067_41 : decode cJ2_getChar_3b067 41 = .ok (.iand, 1) := by decide +kernel
theorem dJ2_getChar_3b067_42 : decode cJ2_getChar_3b067 42 = .ok (.getstatic 59, 3) := by decide +kernel
theorem dJ2_getChar_3b067_45 : decode cJ2_getChar_3b067 45 = .ok (.ishl, 1) := by decide +kernel
theorem dJ2_getChar_3b067_46 : decode cJ2_getChar_3b067 46 = .ok (.aload_n 0, 1) := by decide +kernel
theorem dJ2_getChar_3b067_47 : decode cJ2_getChar_3b067 47 = .ok (.iload_n 1, 1) := by decide +kernel
theorem dJ2_getChar_3b067_48 : decode cJ2_getChar_3b067 48 = .ok (.baload, 1) := by decide +kernel
theorem dJ2_getChar_3b067_49 : decode cJ2_getChar_3b067 49 = .ok (.sipush 255, 3) := by decide +kernel
theorem dJ2_getChar_3b067_52 : decode cJ2_getChar_3b067 52 = .ok (.iand, 1) := by decide +kernel
theorem dJ2_getChar_3b067_53 : decode cJ2_getChar_3b067 53 = .ok (.getstatic 63, 3) := by decide +kernel
theorem dJ2_getChar_3b067_56 : decode cJ2_getChar_3b067 56 = .ok (.ishl, 1) := by decide +kernel
theorem dJ2_getChar_3b067_57 : decode cJ2_getChar_3b067 57 = .ok (.ior, 1) := by decide +kernel
theorem dJ2_getChar_3b067_58 : decode cJ2_getChar_3b067 58 = .ok (.i2c, 1) := by decide +kernel
theorem dJ2_getChar_3b067_59 : decode cJ2_getChar_3b067 59 = .ok (.ireturn, 1) := by decide +kernel
theorem dJ2_length_9d52b_0 : decode cJ2_length_9d52b 0 = .ok (.aload_n 0, 1) := by decide +kernel
theorem dJ2_length_9d52b_1 : decode cJ2_length_9d52b 1 = .ok (.arraylength, 1) := by decide +kernel
theorem dJ2_length_9d52b_2 : decode cJ2_length_9d52b 2 = .ok (.iconst 1, 1) := by decide +kernel
theorem dJ2_length_9d52b_3 : decode cJ2_length_9d52b 3 = .ok (.ishr, 1) := by decide +kernel
theorem dJ2_length_9d52b_4 : decode cJ2_length_9d52b 4 = .ok (.ireturn, 1) := by decide +kernel
theorem dJ2_charAt_3b067_0 : decode cJ2_charAt_3b067 0 = .ok (.iload_n 1, 1) := by decide +kernel
theorem dJ2_charAt_3b067_1 : decode cJ2_charAt_3b067 1 = .ok (.aload_n 0, 1) := by decide +kernel
theorem dJ2_charAt_3b067_2 : decode cJ2_charAt_3b067 2 = .ok (.invokestatic 67, 3) := by decide +kernel
theorem dJ2_charAt_3b067_5 : decode cJ2_charAt_3b067 5 = .ok (.aload_n 0, 1) := by decide +kernel
theorem dJ2_charAt_3b067_6 : decode cJ2_charAt_3b067 6 = .ok (.iload_n 1, 1) := by decide +kernel
theorem dJ2_charAt_3b067_7 : decode cJ2_charAt_3b067 7 = .ok (.invokestatic 71, 3) := by decide +kernel
theorem dJ2_charAt_3b067_10 : decode cJ2_charAt_3b067 10 = .ok (.ireturn, 1) := by decide +kernel
theorem dJ2_checkIndex_2214a_0 : decode cJ2_checkIndex_2214a 0 = .ok (.iload_n 0, 1) := by decide +kernel
theorem dJ2_checkIndex_2214a_1 : decode cJ2_checkIndex_2214a 1 = .ok (.aload_n 1, 1) := by decide +kernel
theorem dJ2_checkIndex_2214a_2 : decode cJ2_checkIndex_2214a 2 = .ok (.invokestatic 48, 3) := by decide +kernel
theorem dJ2_checkIndex_2214a_5 : decode cJ2_checkIndex_2214a 5 = .ok (.invokestatic 414, 3) := by decide +kernel
theorem dJ2_checkIndex_2214a_8 : decode cJ2_checkIndex_2214a 8 = .ok (.return_, 1) := by decide +kernel
theorem dJ7_fill_53178_0 : decode cJ7_fill_53178 0 = .ok (.iconst 0, 1) := by decide +kernel
theorem dJ7_fill_53178_1 : decode cJ7_fill_53178 1 = .ok (.istore_n 2, 1) := by decide +kernel
theorem dJ7_fill_53178_2 : decode cJ7_fill_53178 2 = .ok (.aload_n 0, 1) := by decide +kernel
theorem dJ7_fill_53178_3 : decode cJ7_fill_53178 3 = .ok (.arraylength, 1) := by decide +kernel
theorem dJ7_fill_53178_4 : decode cJ7_fill_53178 4 = .ok (.istore_n 3, 1) := by decide +kernel
theorem dJ7_fill_53178_5 : decode cJ7_fill_53178 5 = .ok (.iload_n 2, 1) := by decide +kernel
theorem dJ7_fill_53178_6 : decode cJ7_fill_53178 6 = .ok (.iload_n 3, 1) := by decide +kernel
theorem dJ7_fill_53178_7 : decode cJ7_fill_53178 7 = .ok (.if_icmp .ge 13, 3) := by decide +kernel
theorem dJ7_fill_53178_10 : decode cJ7_fill_53178 10 = .ok (.aload_n 0, 1) := by decide +kernel
theorem dJ7_fill_53178_11 : decode cJ7_fill_53178 11 = .ok (.iload_n 2, 1) := by decide +kernel
theorem dJ7_fill_53178_12 : decode cJ7_fill_53178 12 = .ok (.iload_n 1, 1) := by decide +kernel
theorem dJ7_fill_53178_13 : decode cJ7_fill_53178 13 = .ok (.iastore, 1) := by decide +kernel
theorem dJ7_fill_53178_14 : decode cJ7_fill_53178 14 = .ok (.iinc 2 1, 3) := by decide +kernel
theorem dJ7_fill_53178_17 : decode cJ7_fill_53178 17 = .ok (.goto (-12), 3) := by decide +kernel
theorem dJ7_fill_53178_20 : decode cJ7_fill_53178 20 = .ok (.return_, 1) := by decide +kernel
theorem dJ3_checkIndex_8e157_0 : decode cJ3_checkIndex_8e157 0 = .ok (.iload_n 0, 1) := by decide +kernel
theorem dJ3_checkIndex_8e157_1 : decode cJ3_checkIndex_8e157 1 = .ok (.ifCond .lt 8, 3) := by decide +kernel
theorem dJ3_checkIndex_8e157_4 : decode cJ3_checkIndex_8e157 4 = .ok (.iload_n 0, 1) := by decide +kernel
theorem dJ3_checkIndex_8e157_5 : decode cJ3_checkIndex_8e157 5 = .ok (.iload_n 1, 1) := by decide +kernel
theorem dJ3_checkIndex_8e157_6 : decode cJ3_checkIndex_8e157 6 = .ok (.if_icmp .lt 10, 3) := by decide +kernel
theorem dJ3_checkIndex_8e157_9 : decode cJ3_checkIndex_8e157 9 = .ok (.aload_n 2, 1) := by decide +kernel
theorem dJ3_checkIndex_8e157_10 : decode cJ3_checkIndex_8e157 10 = .ok (.iload_n 0, 1) := by decide +kernel
theorem dJ3_checkIndex_8e157_11 : decode cJ3_checkIndex_8e157 11 = .ok (.iload_n 1, 1) := by decide +kernel
theorem dJ3_checkIndex_8e157_12 : decode cJ3_checkIndex_8e157 12 = .ok (.invokestatic 95, 3) := by decide +kernel
theorem dJ3_checkIndex_8e157_15 : decode cJ3_checkIndex_8e157 15 = .ok (.athrow, 1) := by decide +kernel
theorem dJ3_checkIndex_8e157_16 : decode cJ3_checkIndex_8e157 16 = .ok (.iload_n 0, 1) := by decide +kernel
theorem dJ3_checkIndex_8e157_17 : decode cJ3_checkIndex_8e157 17 = .ok (.ireturn, 1) := by decide +kernel
end
section
theorem dL_law_0 : decode cL_law 0 = .ok (.new 7, 3) := by decide +kernel
theorem dL_law_3 : decode cL_law 3 = .ok (.dup, 1) := by decide +kernel
theorem dL_law_4 : decode cL_law 4 = .ok (.invokespecial 9, 3) := by decide +kernel
theorem dL_law_7 : decode cL_law 7 = .ok (.astore_n 1, 1) := by decide +kernel
theorem dL_law_8 : decode cL_law 8 = .ok (.new 10, 3) := by decide +kernel
theorem dL_law_11 : decode cL_law 11 = .ok (.dup, 1) := by decide +kernel
theorem dL_law_12 : decode cL_law 12 = .ok (.invokespecial 12, 3) := by decide +kernel
theorem dL_law_15 : decode cL_law 15 = .ok (.astore_n 2, 1) := by decide +kernel
theorem dL_law_16 : decode cL_law 16 = .ok (.iconst 0, 1) := by decide +kernel
theorem dL_law_17 : decode cL_law 17 = .ok (.istore_n 3, 1) := by decide +kernel
theorem dL_law_18 : decode cL_law 18 = .ok (.iload_n 3, 1) := by decide +kernel
theorem dL_law_19 : decode cL_law 19 = .ok (.aload_n 0, 1) := by decide +kernel
theorem dL_law_20 : decode cL_law 20 = .ok (.arraylength, 1) := by decide +kernel
theorem dL_law_21 : decode cL_law 21 = .ok (.bipush 8, 2) := by decide +kernel
theorem dL_law_23 : decode cL_law 23 = .ok (.isub, 1) := by decide +kernel
theorem dL_law_24 : decode cL_law 24 = .ok (.if_icmp .gt 1321, 3) := by decide +kernel
theorem dL_law_27 : decode cL_law 27 = .ok (.aload_n 0, 1) := by decide +kernel
theorem dL_law_28 : decode cL_law 28 = .ok (.iload_n 3, 1) := by decide +kernel
theorem dL_law_29 : decode cL_law 29 = .ok (.iaload, 1) := by decide +kernel
theorem dL_law_30 : decode cL_law 30 = .ok (.bipush 63, 2) := by decide +kernel
theorem dL_law_32 : decode cL_law 32 = .ok (.iand, 1) := by decide +kernel
theorem dL_law_33 : decode cL_law 33 = .ok (.tableswitch 1306 0 34 #[155, 178, 211, 234, 297, 310, 333, 346, 359, 392, 425, 448, 511, 554, 597, 650, 693, 716, 749, 782, 815, 848, 871, 914, 937, 970, 993, 1056, 1143, 1176, 1200, 1223, 1246, 1269, 1292], 155) := by decide +kernel
theorem dL_law_188 : decode cL_law 188 = .ok (.aload_n 1, 1) := by decide +kernel
theorem dL_law_189 : decode cL_law 189 = .ok (.aload_n 0, 1) := by decide +kernel
theorem dL_law_190 : decode cL_law 190 = .ok (.iload_n 3, 1) := by decide +kernel
theorem dL_law_191 : decode cL_law 191 = .ok (.iconst 1, 1) := by decide +kernel
theorem dL_law_192 : decode cL_law 192 = .ok (.iadd, 1) := by decide +kernel
theorem dL_law_193 : decode cL_law 193 = .ok (.iaload, 1) := by decide +kernel
theorem dL_law_194 : decode cL_law 194 = .ok (.invokevirtual 13, 3) := by decide +kernel
theorem dL_law_197 : decode cL_law 197 = .ok (.aload_n 2, 1) := by decide +kernel
theorem dL_law_198 : decode cL_law 198 = .ok (.aload_n 0, 1) := by decide +kernel
theorem dL_law_199 : decode cL_law 199 = .ok (.iload_n 3, 1) := by decide +kernel
theorem dL_law_200 : decode cL_law 200 = .ok (.iconst 1, 1) := by decide +kernel
theorem dL_law_201 : decode cL_law 201 = .ok (.iadd, 1) := by decide +kernel
theorem dL_law_202 : decode cL_law 202 = .ok (.iaload, 1) := by decide +kernel
theorem dL_law_203 : decode cL_law 203 = .ok (.invokevirtual 17, 3) := by decide +kernel
theorem dL_law_206 : decode cL_law 206 = .ok (.if_icmp .eq 1133, 3) := by decide +kernel
theorem dL_law_209 : decode cL_law 209 = .ok (.iconst 0, 1) := by decide +kernel
theorem dL_law_210 : decode cL_law 210 = .ok (.ireturn, 1) := by decide +kernel
theorem dL_law_211 : decode cL_law 211 = .ok (.aload_n 1, 1) := by decide +kernel
theorem dL_law_212 : decode cL_law 212 = .ok (.aload_n 0, 1) := by decide +kernel
theorem dL_law_213 : decode cL_law 213 = .ok (.iload_n 3, 1) := by decide +kernel
theorem dL_law_214 : decode cL_law 214 = .ok (.iconst 1, 1) := by decide +kernel
theorem dL_law_215 : decode cL_law 215 = .ok (.iadd, 1) := by decide +kernel
theorem dL_law_216 : decode cL_law 216 = .ok (.iaload, 1) := by decide +kernel
theorem dL_law_217 : decode cL_law 217 = .ok (.aload_n 0, 1) := by decide +kernel
theorem dL_law_218 : decode cL_law 218 = .ok (.iload_n 3, 1) := by decide +kernel
theorem dL_law_219 : decode cL_law 219 = .ok (.iconst 2, 1) := by decide +kernel
theorem dL_law_220 : decode cL_law 220 = .ok (.iadd, 1) := by decide +kernel
theorem dL_law_221 : decode cL_law 221 = .ok (.iaload, 1) := by decide +kernel
theorem dL_law_222 : decode cL_law 222 = .ok (.invokevirtual 18, 3) := by decide +kernel
theorem dL_law_225 : decode cL_law 225 = .ok (.aload_n 2, 1) := by decide +kernel
theorem dL_law_226 : decode cL_law 226 = .ok (.aload_n 0, 1) := by decide +kernel
theorem dL_law_227 : decode cL_law 227 = .ok (.iload_n 3, 1) := by decide +kernel
theorem dL_law_228 : decode cL_law 228 = .ok (.iconst 1, 1) := by decide +kernel
theorem dL_law_229 : decode cL_law 229 = .ok (.iadd, 1) := by decide +kernel
theorem dL_law_230 : decode cL_law 230 = .ok (.iaload, 1) := by decide +kernel
theorem dL_law_231 : decode cL_law 231 = .ok (.aload_n 0, 1) := by decide +kernel
theorem dL_law_232 : decode cL_law 232 = .ok (.iload_n 3, 1) := by decide +kernel
theorem dL_law_233 : decode cL_law 233 = .ok (.iconst 2, 1) := by decide +kernel
theorem dL_law_234 : decode cL_law 234 = .ok (.iadd, 1) := by decide +kernel
theorem dL_law_235 : decode cL_law 235 = .ok (.iaload, 1) := by decide +kernel
theorem dL_law_236 : decode cL_law 236 = .ok (.invokevirtual 22, 3) := by decide +kernel
theorem dL_law_239 : decode cL_law 239 = .ok (.if_icmp .eq 1100, 3) := by decide +kernel
theorem dL_law_242 : decode cL_law 242 = .ok (.iconst 0, 1) := by decide +kernel
theorem dL_law_243 : decode cL_law 243 = .ok (.ireturn, 1) := by decide +kernel
theorem dL_law_244 : decode cL_law 244 = .ok (.aload_n 1, 1) := by decide +kernel
theorem dL_law_245 : decode cL_law 245 = .ok (.aload_n 0, 1) := by decide +kernel
theorem dL_law_246 : decode cL_law 246 = .ok (.iload_n 3, 1) := by decide +kernel
theorem dL_law_247 : decode cL_law 247 = .ok (.iconst 1, 1) := by decide +kernel
theorem dL_law_248 : decode cL_law 248 = .ok (.iadd, 1) := by decide +kernel
theorem dL_law_249 : decode cL_law 249 = .ok (.iaload, 1) := by decide +kernel
theorem dL_law_250 : decode cL_law 250 = .ok (.invokevirtual 23, 3) := by decide +kernel
theorem dL_law_253 : decode cL_law 253 = .ok (.aload_n 2, 1) := by decide +kernel
theorem dL_law_254 : decode cL_law 254 = .ok (.aload_n 0, 1) := by decide +kernel
theorem dL_law_255 : decode cL_law 255 = .ok (.iload_n 3, 1) := by decide +kernel
theorem dL_law_256 : decode cL_law 256 = .ok (.iconst 1, 1) := by decide +kernel
theorem dL_law_257 : decode cL_law 257 = .ok (.iadd, 1) := by decide +kernel
theorem dL_law_258 : decode cL_law 258 = .ok (.iaload, 1) := by decide +kernel
theorem dL_law_259 : decode cL_law 259 = .ok (.invokevirtual 26, 3) := by decide +kernel
theorem dL_law_262 : decode cL_law 262 = .ok (.if_icmp .eq 1077, 3) := by decide +kernel
theorem dL_law_265 : decode cL_law 265 = .ok (.iconst 0, 1) := by decide +kernel
theorem dL_law_266 : decode cL_law 266 = .ok (.ireturn, 1) := by decide +kernel
theorem dL_law_267 : decode cL_law 267 = .ok (.aload_n 1, 1) := by decide +kernel
theorem dL_law_268 : decode cL_law 268 = .ok (.aload_n 0, 1) := by decide +kernel
theorem dL_law_269 : decode cL_law 269 = .ok (.iload_n 3, 1) := by decide +kernel
theorem dL_law_270 : decode cL_law 270 = .ok (.iconst 1, 1) := by decide +kernel
theorem dL_law_271 : decode cL_law 271 = .ok (.iadd, 1) := by decide +kernel
theorem dL_law_272 : decode cL_law 272 = .ok (.iaload, 1) := by decide +kernel
theorem dL_law_273 : decode cL_law 273 = .ok (.aload_n 0, 1) := by decide +kernel
theorem dL_law_274 : decode cL_law 274 = .ok (.iload_n 3, 1) := by decide +kernel
theorem dL_law_275 : decode cL_law 275 = .ok (.iconst 2, 1) := by decide +kernel
theorem dL_law_276 : decode cL_law 276 = .ok (.iadd, 1) := by decide +kernel
theorem dL_law_277 : decode cL_law 277 = .ok (.iaload, 1) := by decide +kernel
theorem dL_law_278 : decode cL_law 278 = .ok (.aload_n 0, 1) := by decide +kernel
theorem dL_law_279 : decode cL_law 279 = .ok (.iload_n 3, 1) := by decide +kernel
theorem dL_law_280 : decode cL_law 280 = .ok (.iconst 3, 1) := by decide +kernel
theorem dL_law_281 : decode cL_law 281 = .ok (.iadd, 1) := by decide +kernel
theorem dL_law_282 : decode cL_law 282 = .ok (.iaload, 1) := by decide +kernel
theorem dL_law_283 : decode cL_law 283 = .ok (.aload_n 0, 1) := by decide +kernel
theorem dL_law_284 : decode cL_law 284 = .ok (.iload_n 3, 1) := by decide +kernel
theorem dL_law_285 : decode cL_law 285 = .ok (.iconst 4, 1) := by decide +kernel
theorem dL_law_286 : decode cL_law 286 = .ok (.iadd, 1) := by decide +kernel
theorem dL_law_287 : decode cL_law 287 = .ok (.iaload, 1) := by decide +kernel
theorem dL_law_288 : decode cL_law 288 = .ok (.aload_n 0, 1) := by decide +kernel
theorem dL_law_289 : decode cL_law 289 = .ok (.iload_n 3, 1) := by decide +kernel
theorem dL_law_290 : decode cL_law 290 = .ok (.iconst 5, 1) := by decide +kernel
theorem dL_law_291 : decode cL_law 291 = .ok (.iadd, 1) := by decide +kernel
theorem dL_law_292 : decode cL_law 292 = .ok (.iaload, 1) := by decide +kernel
theorem dL_law_293 : decode cL_law 293 = .ok (.invokevirtual 27, 3) := by decide +kernel
theorem dL_law_296 : decode cL_law 296 = .ok (.aload_n 2, 1) := by decide +kernel
theorem dL_law_297 : decode cL_law 297 = .ok (.aload_n 0, 1) := by decide +kernel
theorem dL_law_298 : decode cL_law 298 = .ok (.iload_n 3, 1) := by decide +kernel
theorem dL_law_299 : decode cL_law 299 = .ok (.iconst 1, 1) := by decide +kernel
theorem dL_law_300 : decode cL_law 300 = .ok (.iadd, 1) := by decide +kernel
theorem dL_law_301 : decode cL_law 301 = .ok (.iaload, 1) := by decide +kernel
theorem dL_law_302 : decode cL_law 302 = .ok (.aload_n 0, 1) := by decide +kernel
theorem dL_law_303 : decode cL_law 303 = .ok (.iload_n 3, 1) := by decide +kernel
theorem dL_law_304 : decode cL_law 304 = .ok (.iconst 2, 1) := by decide +kernel
theorem dL_law_305 : decode cL_law 305 = .ok (.iadd, 1) := by decide +kernel
theorem dL_law_306 : decode cL_law 306 = .ok (.iaload, 1) := by decide +kernel
theorem dL_law_307 : decode cL_law 307 = .ok (.aload_n 0, 1) := by decide +kernel
theorem dL_law_308 : decode cL_law 308 = .ok (.iload_n 3, 1) := by decide +kernel
theorem dL_law_309 : decode cL_law 309 = .ok (.iconst 3, 1) := by decide +kernel
theorem dL_law_310 : decode cL_law 310 = .ok (.iadd, 1) := by decide +kernel
theorem dL_law_311 : decode cL_law 311 = .ok (.iaload, 1) := by decide +kernel
theorem dL_law_312 : decode cL_law 312 = .ok (.aload_n 0, 1) := by decide +kernel
theorem dL_law_313 : decode cL_law 313 = .ok (.iload_n 3, 1) := by decide +kernel
theorem dL_law_314 : decode cL_law 314 = .ok (.iconst 4, 1) := by decide +kernel
theorem dL_law_315 : decode cL_law 315 = .ok (.iadd, 1) := by decide +kernel
theorem dL_law_316 : decode cL_law 316 = .ok (.iaload, 1) := by decide +kernel
theorem dL_law_317 : decode cL_law 317 = .ok (.aload_n 0, 1) := by decide +kernel
theorem dL_law_318 : decode cL_law 318 = .ok (.iload_n 3, 1) := by decide +kernel
theorem dL_law_319 : decode cL_law 319 = .ok (.iconst 5, 1) := by decide +kernel
theorem dL_law_320 : decode cL_law 320 = .ok (.iadd, 1) := by decide +kernel
theorem dL_law_321 : decode cL_law 321 = .ok (.iaload, 1) := by decide +kernel
theorem dL_law_322 : decode cL_law 322 = .ok (.invokevirtual 31, 3) := by decide +kernel
theorem dL_law_325 : decode cL_law 325 = .ok (.if_icmp .eq 1014, 3) := by decide +kernel
theorem dL_law_328 : decode cL_law 328 = .ok (.iconst 0, 1) := by decide +kernel
theorem dL_law_329 : decode cL_law 329 = .ok (.ireturn, 1) := by decide +kernel
theorem dL_law_330 : decode cL_law 330 = .ok (.aload_n 1, 1) := by decide +kernel
theorem dL_law_331 : decode cL_law 331 = .ok (.invokevirtual 32, 3) := by decide +kernel
theorem dL_law_334 : decode cL_law 334 = .ok (.aload_n 2, 1) := by decide +kernel
theorem dL_law_335 : decode cL_law 335 = .ok (.invokevirtual 36, 3) := by decide +kernel
theorem dL_law_338 : decode cL_law 338 = .ok (.if_icmp .eq 1001, 3) := by decide +kernel
theorem dL_law_341 : decode cL_law 341 = .ok (.iconst 0, 1) := by decide +kernel
theorem dL_law_342 : decode cL_law 342 = .ok (.ireturn, 1) := by decide +kernel
theorem dL_law_343 : decode cL_law 343 = .ok (.aload_n 1, 1) := by decide +kernel
theorem dL_law_344 : decode cL_law 344 = .ok (.aload_n 0, 1) := by decide +kernel
theorem dL_law_345 : decode cL_law 345 = .ok (.iload_n 3, 1) := by decide +kernel
theorem dL_law_346 : decode cL_law 346 = .ok (.iconst 1, 1) := by decide +kernel
theorem dL_law_347 : decode cL_law 347 = .ok (.iadd, 1) := by decide +kernel
theorem dL_law_348 : decode cL_law 348 = .ok (.iaload, 1) := by decide +kernel
theorem dL_law_349 : decode cL_law 349 = .ok (.invokevirtual 37, 3) := by decide +kernel
theorem dL_law_352 : decode cL_law 352 = .ok (.aload_n 2, 1) := by decide +kernel
theorem dL_law_353 : decode cL_law 353 = .ok (.aload_n 0, 1) := by decide +kernel
theorem dL_law_354 : decode cL_law 354 = .ok (.iload_n 3, 1) := by decide +kernel
theorem dL_law_355 : decode cL_law 355 = .ok (.iconst 1, 1) := by decide +kernel
theorem dL_law_356 : decode cL_law 356 = .ok (.iadd, 1) := by decide +kernel
theorem dL_law_357 : decode cL_law 357 = .ok (.iaload, 1) := by decide +kernel
theorem dL_law_358 : decode cL_law 358 = .ok (.invokevirtual 40, 3) := by decide +kernel
theorem dL_law_361 : decode cL_law 361 = .ok (.if_icmp .eq 978, 3) := by decide +kernel
theorem dL_law_364 : decode cL_law 364 = .ok (.iconst 0, 1) := by decide +kernel
theorem dL_law_365 : decode cL_law 365 = .ok (.ireturn, 1) := by decide +kernel
theorem dL_law_366 : decode cL_law 366 = .ok (.aload_n 1, 1) := by decide +kernel
theorem dL_law_367 : decode cL_law 367 = .ok (.invokevirtual 41, 3) := by decide +kernel
theorem dL_law_370 : decode cL_law 370 = .ok (.aload_n 2, 1) := by decide +kernel
theorem dL_law_371 : decode cL_law 371 = .ok (.invokevirtual 44, 3) := by decide +kernel
theorem dL_law_374 : decode cL_law 374 = .ok (.if_icmp .eq 965, 3) := by decide +kernel
theorem dL_law_377 : decode cL_law 377 = .ok (.iconst 0, 1) := by decide +kernel
theorem dL_law_378 : decode cL_law 378 = .ok (.ireturn, 1) := by decide +kernel
theorem dL_law_379 : decode cL_law 379 = .ok (.aload_n 1, 1) := by decide +kernel
theorem dL_law_380 : decode cL_law 380 = .ok (.invokevirtual 45, 3) := by decide +kernel
theorem dL_law_383 : decode cL_law 383 = .ok (.aload_n 2, 1) := by decide +kernel
theorem dL_law_384 : decode cL_law 384 = .ok (.invokevirtual 48, 3) := by decide +kernel
theorem dL_law_387 : decode cL_law 387 = .ok (.if_icmp .eq 952, 3) := by decide +kernel
theorem dL_law_390 : decode cL_law 390 = .ok (.iconst 0, 1) := by decide +kernel
theorem dL_law_391 : decode cL_law 391 = .ok (.ireturn, 1) := by decide +kernel
theorem dL_law_392 : decode cL_law 392 = .ok (.aload_n 1, 1) := by decide +kernel
theorem dL_law_393 : decode cL_law 393 = .ok (.aload_n 0, 1) := by decide +kernel
theorem dL_law_394 : decode cL_law 394 = .ok (.iload_n 3, 1) := by decide +kernel
theorem dL_law_395 : decode cL_law 395 = .ok (.iconst 1, 1) := by decide +kernel
theorem dL_law_396 : decode cL_law 396 = .ok (.iadd, 1) := by decide +kernel
theorem dL_law_397 : decode cL_law 397 = .ok (.iaload, 1) := by decide +kernel
theorem dL_law_398 : decode cL_law 398 = .ok (.aload_n 0, 1) := by decide +kernel
theorem dL_law_399 : decode cL_law 399 = .ok (.iload_n 3, 1) := by decide +kernel
theorem dL_law_400 : decode cL_law 400 = .ok (.iconst 2, 1) := by decide +kernel
theorem dL_law_401 : decode cL_law 401 = .ok (.iadd, 1) := by decide +kernel
theorem dL_law_402 : decode cL_law 402 = .ok (.iaload, 1) := by decide +kernel
theorem dL_law_403 : decode cL_law 403 = .ok (.invokevirtual 49, 3) := by decide +kernel
theorem dL_law_406 : decode cL_law 406 = .ok (.aload_n 2, 1) := by decide +kernel
theorem dL_law_407 : decode cL_law 407 = .ok (.aload_n 0, 1) := by decide +kernel
theorem dL_law_408 : decode cL_law 408 = .ok (.iload_n 3, 1) := by decide +kernel
theorem dL_law_409 : decode cL_law 409 = .ok (.iconst 1, 1) := by decide +kernel
theorem dL_law_410 : decode cL_law 410 = .ok (.iadd, 1) := by decide +kernel
theorem dL_law_411 : decode cL_law 411 = .ok (.iaload, 1) := by decide +kernel
theorem dL_law_412 : decode cL_law 412 = .ok (.aload_n 0, 1) := by decide +kernel
theorem dL_law_413 : decode cL_law 413 = .ok (.iload_n 3, 1) := by decide +kernel
theorem dL_law_414 : decode cL_law 414 = .ok (.iconst 2, 1) := by decide +kernel
theorem dL_law_415 : decode cL_law 415 = .ok (.iadd, 1) := by decide +kernel
theorem dL_law_416 : decode cL_law 416 = .ok (.iaload, 1) := by decide +kernel
theorem dL_law_417 : decode cL_law 417 = .ok (.invokevirtual 52, 3) := by decide +kernel
theorem dL_law_420 : decode cL_law 420 = .ok (.if_icmp .eq 919, 3) := by decide +kernel
theorem dL_law_423 : decode cL_law 423 = .ok (.iconst 0, 1) := by decide +kernel
theorem dL_law_424 : decode cL_law 424 = .ok (.ireturn, 1) := by decide +kernel
theorem dL_law_425 : decode cL_law 425 = .ok (.aload_n 1, 1) := by decide +kernel
theorem dL_law_426 : decode cL_law 426 = .ok (.aload_n 0, 1) := by decide +kernel
theorem dL_law_427 : decode cL_law 427 = .ok (.iload_n 3, 1) := by decide +kernel
theorem dL_law_428 : decode cL_law 428 = .ok (.iconst 1, 1) := by decide +kernel
theorem dL_law_429 : decode cL_law 429 = .ok (.iadd, 1) := by decide +kernel
theorem dL_law_430 : decode cL_law 430 = .ok (.iaload, 1) := by decide +kernel
theorem dL_law_431 : decode cL_law 431 = .ok (.aload_n 0, 1) := by decide +kernel
theorem dL_law_432 : decode cL_law 432 = .ok (.iload_n 3, 1) := by decide +kernel
theorem dL_law_433 : decode cL_law 433 = .ok (.iconst 2, 1) := by decide +kernel
theorem dL_law_434 : decode cL_law 434 = .ok (.iadd, 1) := by decide +kernel
theorem dL_law_435 : decode cL_law 435 = .ok (.iaload, 1) := by decide +kernel
theorem dL_law_436 : decode cL_law 436 = .ok (.invokevirtual 53, 3) := by decide +kernel
theorem dL_law_439 : decode cL_law 439 = .ok (.aload_n 2, 1) := by decide +kernel
theorem dL_law_440 : decode cL_law 440 = .ok (.aload_n 0, 1) := by decide +kernel
theorem dL_law_441 : decode cL_law 441 = .ok (.iload_n 3, 1) := by decide +kernel
theorem dL_law_442 : decode cL_law 442 = .ok (.iconst 1, 1) := by decide +kernel
theorem dL_law_443 : decode cL_law 443 = .ok (.iadd, 1) := by decide +kernel
theorem dL_law_444 : decode cL_law 444 = .ok (.iaload, 1) := by decide +kernel
theorem dL_law_445 : decode cL_law 445 = .ok (.aload_n 0, 1) := by decide +kernel
theorem dL_law_446 : decode cL_law 446 = .ok (.iload_n 3, 1) := by decide +kernel
theorem dL_law_447 : decode cL_law 447 = .ok (.iconst 2, 1) := by decide +kernel
theorem dL_law_448 : decode cL_law 448 = .ok (.iadd, 1) := by decide +kernel
theorem dL_law_449 : decode cL_law 449 = .ok (.iaload, 1) := by decide +kernel
theorem dL_law_450 : decode cL_law 450 = .ok (.invokevirtual 56, 3) := by decide +kernel
theorem dL_law_453 : decode cL_law 453 = .ok (.if_icmp .eq 886, 3) := by decide +kernel
theorem dL_law_456 : decode cL_law 456 = .ok (.iconst 0, 1) := by decide +kernel
theorem dL_law_457 : decode cL_law 457 = .ok (.ireturn, 1) := by decide +kernel
theorem dL_law_458 : decode cL_law 458 = .ok (.aload_n 1, 1) := by decide +kernel
theorem dL_law_459 : decode cL_law 459 = .ok (.aload_n 0, 1) := by decide +kernel
theorem dL_law_460 : decode cL_law 460 = .ok (.iload_n 3, 1) := by decide +kernel
theorem dL_law_461 : decode cL_law 461 = .ok (.iconst 1, 1) := by decide +kernel
theorem dL_law_462 : decode cL_law 462 = .ok (.iadd, 1) := by decide +kernel
theorem dL_law_463 : decode cL_law 463 = .ok (.iaload, 1) := by decide +kernel
theorem dL_law_464 : decode cL_law 464 = .ok (.invokevirtual 57, 3) := by decide +kernel
theorem dL_law_467 : decode cL_law 467 = .ok (.aload_n 2, 1) := by decide +kernel
theorem dL_law_468 : decode cL_law 468 = .ok (.aload_n 0, 1) := by decide +kernel
theorem dL_law_469 : decode cL_law 469 = .ok (.iload_n 3, 1) := by decide +kernel
theorem dL_law_470 : decode cL_law 470 = .ok (.iconst 1, 1) := by decide +kernel
theorem dL_law_471 : decode cL_law 471 = .ok (.iadd, 1) := by decide +kernel
theorem dL_law_472 : decode cL_law 472 = .ok (.iaload, 1) := by decide +kernel
theorem dL_law_473 : decode cL_law 473 = .ok (.invokevirtual 60, 3) := by decide +kernel
theorem dL_law_476 : decode cL_law 476 = .ok (.if_icmp .eq 863, 3) := by decide +kernel
theorem dL_law_479 : decode cL_law 479 = .ok (.iconst 0, 1) := by decide +kernel
theorem dL_law_480 : decode cL_law 480 = .ok (.ireturn, 1) := by decide +kernel
theorem dL_law_481 : decode cL_law 481 = .ok (.aload_n 1, 1) := by decide +kernel
theorem dL_law_482 : decode cL_law 482 = .ok (.aload_n 0, 1) := by decide +kernel
theorem dL_law_483 : decode cL_law 483 = .ok (.iload_n 3, 1) := by decide +kernel
theorem dL_law_484 : decode cL_law 484 = .ok (.iconst 1, 1) := by decide +kernel
theorem dL_law_485 : decode cL_law 485 = .ok (.iadd, 1) := by decide +kernel
theorem dL_law_486 : decode cL_law 486 = .ok (.iaload, 1) := by decide +kernel
theorem dL_law_487 : decode cL_law 487 = .ok (.aload_n 0, 1) := by decide +kernel
theorem dL_law_488 : decode cL_law 488 = .ok (.iload_n 3, 1) := by decide +kernel
theorem dL_law_489 : decode cL_law 489 = .ok (.iconst 2, 1) := by decide +kernel
theorem dL_law_490 : decode cL_law 490 = .ok (.iadd, 1) := by decide +kernel
theorem dL_law_491 : decode cL_law 491 = .ok (.iaload, 1) := by decide +kernel
theorem dL_law_492 : decode cL_law 492 = .ok (.aload_n 0, 1) := by decide +kernel
theorem dL_law_493 : decode cL_law 493 = .ok (.iload_n 3, 1) := by decide +kernel
theorem dL_law_494 : decode cL_law 494 = .ok (.iconst 3, 1) := by decide +kernel
theorem dL_law_495 : decode cL_law 495 = .ok (.iadd, 1) := by decide +kernel
theorem dL_law_496 : decode cL_law 496 = .ok (.iaload, 1) := by decide +kernel
theorem dL_law_497 : decode cL_law 497 = .ok (.aload_n 0, 1) := by decide +kernel
theorem dL_law_498 : decode cL_law 498 = .ok (.iload_n 3, 1) := by decide +kernel
theorem dL_law_499 : decode cL_law 499 = .ok (.iconst 4, 1) := by decide +kernel
theorem dL_law_500 : decode cL_law 500 = .ok (.iadd, 1) := by decide +kernel
theorem dL_law_501 : decode cL_law 501 = .ok (.iaload, 1) := by decide +kernel
theorem dL_law_502 : decode cL_law 502 = .ok (.aload_n 0, 1) := by decide +kernel
theorem dL_law_503 : decode cL_law 503 = .ok (.iload_n 3, 1) := by decide +kernel
theorem dL_law_504 : decode cL_law 504 = .ok (.iconst 5, 1) := by decide +kernel
theorem dL_law_505 : decode cL_law 505 = .ok (.iadd, 1) := by decide +kernel
theorem dL_law_506 : decode cL_law 506 = .ok (.iaload, 1) := by decide +kernel
theorem dL_law_507 : decode cL_law 507 = .ok (.invokevirtual 61, 3) := by decide +kernel
theorem dL_law_510 : decode cL_law 510 = .ok (.aload_n 2, 1) := by decide +kernel
theorem dL_law_511 : decode cL_law 511 = .ok (.aload_n 0, 1) := by decide +kernel
theorem dL_law_512 : decode cL_law 512 = .ok (.iload_n 3, 1) := by decide +kernel
theorem dL_law_513 : decode cL_law 513 = .ok (.iconst 1, 1) := by decide +kernel
theorem dL_law_514 : decode cL_law 514 = .ok (.iadd, 1) := by decide +kernel
theorem dL_law_515 : decode cL_law 515 = .ok (.iaload, 1) := by decide +kernel
theorem dL_law_516 : decode cL_law 516 = .ok (.aload_n 0, 1) := by decide +kernel
theorem dL_law_517 : decode cL_law 517 = .ok (.iload_n 3, 1) := by decide +kernel
theorem dL_law_518 : decode cL_law 518 = .ok (.iconst 2, 1) := by decide +kernel
theorem dL_law_519 : decode cL_law 519 = .ok (.iadd, 1) := by decide +kernel
theorem dL_law_520 : decode cL_law 520 = .ok (.iaload, 1) := by decide +kernel
theorem dL_law_521 : decode cL_law 521 = .ok (.aload_n 0, 1) := by decide +kernel
theorem dL_law_522 : decode cL_law 522 = .ok (.iload_n 3, 1) := by decide +kernel
theorem dL_law_523 : decode cL_law 523 = .ok (.iconst 3, 1) := by decide +kernel
theorem dL_law_524 : decode cL_law 524 = .ok (.iadd, 1) := by decide +kernel
theorem dL_law_525 : decode cL_law 525 = .ok (.iaload, 1) := by decide +kernel
theorem dL_law_526 : decode cL_law 526 = .ok (.aload_n 0, 1) := by decide +kernel
theorem dL_law_527 : decode cL_law 527 = .ok (.iload_n 3, 1) := by decide +kernel
theorem dL_law_528 : decode cL_law 528 = .ok (.iconst 4, 1) := by decide +kernel
theorem dL_law_529 : decode cL_law 529 = .ok (.iadd, 1) := by decide +kernel
theorem dL_law_530 : decode cL_law 530 = .ok (.iaload, 1) := by decide +kernel
theorem dL_law_531 : decode cL_law 531 = .ok (.aload_n 0, 1) := by decide +kernel
theorem dL_law_532 : decode cL_law 532 = .ok (.iload_n 3, 1) := by decide +kernel
theorem dL_law_533 : decode cL_law 533 = .ok (.iconst 5, 1) := by decide +kernel
theorem dL_law_534 : decode cL_law 534 = .ok (.iadd, 1) := by decide +kernel
theorem dL_law_535 : decode cL_law 535 = .ok (.iaload, 1) := by decide +kernel
theorem dL_law_536 : decode cL_law 536 = .ok (.invokevirtual 64, 3) := by decide +kernel
theorem dL_law_539 : decode cL_law 539 = .ok (.if_icmp .eq 800, 3) := by decide +kernel
theorem dL_law_542 : decode cL_law 542 = .ok (.iconst 0, 1) := by decide +kernel
theorem dL_law_543 : decode cL_law 543 = .ok (.ireturn, 1) := by decide +kernel
theorem dL_law_544 : decode cL_law 544 = .ok (.aload_n 1, 1) := by decide +kernel
theorem dL_law_545 : decode cL_law 545 = .ok (.aload_n 0, 1) := by decide +kernel
theorem dL_law_546 : decode cL_law 546 = .ok (.iload_n 3, 1) := by decide +kernel
theorem dL_law_547 : decode cL_law 547 = .ok (.iconst 1, 1) := by decide +kernel
theorem dL_law_548 : decode cL_law 548 = .ok (.iadd, 1) := by decide +kernel
theorem dL_law_549 : decode cL_law 549 = .ok (.iaload, 1) := by decide +kernel
theorem dL_law_550 : decode cL_law 550 = .ok (.aload_n 0, 1) := by decide +kernel
theorem dL_law_551 : decode cL_law 551 = .ok (.iload_n 3, 1) := by decide +kernel
theorem dL_law_552 : decode cL_law 552 = .ok (.iconst 2, 1) := by decide +kernel
theorem dL_law_553 : decode cL_law 553 = .ok (.iadd, 1) := by decide +kernel
theorem dL_law_554 : decode cL_law 554 = .ok (.iaload, 1) := by decide +kernel
theorem dL_law_555 : decode cL_law 555 = .ok (.aload_n 0, 1) := by decide +kernel
theorem dL_law_556 : decode cL_law 556 = .ok (.iload_n 3, 1) := by decide +kernel
theorem dL_law_557 : decode cL_law 557 = .ok (.iconst 3, 1) := by decide +kernel
theorem dL_law_558 : decode cL_law 558 = .ok (.iadd, 1) := by decide +kernel
theorem dL_law_559 : decode cL_law 559 = .ok (.iaload, 1) := by decide +kernel
theorem dL_law_560 : decode cL_law 560 = .ok (.invokevirtual 65, 3) := by decide +kernel
theorem dL_law_563 : decode cL_law 563 = .ok (.aload_n 2, 1) := by decide +kernel
theorem dL_law_564 : decode cL_law 564 = .ok (.aload_n 0, 1) := by decide +kernel
theorem dL_law_565 : decode cL_law 565 = .ok (.iload_n 3, 1) := by decide +kernel
theorem dL_law_566 : decode cL_law 566 = .ok (.iconst 1, 1) := by decide +kernel
theorem dL_law_567 : decode cL_law 567 = .ok (.iadd, 1) := by decide +kernel
theorem dL_law_568 : decode cL_law 568 = .ok (.iaload, 1) := by decide +kernel
theorem dL_law_569 : decode cL_law 569 = .ok (.aload_n 0, 1) := by decide +kernel
theorem dL_law_570 : decode cL_law 570 = .ok (.iload_n 3, 1) := by decide +kernel
theorem dL_law_571 : decode cL_law 571 = .ok (.iconst 2, 1) := by decide +kernel
theorem dL_law_572 : decode cL_law 572 = .ok (.iadd, 1) := by decide +kernel
theorem dL_law_573 : decode cL_law 573 = .ok (.iaload, 1) := by decide +kernel
theorem dL_law_574 : decode cL_law 574 = .ok (.aload_n 0, 1) := by decide +kernel
theorem dL_law_575 : decode cL_law 575 = .ok (.iload_n 3, 1) := by decide +kernel
theorem dL_law_576 : decode cL_law 576 = .ok (.iconst 3, 1) := by decide +kernel
theorem dL_law_577 : decode cL_law 577 = .ok (.iadd, 1) := by decide +kernel
theorem dL_law_578 : decode cL_law 578 = .ok (.iaload, 1) := by decide +kernel
theorem dL_law_579 : decode cL_law 579 = .ok (.invokevirtual 69, 3) := by decide +kernel
theorem dL_law_582 : decode cL_law 582 = .ok (.if_icmp .eq 757, 3) := by decide +kernel
theorem dL_law_585 : decode cL_law 585 = .ok (.iconst 0, 1) := by decide +kernel
theorem dL_law_586 : decode cL_law 586 = .ok (.ireturn, 1) := by decide +kernel
theorem dL_law_587 : decode cL_law 587 = .ok (.aload_n 1, 1) := by decide +kernel
theorem dL_law_588 : decode cL_law 588 = .ok (.aload_n 0, 1) := by decide +kernel
theorem dL_law_589 : decode cL_law 589 = .ok (.iload_n 3, 1) := by decide +kernel
theorem dL_law_590 : decode cL_law 590 = .ok (.iconst 1, 1) := by decide +kernel
theorem dL_law_591 : decode cL_law 591 = .ok (.iadd, 1) := by decide +kernel
theorem dL_law_592 : decode cL_law 592 = .ok (.iaload, 1) := by decide +kernel
theorem dL_law_593 : decode cL_law 593 = .ok (.aload_n 0, 1) := by decide +kernel
theorem dL_law_594 : decode cL_law 594 = .ok (.iload_n 3, 1) := by decide +kernel
theorem dL_law_595 : decode cL_law 595 = .ok (.iconst 2, 1) := by decide +kernel
theorem dL_law_596 : decode cL_law 596 = .ok (.iadd, 1) := by decide +kernel
theorem dL_law_597 : decode cL_law 597 = .ok (.iaload, 1) := by decide +kernel
theorem dL_law_598 : decode cL_law 598 = .ok (.aload_n 0, 1) := by decide +kernel
theorem dL_law_599 : decode cL_law 599 = .ok (.iload_n 3, 1) := by decide +kernel
theorem dL_law_600 : decode cL_law 600 = .ok (.iconst 3, 1) := by decide +kernel
theorem dL_law_601 : decode cL_law 601 = .ok (.iadd, 1) := by decide +kernel
theorem dL_law_602 : decode cL_law 602 = .ok (.iaload, 1) := by decide +kernel
theorem dL_law_603 : decode cL_law 603 = .ok (.invokevirtual 70, 3) := by decide +kernel
theorem dL_law_606 : decode cL_law 606 = .ok (.aload_n 2, 1) := by decide +kernel
theorem dL_law_607 : decode cL_law 607 = .ok (.aload_n 0, 1) := by decide +kernel
theorem dL_law_608 : decode cL_law 608 = .ok (.iload_n 3, 1) := by decide +kernel
theorem dL_law_609 : decode cL_law 609 = .ok (.iconst 1, 1) := by decide +kernel
theorem dL_law_610 : decode cL_law 610 = .ok (.iadd, 1) := by decide +kernel
theorem dL_law_611 : decode cL_law 611 = .ok (.iaload, 1) := by decide +kernel
theorem dL_law_612 : decode cL_law 612 = .ok (.aload_n 0, 1) := by decide +kernel
theorem dL_law_613 : decode cL_law 613 = .ok (.iload_n 3, 1) := by decide +kernel
theorem dL_law_614 : decode cL_law 614 = .ok (.iconst 2, 1) := by decide +kernel
theorem dL_law_615 : decode cL_law 615 = .ok (.iadd, 1) := by decide +kernel
theorem dL_law_616 : decode cL_law 616 = .ok (.iaload, 1) := by decide +kernel
theorem dL_law_617 : decode cL_law 617 = .ok (.aload_n 0, 1) := by decide +kernel
theorem dL_law_618 : decode cL_law 618 = .ok (.iload_n 3, 1) := by decide +kernel
theorem dL_law_619 : decode cL_law 619 = .ok (.iconst 3, 1) := by decide +kernel
theorem dL_law_620 : decode cL_law 620 = .ok (.iadd, 1) := by decide +kernel
theorem dL_law_621 : decode cL_law 621 = .ok (.iaload, 1) := by decide +kernel
theorem dL_law_622 : decode cL_law 622 = .ok (.invokevirtual 73, 3) := by decide +kernel
theorem dL_law_625 : decode cL_law 625 = .ok (.if_icmp .eq 714, 3) := by decide +kernel
theorem dL_law_628 : decode cL_law 628 = .ok (.iconst 0, 1) := by decide +kernel
theorem dL_law_629 : decode cL_law 629 = .ok (.ireturn, 1) := by decide +kernel
theorem dL_law_630 : decode cL_law 630 = .ok (.aload_n 1, 1) := by decide +kernel
theorem dL_law_631 : decode cL_law 631 = .ok (.aload_n 0, 1) := by decide +kernel
theorem dL_law_632 : decode cL_law 632 = .ok (.iload_n 3, 1) := by decide +kernel
theorem dL_law_633 : decode cL_law 633 = .ok (.iconst 1, 1) := by decide +kernel
theorem dL_law_634 : decode cL_law 634 = .ok (.iadd, 1) := by decide +kernel
theorem dL_law_635 : decode cL_law 635 = .ok (.iaload, 1) := by decide +kernel
theorem dL_law_636 : decode cL_law 636 = .ok (.aload_n 0, 1) := by decide +kernel
theorem dL_law_637 : decode cL_law 637 = .ok (.iload_n 3, 1) := by decide +kernel
theorem dL_law_638 : decode cL_law 638 = .ok (.iconst 2, 1) := by decide +kernel
theorem dL_law_639 : decode cL_law 639 = .ok (.iadd, 1) := by decide +kernel
theorem dL_law_640 : decode cL_law 640 = .ok (.iaload, 1) := by decide +kernel
theorem dL_law_641 : decode cL_law 641 = .ok (.aload_n 0, 1) := by decide +kernel
theorem dL_law_642 : decode cL_law 642 = .ok (.iload_n 3, 1) := by decide +kernel
theorem dL_law_643 : decode cL_law 643 = .ok (.iconst 3, 1) := by decide +kernel
theorem dL_law_644 : decode cL_law 644 = .ok (.iadd, 1) := by decide +kernel
theorem dL_law_645 : decode cL_law 645 = .ok (.iaload, 1) := by decide +kernel
theorem dL_law_646 : decode cL_law 646 = .ok (.aload_n 0, 1) := by decide +kernel
theorem dL_law_647 : decode cL_law 647 = .ok (.iload_n 3, 1) := by decide +kernel
theorem dL_law_648 : decode cL_law 648 = .ok (.iconst 4, 1) := by decide +kernel
theorem dL_law_649 : decode cL_law 649 = .ok (.iadd, 1) := by decide +kernel
theorem dL_law_650 : decode cL_law 650 = .ok (.iaload, 1) := by decide +kernel
theorem dL_law_651 : decode cL_law 651 = .ok (.invokevirtual 74, 3) := by decide +kernel
theorem dL_law_654 : decode cL_law 654 = .ok (.aload_n 2, 1) := by decide +kernel
theorem dL_law_655 : decode cL_law 655 = .ok (.aload_n 0, 1) := by decide +kernel
theorem dL_law_656 : decode cL_law 656 = .ok (.iload_n 3, 1) := by decide +kernel
theorem dL_law_657 : decode cL_law 657 = .ok (.iconst 1, 1) := by decide +kernel
theorem dL_law_658 : decode cL_law 658 = .ok (.iadd, 1) := by decide +kernel
theorem dL_law_659 : decode cL_law 659 = .ok (.iaload, 1) := by decide +kernel
theorem dL_law_660 : decode cL_law 660 = .ok (.aload_n 0, 1) := by decide +kernel
theorem dL_law_661 : decode cL_law 661 = .ok (.iload_n 3, 1) := by decide +kernel
theorem dL_law_662 : decode cL_law 662 = .ok (.iconst 2, 1) := by decide +kernel
theorem dL_law_663 : decode cL_law 663 = .ok (.iadd, 1) := by decide +kernel
theorem dL_law_664 : decode cL_law 664 = .ok (.iaload, 1) := by decide +kernel
theorem dL_law_665 : decode cL_law 665 = .ok (.aload_n 0, 1) := by decide +kernel
theorem dL_law_666 : decode cL_law 666 = .ok (.iload_n 3, 1) := by decide +kernel
theorem dL_law_667 : decode cL_law 667 = .ok (.iconst 3, 1) := by decide +kernel
theorem dL_law_668 : decode cL_law 668 = .ok (.iadd, 1) := by decide +kernel
theorem dL_law_669 : decode cL_law 669 = .ok (.iaload, 1) := by decide +kernel
theorem dL_law_670 : decode cL_law 670 = .ok (.aload_n 0, 1) := by decide +kernel
theorem dL_law_671 : decode cL_law 671 = .ok (.iload_n 3, 1) := by decide +kernel
theorem dL_law_672 : decode cL_law 672 = .ok (.iconst 4, 1) := by decide +kernel
theorem dL_law_673 : decode cL_law 673 = .ok (.iadd, 1) := by decide +kernel
theorem dL_law_674 : decode cL_law 674 = .ok (.iaload, 1) := by decide +kernel
theorem dL_law_675 : decode cL_law 675 = .ok (.invokevirtual 78, 3) := by decide +kernel
theorem dL_law_678 : decode cL_law 678 = .ok (.if_icmp .eq 661, 3) := by decide +kernel
theorem dL_law_681 : decode cL_law 681 = .ok (.iconst 0, 1) := by decide +kernel
theorem dL_law_682 : decode cL_law 682 = .ok (.ireturn, 1) := by decide +kernel
theorem dL_law_683 : decode cL_law 683 = .ok (.aload_n 1, 1) := by decide +kernel
theorem dL_law_684 : decode cL_law 684 = .ok (.aload_n 0, 1) := by decide +kernel
theorem dL_law_685 : decode cL_law 685 = .ok (.iload_n 3, 1) := by decide +kernel
theorem dL_law_686 : decode cL_law 686 = .ok (.iconst 1, 1) := by decide +kernel
theorem dL_law_687 : decode cL_law 687 = .ok (.iadd, 1) := by decide +kernel
theorem dL_law_688 : decode cL_law 688 = .ok (.iaload, 1) := by decide +kernel
theorem dL_law_689 : decode cL_law 689 = .ok (.aload_n 0, 1) := by decide +kernel
theorem dL_law_690 : decode cL_law 690 = .ok (.iload_n 3, 1) := by decide +kernel
theorem dL_law_691 : decode cL_law 691 = .ok (.iconst 2, 1) := by decide +kernel
theorem dL_law_692 : decode cL_law 692 = .ok (.iadd, 1) := by decide +kernel
theorem dL_law_693 : decode cL_law 693 = .ok (.iaload, 1) := by decide +kernel
theorem dL_law_694 : decode cL_law 694 = .ok (.aload_n 0, 1) := by decide +kernel
theorem dL_law_695 : decode cL_law 695 = .ok (.iload_n 3, 1) := by decide +kernel
theorem dL_law_696 : decode cL_law 696 = .ok (.iconst 3, 1) := by decide +kernel
theorem dL_law_697 : decode cL_law 697 = .ok (.iadd, 1) := by decide +kernel
theorem dL_law_698 : decode cL_law 698 = .ok (.iaload, 1) := by decide +kernel
theorem dL_law_699 : decode cL_law 699 = .ok (.invokevirtual 79, 3) := by decide +kernel
theorem dL_law_702 : decode cL_law 702 = .ok (.aload_n 2, 1) := by decide +kernel
theorem dL_law_703 : decode cL_law 703 = .ok (.aload_n 0, 1) := by decide +kernel
theorem dL_law_704 : decode cL_law 704 = .ok (.iload_n 3, 1) := by decide +kernel
theorem dL_law_705 : decode cL_law 705 = .ok (.iconst 1, 1) := by decide +kernel
theorem dL_law_706 : decode cL_law 706 = .ok (.iadd, 1) := by decide +kernel
theorem dL_law_707 : decode cL_law 707 = .ok (.iaload, 1) := by decide +kernel
theorem dL_law_708 : decode cL_law 708 = .ok (.aload_n 0, 1) := by decide +kernel
theorem dL_law_709 : decode cL_law 709 = .ok (.iload_n 3, 1) := by decide +kernel
theorem dL_law_710 : decode cL_law 710 = .ok (.iconst 2, 1) := by decide +kernel
theorem dL_law_711 : decode cL_law 711 = .ok (.iadd, 1) := by decide +kernel
theorem dL_law_712 : decode cL_law 712 = .ok (.iaload, 1) := by decide +kernel
theorem dL_law_713 : decode cL_law 713 = .ok (.aload_n 0, 1) := by decide +kernel
theorem dL_law_714 : decode cL_law 714 = .ok (.iload_n 3, 1) := by decide +kernel
theorem dL_law_715 : decode cL_law 715 = .ok (.iconst 3, 1) := by decide +kernel
theorem dL_law_716 : decode cL_law 716 = .ok (.iadd, 1) := by decide +kernel
theorem dL_law_717 : decode cL_law 717 = .ok (.iaload, 1) := by decide +kernel
theorem dL_law_718 : decode cL_law 718 = .ok (.invokevirtual 82, 3) := by decide +kernel
theorem dL_law_721 : decode cL_law 721 = .ok (.if_icmp .eq 618, 3) := by decide +kernel
theorem dL_law_724 : decode cL_law 724 = .ok (.iconst 0, 1) := by decide +kernel
theorem dL_law_725 : decode cL_law 725 = .ok (.ireturn, 1) := by decide +kernel
theorem dL_law_726 : decode cL_law 726 = .ok (.aload_n 1, 1) := by decide +kernel
theorem dL_law_727 : decode cL_law 727 = .ok (.aload_n 0, 1) := by decide +kernel
theorem dL_law_728 : decode cL_law 728 = .ok (.iload_n 3, 1) := by decide +kernel
theorem dL_law_729 : decode cL_law 729 = .ok (.iconst 1, 1) := by decide +kernel
theorem dL_law_730 : decode cL_law 730 = .ok (.iadd, 1) := by decide +kernel
theorem dL_law_731 : decode cL_law 731 = .ok (.iaload, 1) := by decide +kernel
theorem dL_law_732 : decode cL_law 732 = .ok (.invokevirtual 83, 3) := by decide +kernel
theorem dL_law_735 : decode cL_law 735 = .ok (.aload_n 2, 1) := by decide +kernel
theorem dL_law_736 : decode cL_law 736 = .ok (.aload_n 0, 1) := by decide +kernel
theorem dL_law_737 : decode cL_law 737 = .ok (.iload_n 3, 1) := by decide +kernel
theorem dL_law_738 : decode cL_law 738 = .ok (.iconst 1, 1) := by decide +kernel
theorem dL_law_739 : decode cL_law 739 = .ok (.iadd, 1) := by decide +kernel
theorem dL_law_740 : decode cL_law 740 = .ok (.iaload, 1) := by decide +kernel
theorem dL_law_741 : decode cL_law 741 = .ok (.invokevirtual 86, 3) := by decide +kernel
theorem dL_law_744 : decode cL_law 744 = .ok (.if_icmp .eq 595, 3) := by decide +kernel
theorem dL_law_747 : decode cL_law 747 = .ok (.iconst 0, 1) := by decide +kernel
theorem dL_law_748 : decode cL_law 748 = .ok (.ireturn, 1) := by decide +kernel
theorem dL_law_749 : decode cL_law 749 = .ok (.aload_n 1, 1) := by decide +kernel
theorem dL_law_750 : decode cL_law 750 = .ok (.aload_n 0, 1) := by decide +kernel
theorem dL_law_751 : decode cL_law 751 = .ok (.iload_n 3, 1) := by decide +kernel
theorem dL_law_752 : decode cL_law 752 = .ok (.iconst 1, 1) := by decide +kernel
theorem dL_law_753 : decode cL_law 753 = .ok (.iadd, 1) := by decide +kernel
theorem dL_law_754 : decode cL_law 754 = .ok (.iaload, 1) := by decide +kernel
theorem dL_law_755 : decode cL_law 755 = .ok (.aload_n 0, 1) := by decide +kernel
theorem dL_law_756 : decode cL_law 756 = .ok (.iload_n 3, 1) := by decide +kernel
theorem dL_law_757 : decode cL_law 757 = .ok (.iconst 2, 1) := by decide +kernel
theorem dL_law_758 : decode cL_law 758 = .ok (.iadd, 1) := by decide +kernel
theorem dL_law_759 : decode cL_law 759 = .ok (.iaload, 1) := by decide +kernel
theorem dL_law_760 : decode cL_law 760 = .ok (.invokevirtual 87, 3) := by decide +kernel
theorem dL_law_763 : decode cL_law 763 = .ok (.aload_n 2, 1) := by decide +kernel
theorem dL_law_764 : decode cL_law 764 = .ok (.aload_n 0, 1) := by decide +kernel
theorem dL_law_765 : decode cL_law 765 = .ok (.iload_n 3, 1) := by decide +kernel
theorem dL_law_766 : decode cL_law 766 = .ok (.iconst 1, 1) := by decide +kernel
theorem dL_law_767 : decode cL_law 767 = .ok (.iadd, 1) := by decide +kernel
theorem dL_law_768 : decode cL_law 768 = .ok (.iaload, 1) := by decide +kernel
theorem dL_law_769 : decode cL_law 769 = .ok (.aload_n 0, 1) := by decide +kernel
end
section
theorem dL_law_770 : decode cL_law 770 = .ok (.iload_n 3, 1) := by decide +kernel
theorem dL_law_771 : decode cL_law 771 = .ok (.iconst 2, 1) := by decide +kernel
theorem dL_law_772 : decode cL_law 772 = .ok (.iadd, 1) := by decide +kernel
theorem dL_law_773 : decode cL_law 773 = .ok (.iaload, 1) := by decide +kernel
theorem dL_law_774 : decode cL_law 774 = .ok (.invokevirtual 90, 3) := by decide +kernel
theorem dL_law_777 : decode cL_law 777 = .ok (.if_icmp .eq 562, 3) := by decide +kernel
theorem dL_law_780 : decode cL_law 780 = .ok (.iconst 0, 1) := by decide +kernel
theorem dL_law_781 : decode cL_law 781 = .ok (.ireturn, 1) := by decide +kernel
theorem dL_law_782 : decode cL_law 782 = .ok (.aload_n 1, 1) := by decide +kernel
theorem dL_law_783 : decode cL_law 783 = .ok (.aload_n 0, 1) := by decide +kernel
theorem dL_law_784 : decode cL_law 784 = .ok (.iload_n 3, 1) := by decide +kernel
theorem dL_law_785 : decode cL_law 785 = .ok (.iconst 1, 1) := by decide +kernel
theorem dL_law_786 : decode cL_law 786 = .ok (.iadd, 1) := by decide +kernel
theorem dL_law_787 : decode cL_law 787 = .ok (.iaload, 1) := by decide +kernel
theorem dL_law_788 : decode cL_law 788 = .ok (.aload_n 0, 1) := by decide +kernel
theorem dL_law_789 : decode cL_law 789 = .ok (.iload_n 3, 1) := by decide +kernel
theorem dL_law_790 : decode cL_law 790 = .ok (.iconst 2, 1) := by decide +kernel
theorem dL_law_791 : decode cL_law 791 = .ok (.iadd, 1) := by decide +kernel
theorem dL_law_792 : decode cL_law 792 = .ok (.iaload, 1) := by decide +kernel
theorem dL_law_793 : decode cL_law 793 = .ok (.invokevirtual 91, 3) := by decide +kernel
theorem dL_law_796 : decode cL_law 796 = .ok (.aload_n 2, 1) := by decide +kernel
theorem dL_law_797 : decode cL_law 797 = .ok (.aload_n 0, 1) := by decide +kernel
theorem dL_law_798 : decode cL_law 798 = .ok (.iload_n 3, 1) := by decide +kernel
theorem dL_law_799 : decode cL_law 799 = .ok (.iconst 1, 1) := by decide +kernel
theorem dL_law_800 : decode cL_law 800 = .ok (.iadd, 1) := by decide +kernel
theorem dL_law_801 : decode cL_law 801 = .ok (.iaload, 1) := by decide +kernel
theorem dL_law_802 : decode cL_law 802 = .ok (.aload_n 0, 1) := by decide +kernel
theorem dL_law_803 : decode cL_law 803 = .ok (.iload_n 3, 1) := by decide +kernel
theorem dL_law_804 : decode cL_law 804 = .ok (.iconst 2, 1) := by decide +kernel
theorem dL_law_805 : decode cL_law 805 = .ok (.iadd, 1) := by decide +kernel
theorem dL_law_806 : decode cL_law 806 = .ok (.iaload, 1) := by decide +kernel
theorem dL_law_807 : decode cL_law 807 = .ok (.invokevirtual 94, 3) := by decide +kernel
theorem dL_law_810 : decode cL_law 810 = .ok (.if_icmp .eq 529, 3) := by decide +kernel
theorem dL_law_813 : decode cL_law 813 = .ok (.iconst 0, 1) := by decide +kernel
theorem dL_law_814 : decode cL_law 814 = .ok (.ireturn, 1) := by decide +kernel
theorem dL_law_815 : decode cL_law 815 = .ok (.aload_n 1, 1) := by decide +kernel
theorem dL_law_816 : decode cL_law 816 = .ok (.aload_n 0, 1) := by decide +kernel
theorem dL_law_817 : decode cL_law 817 = .ok (.iload_n 3, 1) := by decide +kernel
theorem dL_law_818 : decode cL_law 818 = .ok (.iconst 1, 1) := by decide +kernel
theorem dL_law_819 : decode cL_law 819 = .ok (.iadd, 1) := by decide +kernel
theorem dL_law_820 : decode cL_law 820 = .ok (.iaload, 1) := by decide +kernel
theorem dL_law_821 : decode cL_law 821 = .ok (.aload_n 0, 1) := by decide +kernel
theorem dL_law_822 : decode cL_law 822 = .ok (.iload_n 3, 1) := by decide +kernel
theorem dL_law_823 : decode cL_law 823 = .ok (.iconst 2, 1) := by decide +kernel
theorem dL_law_824 : decode cL_law 824 = .ok (.iadd, 1) := by decide +kernel
theorem dL_law_825 : decode cL_law 825 = .ok (.iaload, 1) := by decide +kernel
theorem dL_law_826 : decode cL_law 826 = .ok (.invokevirtual 95, 3) := by decide +kernel
theorem dL_law_829 : decode cL_law 829 = .ok (.aload_n 2, 1) := by decide +kernel
theorem dL_law_830 : decode cL_law 830 = .ok (.aload_n 0, 1) := by decide +kernel
theorem dL_law_831 : decode cL_law 831 = .ok (.iload_n 3, 1) := by decide +kernel
theorem dL_law_832 : decode cL_law 832 = .ok (.iconst 1, 1) := by decide +kernel
theorem dL_law_833 : decode cL_law 833 = .ok (.iadd, 1) := by decide +kernel
theorem dL_law_834 : decode cL_law 834 = .ok (.iaload, 1) := by decide +kernel
theorem dL_law_835 : decode cL_law 835 = .ok (.aload_n 0, 1) := by decide +kernel
theorem dL_law_836 : decode cL_law 836 = .ok (.iload_n 3, 1) := by decide +kernel
theorem dL_law_837 : decode cL_law 837 = .ok (.iconst 2, 1) := by decide +kernel
theorem dL_law_838 : decode cL_law 838 = .ok (.iadd, 1) := by decide +kernel
theorem dL_law_839 : decode cL_law 839 = .ok (.iaload, 1) := by decide +kernel
theorem dL_law_840 : decode cL_law 840 = .ok (.invokevirtual 98, 3) := by decide +kernel
theorem dL_law_843 : decode cL_law 843 = .ok (.if_icmp .eq 496, 3) := by decide +kernel
theorem dL_law_846 : decode cL_law 846 = .ok (.iconst 0, 1) := by decide +kernel
theorem dL_law_847 : decode cL_law 847 = .ok (.ireturn, 1) := by decide +kernel
theorem dL_law_848 : decode cL_law 848 = .ok (.aload_n 1, 1) := by decide +kernel
theorem dL_law_849 : decode cL_law 849 = .ok (.aload_n 0, 1) := by decide +kernel
theorem dL_law_850 : decode cL_law 850 = .ok (.iload_n 3, 1) := by decide +kernel
theorem dL_law_851 : decode cL_law 851 = .ok (.iconst 1, 1) := by decide +kernel
theorem dL_law_852 : decode cL_law 852 = .ok (.iadd, 1) := by decide +kernel
theorem dL_law_853 : decode cL_law 853 = .ok (.iaload, 1) := by decide +kernel
theorem dL_law_854 : decode cL_law 854 = .ok (.aload_n 0, 1) := by decide +kernel
theorem dL_law_855 : decode cL_law 855 = .ok (.iload_n 3, 1) := by decide +kernel
theorem dL_law_856 : decode cL_law 856 = .ok (.iconst 2, 1) := by decide +kernel
theorem dL_law_857 : decode cL_law 857 = .ok (.iadd, 1) := by decide +kernel
theorem dL_law_858 : decode cL_law 858 = .ok (.iaload, 1) := by decide +kernel
theorem dL_law_859 : decode cL_law 859 = .ok (.invokevirtual 99, 3) := by decide +kernel
theorem dL_law_862 : decode cL_law 862 = .ok (.aload_n 2, 1) := by decide +kernel
theorem dL_law_863 : decode cL_law 863 = .ok (.aload_n 0, 1) := by decide +kernel
theorem dL_law_864 : decode cL_law 864 = .ok (.iload_n 3, 1) := by decide +kernel
theorem dL_law_865 : decode cL_law 865 = .ok (.iconst 1, 1) := by decide +kernel
theorem dL_law_866 : decode cL_law 866 = .ok (.iadd, 1) := by decide +kernel
theorem dL_law_867 : decode cL_law 867 = .ok (.iaload, 1) := by decide +kernel
theorem dL_law_868 : decode cL_law 868 = .ok (.aload_n 0, 1) := by decide +kernel
theorem dL_law_869 : decode cL_law 869 = .ok (.iload_n 3, 1) := by decide +kernel
theorem dL_law_870 : decode cL_law 870 = .ok (.iconst 2, 1) := by decide +kernel
theorem dL_law_871 : decode cL_law 871 = .ok (.iadd, 1) := by decide +kernel
theorem dL_law_872 : decode cL_law 872 = .ok (.iaload, 1) := by decide +kernel
theorem dL_law_873 : decode cL_law 873 = .ok (.invokevirtual 102, 3) := by decide +kernel
theorem dL_law_876 : decode cL_law 876 = .ok (.if_icmp .eq 463, 3) := by decide +kernel
theorem dL_law_879 : decode cL_law 879 = .ok (.iconst 0, 1) := by decide +kernel
theorem dL_law_880 : decode cL_law 880 = .ok (.ireturn, 1) := by decide +kernel
theorem dL_law_881 : decode cL_law 881 = .ok (.aload_n 1, 1) := by decide +kernel
theorem dL_law_882 : decode cL_law 882 = .ok (.aload_n 0, 1) := by decide +kernel
theorem dL_law_883 : decode cL_law 883 = .ok (.iload_n 3, 1) := by decide +kernel
theorem dL_law_884 : decode cL_law 884 = .ok (.iconst 1, 1) := by decide +kernel
theorem dL_law_885 : decode cL_law 885 = .ok (.iadd, 1) := by decide +kernel
theorem dL_law_886 : decode cL_law 886 = .ok (.iaload, 1) := by decide +kernel
theorem dL_law_887 : decode cL_law 887 = .ok (.invokevirtual 103, 3) := by decide +kernel
theorem dL_law_890 : decode cL_law 890 = .ok (.aload_n 2, 1) := by decide +kernel
theorem dL_law_891 : decode cL_law 891 = .ok (.aload_n 0, 1) := by decide +kernel
theorem dL_law_892 : decode cL_law 892 = .ok (.iload_n 3, 1) := by decide +kernel
theorem dL_law_893 : decode cL_law 893 = .ok (.iconst 1, 1) := by decide +kernel
theorem dL_law_894 : decode cL_law 894 = .ok (.iadd, 1) := by decide +kernel
theorem dL_law_895 : decode cL_law 895 = .ok (.iaload, 1) := by decide +kernel
theorem dL_law_896 : decode cL_law 896 = .ok (.invokevirtual 106, 3) := by decide +kernel
theorem dL_law_899 : decode cL_law 899 = .ok (.if_icmp .eq 440, 3) := by decide +kernel
theorem dL_law_902 : decode cL_law 902 = .ok (.iconst 0, 1) := by decide +kernel
theorem dL_law_903 : decode cL_law 903 = .ok (.ireturn, 1) := by decide +kernel
theorem dL_law_904 : decode cL_law 904 = .ok (.aload_n 1, 1) := by decide +kernel
theorem dL_law_905 : decode cL_law 905 = .ok (.aload_n 0, 1) := by decide +kernel
theorem dL_law_906 : decode cL_law 906 = .ok (.iload_n 3, 1) := by decide +kernel
theorem dL_law_907 : decode cL_law 907 = .ok (.iconst 1, 1) := by decide +kernel
theorem dL_law_908 : decode cL_law 908 = .ok (.iadd, 1) := by decide +kernel
theorem dL_law_909 : decode cL_law 909 = .ok (.iaload, 1) := by decide +kernel
theorem dL_law_910 : decode cL_law 910 = .ok (.aload_n 0, 1) := by decide +kernel
theorem dL_law_911 : decode cL_law 911 = .ok (.iload_n 3, 1) := by decide +kernel
theorem dL_law_912 : decode cL_law 912 = .ok (.iconst 2, 1) := by decide +kernel
theorem dL_law_913 : decode cL_law 913 = .ok (.iadd, 1) := by decide +kernel
theorem dL_law_914 : decode cL_law 914 = .ok (.iaload, 1) := by decide +kernel
theorem dL_law_915 : decode cL_law 915 = .ok (.aload_n 0, 1) := by decide +kernel
theorem dL_law_916 : decode cL_law 916 = .ok (.iload_n 3, 1) := by decide +kernel
theorem dL_law_917 : decode cL_law 917 = .ok (.iconst 3, 1) := by decide +kernel
theorem dL_law_918 : decode cL_law 918 = .ok (.iadd, 1) := by decide +kernel
theorem dL_law_919 : decode cL_law 919 = .ok (.iaload, 1) := by decide +kernel
theorem dL_law_920 : decode cL_law 920 = .ok (.invokevirtual 107, 3) := by decide +kernel
theorem dL_law_923 : decode cL_law 923 = .ok (.aload_n 2, 1) := by decide +kernel
theorem dL_law_924 : decode cL_law 924 = .ok (.aload_n 0, 1) := by decide +kernel
theorem dL_law_925 : decode cL_law 925 = .ok (.iload_n 3, 1) := by decide +kernel
theorem dL_law_926 : decode cL_law 926 = .ok (.iconst 1, 1) := by decide +kernel
theorem dL_law_927 : decode cL_law 927 = .ok (.iadd, 1) := by decide +kernel
theorem dL_law_928 : decode cL_law 928 = .ok (.iaload, 1) := by decide +kernel
theorem dL_law_929 : decode cL_law 929 = .ok (.aload_n 0, 1) := by decide +kernel
theorem dL_law_930 : decode cL_law 930 = .ok (.iload_n 3, 1) := by decide +kernel
theorem dL_law_931 : decode cL_law 931 = .ok (.iconst 2, 1) := by decide +kernel
theorem dL_law_932 : decode cL_law 932 = .ok (.iadd, 1) := by decide +kernel
theorem dL_law_933 : decode cL_law 933 = .ok (.iaload, 1) := by decide +kernel
theorem dL_law_934 : decode cL_law 934 = .ok (.aload_n 0, 1) := by decide +kernel
theorem dL_law_935 : decode cL_law 935 = .ok (.iload_n 3, 1) := by decide +kernel
theorem dL_law_936 : decode cL_law 936 = .ok (.iconst 3, 1) := by decide +kernel
theorem dL_law_937 : decode cL_law 937 = .ok (.iadd, 1) := by decide +kernel
theorem dL_law_938 : decode cL_law 938 = .ok (.iaload, 1) := by decide +kernel
theorem dL_law_939 : decode cL_law 939 = .ok (.invokevirtual 110, 3) := by decide +kernel
theorem dL_law_942 : decode cL_law 942 = .ok (.if_icmp .eq 397, 3) := by decide +kernel
theorem dL_law_945 : decode cL_law 945 = .ok (.iconst 0, 1) := by decide +kernel
theorem dL_law_946 : decode cL_law 946 = .ok (.ireturn, 1) := by decide +kernel
theorem dL_law_947 : decode cL_law 947 = .ok (.aload_n 1, 1) := by decide +kernel
theorem dL_law_948 : decode cL_law 948 = .ok (.aload_n 0, 1) := by decide +kernel
theorem dL_law_949 : decode cL_law 949 = .ok (.iload_n 3, 1) := by decide +kernel
theorem dL_law_950 : decode cL_law 950 = .ok (.iconst 1, 1) := by decide +kernel
theorem dL_law_951 : decode cL_law 951 = .ok (.iadd, 1) := by decide +kernel
theorem dL_law_952 : decode cL_law 952 = .ok (.iaload, 1) := by decide +kernel
theorem dL_law_953 : decode cL_law 953 = .ok (.invokevirtual 111, 3) := by decide +kernel
theorem dL_law_956 : decode cL_law 956 = .ok (.aload_n 2, 1) := by decide +kernel
theorem dL_law_957 : decode cL_law 957 = .ok (.aload_n 0, 1) := by decide +kernel
theorem dL_law_958 : decode cL_law 958 = .ok (.iload_n 3, 1) := by decide +kernel
theorem dL_law_959 : decode cL_law 959 = .ok (.iconst 1, 1) := by decide +kernel
theorem dL_law_960 : decode cL_law 960 = .ok (.iadd, 1) := by decide +kernel
theorem dL_law_961 : decode cL_law 961 = .ok (.iaload, 1) := by decide +kernel
theorem dL_law_962 : decode cL_law 962 = .ok (.invokevirtual 114, 3) := by decide +kernel
theorem dL_law_965 : decode cL_law 965 = .ok (.if_icmp .eq 374, 3) := by decide +kernel
theorem dL_law_968 : decode cL_law 968 = .ok (.iconst 0, 1) := by decide +kernel
theorem dL_law_969 : decode cL_law 969 = .ok (.ireturn, 1) := by decide +kernel
theorem dL_law_970 : decode cL_law 970 = .ok (.aload_n 1, 1) := by decide +kernel
theorem dL_law_971 : decode cL_law 971 = .ok (.aload_n 0, 1) := by decide +kernel
theorem dL_law_972 : decode cL_law 972 = .ok (.iload_n 3, 1) := by decide +kernel
theorem dL_law_973 : decode cL_law 973 = .ok (.iconst 1, 1) := by decide +kernel
theorem dL_law_974 : decode cL_law 974 = .ok (.iadd, 1) := by decide +kernel
theorem dL_law_975 : decode cL_law 975 = .ok (.iaload, 1) := by decide +kernel
theorem dL_law_976 : decode cL_law 976 = .ok (.aload_n 0, 1) := by decide +kernel
theorem dL_law_977 : decode cL_law 977 = .ok (.iload_n 3, 1) := by decide +kernel
theorem dL_law_978 : decode cL_law 978 = .ok (.iconst 2, 1) := by decide +kernel
theorem dL_law_979 : decode cL_law 979 = .ok (.iadd, 1) := by decide +kernel
theorem dL_law_980 : decode cL_law 980 = .ok (.iaload, 1) := by decide +kernel
theorem dL_law_981 : decode cL_law 981 = .ok (.invokevirtual 115, 3) := by decide +kernel
theorem dL_law_984 : decode cL_law 984 = .ok (.aload_n 2, 1) := by decide +kernel
theorem dL_law_985 : decode cL_law 985 = .ok (.aload_n 0, 1) := by decide +kernel
theorem dL_law_986 : decode cL_law 986 = .ok (.iload_n 3, 1) := by decide +kernel
theorem dL_law_987 : decode cL_law 987 = .ok (.iconst 1, 1) := by decide +kernel
theorem dL_law_988 : decode cL_law 988 = .ok (.iadd, 1) := by decide +kernel
theorem dL_law_989 : decode cL_law 989 = .ok (.iaload, 1) := by decide +kernel
theorem dL_law_990 : decode cL_law 990 = .ok (.aload_n 0, 1) := by decide +kernel
theorem dL_law_991 : decode cL_law 991 = .ok (.iload_n 3, 1) := by decide +kernel
theorem dL_law_992 : decode cL_law 992 = .ok (.iconst 2, 1) := by decide +kernel
theorem dL_law_993 : decode cL_law 993 = .ok (.iadd, 1) := by decide +kernel
theorem dL_law_994 : decode cL_law 994 = .ok (.iaload, 1) := by decide +kernel
theorem dL_law_995 : decode cL_law 995 = .ok (.invokevirtual 118, 3) := by decide +kernel
theorem dL_law_998 : decode cL_law 998 = .ok (.if_icmp .eq 341, 3) := by decide +kernel
theorem dL_law_1001 : decode cL_law 1001 = .ok (.iconst 0, 1) := by decide +kernel
theorem dL_law_1002 : decode cL_law 1002 = .ok (.ireturn, 1) := by decide +kernel
theorem dL_law_1003 : decode cL_law 1003 = .ok (.aload_n 1, 1) := by decide +kernel
theorem dL_law_1004 : decode cL_law 1004 = .ok (.aload_n 0, 1) := by decide +kernel
theorem dL_law_1005 : decode cL_law 1005 = .ok (.iload_n 3, 1) := by decide +kernel
theorem dL_law_1006 : decode cL_law 1006 = .ok (.iconst 1, 1) := by decide +kernel
theorem dL_law_1007 : decode cL_law 1007 = .ok (.iadd, 1) := by decide +kernel
theorem dL_law_1008 : decode cL_law 1008 = .ok (.iaload, 1) := by decide +kernel
theorem dL_law_1009 : decode cL_law 1009 = .ok (.invokevirtual 119, 3) := by decide +kernel
theorem dL_law_1012 : decode cL_law 1012 = .ok (.aload_n 2, 1) := by decide +kernel
theorem dL_law_1013 : decode cL_law 1013 = .ok (.aload_n 0, 1) := by decide +kernel
theorem dL_law_1014 : decode cL_law 1014 = .ok (.iload_n 3, 1) := by decide +kernel
theorem dL_law_1015 : decode cL_law 1015 = .ok (.iconst 1, 1) := by decide +kernel
theorem dL_law_1016 : decode cL_law 1016 = .ok (.iadd, 1) := by decide +kernel
theorem dL_law_1017 : decode cL_law 1017 = .ok (.iaload, 1) := by decide +kernel
theorem dL_law_1018 : decode cL_law 1018 = .ok (.invokevirtual 122, 3) := by decide +kernel
theorem dL_law_1021 : decode cL_law 1021 = .ok (.if_icmp .eq 318, 3) := by decide +kernel
theorem dL_law_1024 : decode cL_law 1024 = .ok (.iconst 0, 1) := by decide +kernel
theorem dL_law_1025 : decode cL_law 1025 = .ok (.ireturn, 1) := by decide +kernel
theorem dL_law_1026 : decode cL_law 1026 = .ok (.aload_n 1, 1) := by decide +kernel
theorem dL_law_1027 : decode cL_law 1027 = .ok (.aload_n 0, 1) := by decide +kernel
theorem dL_law_1028 : decode cL_law 1028 = .ok (.iload_n 3, 1) := by decide +kernel
theorem dL_law_1029 : decode cL_law 1029 = .ok (.iconst 1, 1) := by decide +kernel
theorem dL_law_1030 : decode cL_law 1030 = .ok (.iadd, 1) := by decide +kernel
theorem dL_law_1031 : decode cL_law 1031 = .ok (.iaload, 1) := by decide +kernel
theorem dL_law_1032 : decode cL_law 1032 = .ok (.aload_n 0, 1) := by decide +kernel
theorem dL_law_1033 : decode cL_law 1033 = .ok (.iload_n 3, 1) := by decide +kernel
theorem dL_law_1034 : decode cL_law 1034 = .ok (.iconst 2, 1) := by decide +kernel
theorem dL_law_1035 : decode cL_law 1035 = .ok (.iadd, 1) := by decide +kernel
theorem dL_law_1036 : decode cL_law 1036 = .ok (.iaload, 1) := by decide +kernel
theorem dL_law_1037 : decode cL_law 1037 = .ok (.aload_n 0, 1) := by decide +kernel
theorem dL_law_1038 : decode cL_law 1038 = .ok (.iload_n 3, 1) := by decide +kernel
theorem dL_law_1039 : decode cL_law 1039 = .ok (.iconst 3, 1) := by decide +kernel
theorem dL_law_1040 : decode cL_law 1040 = .ok (.iadd, 1) := by decide +kernel
theorem dL_law_1041 : decode cL_law 1041 = .ok (.iaload, 1) := by decide +kernel
theorem dL_law_1042 : decode cL_law 1042 = .ok (.aload_n 0, 1) := by decide +kernel
theorem dL_law_1043 : decode cL_law 1043 = .ok (.iload_n 3, 1) := by decide +kernel
theorem dL_law_1044 : decode cL_law 1044 = .ok (.iconst 4, 1) := by decide +kernel
theorem dL_law_1045 : decode cL_law 1045 = .ok (.iadd, 1) := by decide +kernel
theorem dL_law_1046 : decode cL_law 1046 = .ok (.iaload, 1) := by decide +kernel
theorem dL_law_1047 : decode cL_law 1047 = .ok (.aload_n 0, 1) := by decide +kernel
theorem dL_law_1048 : decode cL_law 1048 = .ok (.iload_n 3, 1) := by decide +kernel
theorem dL_law_1049 : decode cL_law 1049 = .ok (.iconst 5, 1) := by decide +kernel
theorem dL_law_1050 : decode cL_law 1050 = .ok (.iadd, 1) := by decide +kernel
theorem dL_law_1051 : decode cL_law 1051 = .ok (.iaload, 1) := by decide +kernel
theorem dL_law_1052 : decode cL_law 1052 = .ok (.invokevirtual 123, 3) := by decide +kernel
theorem dL_law_1055 : decode cL_law 1055 = .ok (.aload_n 2, 1) := by decide +kernel
theorem dL_law_1056 : decode cL_law 1056 = .ok (.aload_n 0, 1) := by decide +kernel
theorem dL_law_1057 : decode cL_law 1057 = .ok (.iload_n 3, 1) := by decide +kernel
theorem dL_law_1058 : decode cL_law 1058 = .ok (.iconst 1, 1) := by decide +kernel
theorem dL_law_1059 : decode cL_law 1059 = .ok (.iadd, 1) := by decide +kernel
theorem dL_law_1060 : decode cL_law 1060 = .ok (.iaload, 1) := by decide +kernel
theorem dL_law_1061 : decode cL_law 1061 = .ok (.aload_n 0, 1) := by decide +kernel
theorem dL_law_1062 : decode cL_law 1062 = .ok (.iload_n 3, 1) := by decide +kernel
theorem dL_law_1063 : decode cL_law 1063 = .ok (.iconst 2, 1) := by decide +kernel
theorem dL_law_1064 : decode cL_law 1064 = .ok (.iadd, 1) := by decide +kernel
theorem dL_law_1065 : decode cL_law 1065 = .ok (.iaload, 1) := by decide +kernel
theorem dL_law_1066 : decode cL_law 1066 = .ok (.aload_n 0, 1) := by decide +kernel
theorem dL_law_1067 : decode cL_law 1067 = .ok (.iload_n 3, 1) := by decide +kernel
theorem dL_law_1068 : decode cL_law 1068 = .ok (.iconst 3, 1) := by decide +kernel
theorem dL_law_1069 : decode cL_law 1069 = .ok (.iadd, 1) := by decide +kernel
theorem dL_law_1070 : decode cL_law 1070 = .ok (.iaload, 1) := by decide +kernel
theorem dL_law_1071 : decode cL_law 1071 = .ok (.aload_n 0, 1) := by decide +kernel
theorem dL_law_1072 : decode cL_law 1072 = .ok (.iload_n 3, 1) := by decide +kernel
theorem dL_law_1073 : decode cL_law 1073 = .ok (.iconst 4, 1) := by decide +kernel
theorem dL_law_1074 : decode cL_law 1074 = .ok (.iadd, 1) := by decide +kernel
theorem dL_law_1075 : decode cL_law 1075 = .ok (.iaload, 1) := by decide +kernel
theorem dL_law_1076 : decode cL_law 1076 = .ok (.aload_n 0, 1) := by decide +kernel
theorem dL_law_1077 : decode cL_law 1077 = .ok (.iload_n 3, 1) := by decide +kernel
theorem dL_law_1078 : decode cL_law 1078 = .ok (.iconst 5, 1) := by decide +kernel
theorem dL_law_1079 : decode cL_law 1079 = .ok (.iadd, 1) := by decide +kernel
theorem dL_law_1080 : decode cL_law 1080 = .ok (.iaload, 1) := by decide +kernel
theorem dL_law_1081 : decode cL_law 1081 = .ok (.invokevirtual 126, 3) := by decide +kernel
theorem dL_law_1084 : decode cL_law 1084 = .ok (.if_icmp .eq 255, 3) := by decide +kernel
theorem dL_law_1087 : decode cL_law 1087 = .ok (.iconst 0, 1) := by decide +kernel
theorem dL_law_1088 : decode cL_law 1088 = .ok (.ireturn, 1) := by decide +kernel
theorem dL_law_1089 : decode cL_law 1089 = .ok (.aload_n 1, 1) := by decide +kernel
theorem dL_law_1090 : decode cL_law 1090 = .ok (.aload_n 0, 1) := by decide +kernel
theorem dL_law_1091 : decode cL_law 1091 = .ok (.iload_n 3, 1) := by decide +kernel
theorem dL_law_1092 : decode cL_law 1092 = .ok (.iconst 1, 1) := by decide +kernel
theorem dL_law_1093 : decode cL_law 1093 = .ok (.iadd, 1) := by decide +kernel
theorem dL_law_1094 : decode cL_law 1094 = .ok (.iaload, 1) := by decide +kernel
theorem dL_law_1095 : decode cL_law 1095 = .ok (.aload_n 0, 1) := by decide +kernel
theorem dL_law_1096 : decode cL_law 1096 = .ok (.iload_n 3, 1) := by decide +kernel
theorem dL_law_1097 : decode cL_law 1097 = .ok (.iconst 2, 1) := by decide +kernel
theorem dL_law_1098 : decode cL_law 1098 = .ok (.iadd, 1) := by decide +kernel
theorem dL_law_1099 : decode cL_law 1099 = .ok (.iaload, 1) := by decide +kernel
theorem dL_law_1100 : decode cL_law 1100 = .ok (.aload_n 0, 1) := by decide +kernel
theorem dL_law_1101 : decode cL_law 1101 = .ok (.iload_n 3, 1) := by decide +kernel
theorem dL_law_1102 : decode cL_law 1102 = .ok (.iconst 3, 1) := by decide +kernel
theorem dL_law_1103 : decode cL_law 1103 = .ok (.iadd, 1) := by decide +kernel
theorem dL_law_1104 : decode cL_law 1104 = .ok (.iaload, 1) := by decide +kernel
theorem dL_law_1105 : decode cL_law 1105 = .ok (.aload_n 0, 1) := by decide +kernel
theorem dL_law_1106 : decode cL_law 1106 = .ok (.iload_n 3, 1) := by decide +kernel
theorem dL_law_1107 : decode cL_law 1107 = .ok (.iconst 4, 1) := by decide +kernel
theorem dL_law_1108 : decode cL_law 1108 = .ok (.iadd, 1) := by decide +kernel
theorem dL_law_1109 : decode cL_law 1109 = .ok (.iaload, 1) := by decide +kernel
theorem dL_law_1110 : decode cL_law 1110 = .ok (.aload_n 0, 1) := by decide +kernel
theorem dL_law_1111 : decode cL_law 1111 = .ok (.iload_n 3, 1) := by decide +kernel
theorem dL_law_1112 : decode cL_law 1112 = .ok (.iconst 5, 1) := by decide +kernel
theorem dL_law_1113 : decode cL_law 1113 = .ok (.iadd, 1) := by decide +kernel
theorem dL_law_1114 : decode cL_law 1114 = .ok (.iaload, 1) := by decide +kernel
theorem dL_law_1115 : decode cL_law 1115 = .ok (.aload_n 0, 1) := by decide +kernel
theorem dL_law_1116 : decode cL_law 1116 = .ok (.iload_n 3, 1) := by decide +kernel
theorem dL_law_1117 : decode cL_law 1117 = .ok (.bipush 6, 2) := by decide +kernel
theorem dL_law_1119 : decode cL_law 1119 = .ok (.iadd, 1) := by decide +kernel
theorem dL_law_1120 : decode cL_law 1120 = .ok (.iaload, 1) := by decide +kernel
theorem dL_law_1121 : decode cL_law 1121 = .ok (.aload_n 0, 1) := by decide +kernel
theorem dL_law_1122 : decode cL_law 1122 = .ok (.iload_n 3, 1) := by decide +kernel
theorem dL_law_1123 : decode cL_law 1123 = .ok (.bipush 7, 2) := by decide +kernel
theorem dL_law_1125 : decode cL_law 1125 = .ok (.iadd, 1) := by decide +kernel
theorem dL_law_1126 : decode cL_law 1126 = .ok (.iaload, 1) := by decide +kernel
theorem dL_law_1127 : decode cL_law 1127 = .ok (.invokevirtual 127, 3) := by decide +kernel
theorem dL_law_1130 : decode cL_law 1130 = .ok (.aload_n 2, 1) := by decide +kernel
theorem dL_law_1131 : decode cL_law 1131 = .ok (.aload_n 0, 1) := by decide +kernel
theorem dL_law_1132 : decode cL_law 1132 = .ok (.iload_n 3, 1) := by decide +kernel
theorem dL_law_1133 : decode cL_law 1133 = .ok (.iconst 1, 1) := by decide +kernel
theorem dL_law_1134 : decode cL_law 1134 = .ok (.iadd, 1) := by decide +kernel
theorem dL_law_1135 : decode cL_law 1135 = .ok (.iaload, 1) := by decide +kernel
theorem dL_law_1136 : decode cL_law 1136 = .ok (.aload_n 0, 1) := by decide +kernel
theorem dL_law_1137 : decode cL_law 1137 = .ok (.iload_n 3, 1) := by decide +kernel
theorem dL_law_1138 : decode cL_law 1138 = .ok (.iconst 2, 1) := by decide +kernel
theorem dL_law_1139 : decode cL_law 1139 = .ok (.iadd, 1) := by decide +kernel
theorem dL_law_1140 : decode cL_law 1140 = .ok (.iaload, 1) := by decide +kernel
theorem dL_law_1141 : decode cL_law 1141 = .ok (.aload_n 0, 1) := by decide +kernel
theorem dL_law_1142 : decode cL_law 1142 = .ok (.iload_n 3, 1) := by decide +kernel
theorem dL_law_1143 : decode cL_law 1143 = .ok (.iconst 3, 1) := by decide +kernel
theorem dL_law_1144 : decode cL_law 1144 = .ok (.iadd, 1) := by decide +kernel
theorem dL_law_1145 : decode cL_law 1145 = .ok (.iaload, 1) := by decide +kernel
theorem dL_law_1146 : decode cL_law 1146 = .ok (.aload_n 0, 1) := by decide +kernel
theorem dL_law_1147 : decode cL_law 1147 = .ok (.iload_n 3, 1) := by decide +kernel
theorem dL_law_1148 : decode cL_law 1148 = .ok (.iconst 4, 1) := by decide +kernel
theorem dL_law_1149 : decode cL_law 1149 = .ok (.iadd, 1) := by decide +kernel
theorem dL_law_1150 : decode cL_law 1150 = .ok (.iaload, 1) := by decide +kernel
theorem dL_law_1151 : decode cL_law 1151 = .ok (.aload_n 0, 1) := by decide +kernel
theorem dL_law_1152 : decode cL_law 1152 = .ok (.iload_n 3, 1) := by decide +kernel
theorem dL_law_1153 : decode cL_law 1153 = .ok (.iconst 5, 1) := by decide +kernel
theorem dL_law_1154 : decode cL_law 1154 = .ok (.iadd, 1) := by decide +kernel
theorem dL_law_1155 : decode cL_law 1155 = .ok (.iaload, 1) := by decide +kernel
theorem dL_law_1156 : decode cL_law 1156 = .ok (.aload_n 0, 1) := by decide +kernel
theorem dL_law_1157 : decode cL_law 1157 = .ok (.iload_n 3, 1) := by decide +kernel
theorem dL_law_1158 : decode cL_law 1158 = .ok (.bipush 6, 2) := by decide +kernel
theorem dL_law_1160 : decode cL_law 1160 = .ok (.iadd, 1) := by decide +kernel
theorem dL_law_1161 : decode cL_law 1161 = .ok (.iaload, 1) := by decide +kernel
theorem dL_law_1162 : decode cL_law 1162 = .ok (.aload_n 0, 1) := by decide +kernel
theorem dL_law_1163 : decode cL_law 1163 = .ok (.iload_n 3, 1) := by decide +kernel
theorem dL_law_1164 : decode cL_law 1164 = .ok (.bipush 7, 2) := by decide +kernel
theorem dL_law_1166 : decode cL_law 1166 = .ok (.iadd, 1) := by decide +kernel
theorem dL_law_1167 : decode cL_law 1167 = .ok (.iaload, 1) := by decide +kernel
theorem dL_law_1168 : decode cL_law 1168 = .ok (.invokevirtual 131, 3) := by decide +kernel
theorem dL_law_1171 : decode cL_law 1171 = .ok (.if_icmp .eq 168, 3) := by decide +kernel
theorem dL_law_1174 : decode cL_law 1174 = .ok (.iconst 0, 1) := by decide +kernel
theorem dL_law_1175 : decode cL_law 1175 = .ok (.ireturn, 1) := by decide +kernel
theorem dL_law_1176 : decode cL_law 1176 = .ok (.aload_n 1, 1) := by decide +kernel
theorem dL_law_1177 : decode cL_law 1177 = .ok (.aload_n 0, 1) := by decide +kernel
theorem dL_law_1178 : decode cL_law 1178 = .ok (.iload_n 3, 1) := by decide +kernel
theorem dL_law_1179 : decode cL_law 1179 = .ok (.iconst 1, 1) := by decide +kernel
theorem dL_law_1180 : decode cL_law 1180 = .ok (.iadd, 1) := by decide +kernel
theorem dL_law_1181 : decode cL_law 1181 = .ok (.iaload, 1) := by decide +kernel
theorem dL_law_1182 : decode cL_law 1182 = .ok (.aload_n 0, 1) := by decide +kernel
theorem dL_law_1183 : decode cL_law 1183 = .ok (.iload_n 3, 1) := by decide +kernel
theorem dL_law_1184 : decode cL_law 1184 = .ok (.iconst 2, 1) := by decide +kernel
theorem dL_law_1185 : decode cL_law 1185 = .ok (.iadd, 1) := by decide +kernel
theorem dL_law_1186 : decode cL_law 1186 = .ok (.iaload, 1) := by decide +kernel
theorem dL_law_1187 : decode cL_law 1187 = .ok (.invokevirtual 132, 3) := by decide +kernel
theorem dL_law_1190 : decode cL_law 1190 = .ok (.aload_n 2, 1) := by decide +kernel
theorem dL_law_1191 : decode cL_law 1191 = .ok (.aload_n 0, 1) := by decide +kernel
theorem dL_law_1192 : decode cL_law 1192 = .ok (.iload_n 3, 1) := by decide +kernel
theorem dL_law_1193 : decode cL_law 1193 = .ok (.iconst 1, 1) := by decide +kernel
theorem dL_law_1194 : decode cL_law 1194 = .ok (.iadd, 1) := by decide +kernel
theorem dL_law_1195 : decode cL_law 1195 = .ok (.iaload, 1) := by decide +kernel
theorem dL_law_1196 : decode cL_law 1196 = .ok (.aload_n 0, 1) := by decide +kernel
theorem dL_law_1197 : decode cL_law 1197 = .ok (.iload_n 3, 1) := by decide +kernel
theorem dL_law_1198 : decode cL_law 1198 = .ok (.iconst 2, 1) := by decide +kernel
theorem dL_law_1199 : decode cL_law 1199 = .ok (.iadd, 1) := by decide +kernel
theorem dL_law_1200 : decode cL_law 1200 = .ok (.iaload, 1) := by decide +kernel
theorem dL_law_1201 : decode cL_law 1201 = .ok (.invokevirtual 135, 3) := by decide +kernel
theorem dL_law_1204 : decode cL_law 1204 = .ok (.if_icmp .eq 135, 3) := by decide +kernel
theorem dL_law_1207 : decode cL_law 1207 = .ok (.iconst 0, 1) := by decide +kernel
theorem dL_law_1208 : decode cL_law 1208 = .ok (.ireturn, 1) := by decide +kernel
theorem dL_law_1209 : decode cL_law 1209 = .ok (.aload_n 1, 1) := by decide +kernel
theorem dL_law_1210 : decode cL_law 1210 = .ok (.aload_n 0, 1) := by decide +kernel
theorem dL_law_1211 : decode cL_law 1211 = .ok (.iload_n 3, 1) := by decide +kernel
theorem dL_law_1212 : decode cL_law 1212 = .ok (.iconst 1, 1) := by decide +kernel
theorem dL_law_1213 : decode cL_law 1213 = .ok (.iadd, 1) := by decide +kernel
theorem dL_law_1214 : decode cL_law 1214 = .ok (.iaload, 1) := by decide +kernel
theorem dL_law_1215 : decode cL_law 1215 = .ok (.invokevirtual 136, 3) := by decide +kernel
theorem dL_law_1218 : decode cL_law 1218 = .ok (.aload_n 2, 1) := by decide +kernel
theorem dL_law_1219 : decode cL_law 1219 = .ok (.aload_n 0, 1) := by decide +kernel
theorem dL_law_1220 : decode cL_law 1220 = .ok (.iload_n 3, 1) := by decide +kernel
theorem dL_law_1221 : decode cL_law 1221 = .ok (.iconst 1, 1) := by decide +kernel
theorem dL_law_1222 : decode cL_law 1222 = .ok (.iadd, 1) := by decide +kernel
theorem dL_law_1223 : decode cL_law 1223 = .ok (.iaload, 1) := by decide +kernel
theorem dL_law_1224 : decode cL_law 1224 = .ok (.invokevirtual 140, 3) := by decide +kernel
theorem dL_law_1227 : decode cL_law 1227 = .ok (.lcmp, 1) := by decide +kernel
theorem dL_law_1228 : decode cL_law 1228 = .ok (.ifCond .eq 111, 3) := by decide +kernel
theorem dL_law_1231 : decode cL_law 1231 = .ok (.iconst 0, 1) := by decide +kernel
theorem dL_law_1232 : decode cL_law 1232 = .ok (.ireturn, 1) := by decide +kernel
theorem dL_law_1233 : decode cL_law 1233 = .ok (.aload_n 1, 1) := by decide +kernel
theorem dL_law_1234 : decode cL_law 1234 = .ok (.aload_n 0, 1) := by decide +kernel
theorem dL_law_1235 : decode cL_law 1235 = .ok (.iload_n 3, 1) := by decide +kernel
theorem dL_law_1236 : decode cL_law 1236 = .ok (.iconst 1, 1) := by decide +kernel
theorem dL_law_1237 : decode cL_law 1237 = .ok (.iadd, 1) := by decide +kernel
theorem dL_law_1238 : decode cL_law 1238 = .ok (.iaload, 1) := by decide +kernel
theorem dL_law_1239 : decode cL_law 1239 = .ok (.invokevirtual 141, 3) := by decide +kernel
theorem dL_law_1242 : decode cL_law 1242 = .ok (.aload_n 2, 1) := by decide +kernel
theorem dL_law_1243 : decode cL_law 1243 = .ok (.aload_n 0, 1) := by decide +kernel
theorem dL_law_1244 : decode cL_law 1244 = .ok (.iload_n 3, 1) := by decide +kernel
theorem dL_law_1245 : decode cL_law 1245 = .ok (.iconst 1, 1) := by decide +kernel
theorem dL_law_1246 : decode cL_law 1246 = .ok (.iadd, 1) := by decide +kernel
theorem dL_law_1247 : decode cL_law 1247 = .ok (.iaload, 1) := by decide +kernel
theorem dL_law_1248 : decode cL_law 1248 = .ok (.invokevirtual 144, 3) := by decide +kernel
theorem dL_law_1251 : decode cL_law 1251 = .ok (.if_icmp .eq 88, 3) := by decide +kernel
theorem dL_law_1254 : decode cL_law 1254 = .ok (.iconst 0, 1) := by decide +kernel
theorem dL_law_1255 : decode cL_law 1255 = .ok (.ireturn, 1) := by decide +kernel
theorem dL_law_1256 : decode cL_law 1256 = .ok (.aload_n 1, 1) := by decide +kernel
theorem dL_law_1257 : decode cL_law 1257 = .ok (.aload_n 0, 1) := by decide +kernel
theorem dL_law_1258 : decode cL_law 1258 = .ok (.iload_n 3, 1) := by decide +kernel
theorem dL_law_1259 : decode cL_law 1259 = .ok (.iconst 1, 1) := by decide +kernel
theorem dL_law_1260 : decode cL_law 1260 = .ok (.iadd, 1) := by decide +kernel
theorem dL_law_1261 : decode cL_law 1261 = .ok (.iaload, 1) := by decide +kernel
theorem dL_law_1262 : decode cL_law 1262 = .ok (.invokevirtual 145, 3) := by decide +kernel
theorem dL_law_1265 : decode cL_law 1265 = .ok (.aload_n 2, 1) := by decide +kernel
theorem dL_law_1266 : decode cL_law 1266 = .ok (.aload_n 0, 1) := by decide +kernel
theorem dL_law_1267 : decode cL_law 1267 = .ok (.iload_n 3, 1) := by decide +kernel
theorem dL_law_1268 : decode cL_law 1268 = .ok (.iconst 1, 1) := by decide +kernel
theorem dL_law_1269 : decode cL_law 1269 = .ok (.iadd, 1) := by decide +kernel
theorem dL_law_1270 : decode cL_law 1270 = .ok (.iaload, 1) := by decide +kernel
theorem dL_law_1271 : decode cL_law 1271 = .ok (.invokevirtual 148, 3) := by decide +kernel
theorem dL_law_1274 : decode cL_law 1274 = .ok (.if_icmp .eq 65, 3) := by decide +kernel
theorem dL_law_1277 : decode cL_law 1277 = .ok (.iconst 0, 1) := by decide +kernel
theorem dL_law_1278 : decode cL_law 1278 = .ok (.ireturn, 1) := by decide +kernel
theorem dL_law_1279 : decode cL_law 1279 = .ok (.aload_n 1, 1) := by decide +kernel
theorem dL_law_1280 : decode cL_law 1280 = .ok (.aload_n 0, 1) := by decide +kernel
theorem dL_law_1281 : decode cL_law 1281 = .ok (.iload_n 3, 1) := by decide +kernel
theorem dL_law_1282 : decode cL_law 1282 = .ok (.iconst 1, 1) := by decide +kernel
theorem dL_law_1283 : decode cL_law 1283 = .ok (.iadd, 1) := by decide +kernel
theorem dL_law_1284 : decode cL_law 1284 = .ok (.iaload, 1) := by decide +kernel
theorem dL_law_1285 : decode cL_law 1285 = .ok (.invokevirtual 149, 3) := by decide +kernel
theorem dL_law_1288 : decode cL_law 1288 = .ok (.aload_n 2, 1) := by decide +kernel
theorem dL_law_1289 : decode cL_law 1289 = .ok (.aload_n 0, 1) := by decide +kernel
theorem dL_law_1290 : decode cL_law 1290 = .ok (.iload_n 3, 1) := by decide +kernel
theorem dL_law_1291 : decode cL_law 1291 = .ok (.iconst 1, 1) := by decide +kernel
theorem dL_law_1292 : decode cL_law 1292 = .ok (.iadd, 1) := by decide +kernel
theorem dL_law_1293 : decode cL_law 1293 = .ok (.iaload, 1) := by decide +kernel
theorem dL_law_1294 : decode cL_law 1294 = .ok (.invokevirtual 152, 3) := by decide +kernel
theorem dL_law_1297 : decode cL_law 1297 = .ok (.if_icmp .eq 42, 3) := by decide +kernel
theorem dL_law_1300 : decode cL_law 1300 = .ok (.iconst 0, 1) := by decide +kernel
theorem dL_law_1301 : decode cL_law 1301 = .ok (.ireturn, 1) := by decide +kernel
theorem dL_law_1302 : decode cL_law 1302 = .ok (.aload_n 1, 1) := by decide +kernel
theorem dL_law_1303 : decode cL_law 1303 = .ok (.aload_n 0, 1) := by decide +kernel
theorem dL_law_1304 : decode cL_law 1304 = .ok (.iload_n 3, 1) := by decide +kernel
theorem dL_law_1305 : decode cL_law 1305 = .ok (.iconst 1, 1) := by decide +kernel
theorem dL_law_1306 : decode cL_law 1306 = .ok (.iadd, 1) := by decide +kernel
theorem dL_law_1307 : decode cL_law 1307 = .ok (.iaload, 1) := by decide +kernel
theorem dL_law_1308 : decode cL_law 1308 = .ok (.invokevirtual 153, 3) := by decide +kernel
theorem dL_law_1311 : decode cL_law 1311 = .ok (.aload_n 2, 1) := by decide +kernel
theorem dL_law_1312 : decode cL_law 1312 = .ok (.aload_n 0, 1) := by decide +kernel
theorem dL_law_1313 : decode cL_law 1313 = .ok (.iload_n 3, 1) := by decide +kernel
theorem dL_law_1314 : decode cL_law 1314 = .ok (.iconst 1, 1) := by decide +kernel
theorem dL_law_1315 : decode cL_law 1315 = .ok (.iadd, 1) := by decide +kernel
theorem dL_law_1316 : decode cL_law 1316 = .ok (.iaload, 1) := by decide +kernel
theorem dL_law_1317 : decode cL_law 1317 = .ok (.invokevirtual 156, 3) := by decide +kernel
theorem dL_law_1320 : decode cL_law 1320 = .ok (.if_icmp .eq 19, 3) := by decide +kernel
theorem dL_law_1323 : decode cL_law 1323 = .ok (.iconst 0, 1) := by decide +kernel
theorem dL_law_1324 : decode cL_law 1324 = .ok (.ireturn, 1) := by decide +kernel
theorem dL_law_1325 : decode cL_law 1325 = .ok (.aload_n 1, 1) := by decide +kernel
theorem dL_law_1326 : decode cL_law 1326 = .ok (.invokevirtual 157, 3) := by decide +kernel
theorem dL_law_1329 : decode cL_law 1329 = .ok (.aload_n 2, 1) := by decide +kernel
theorem dL_law_1330 : decode cL_law 1330 = .ok (.invokevirtual 161, 3) := by decide +kernel
theorem dL_law_1333 : decode cL_law 1333 = .ok (.lcmp, 1) := by decide +kernel
theorem dL_law_1334 : decode cL_law 1334 = .ok (.ifCond .eq 5, 3) := by decide +kernel
theorem dL_law_1337 : decode cL_law 1337 = .ok (.iconst 0, 1) := by decide +kernel
theorem dL_law_1338 : decode cL_law 1338 = .ok (.ireturn, 1) := by decide +kernel
theorem dL_law_1339 : decode cL_law 1339 = .ok (.iinc 3 8, 3) := by decide +kernel
theorem dL_law_1342 : decode cL_law 1342 = .ok (.goto (-1324), 3) := by decide +kernel
theorem dL_law_1345 : decode cL_law 1345 = .ok (.iconst 1, 1) := by decide +kernel
theorem dL_law_1346 : decode cL_law 1346 = .ok (.ireturn, 1) := by decide +kernel
end
