section
-- ===== PART A: goes FIRST, ahead of the names: the tables' words, and 'selects' of the private methods out of them =====
/-- a private method of a class that the tables say can be made, by its rows of tables_1 -/
def lw_okq (q : MethodName × Nat) : Prop := (q.1.cls ≠ "java/lang/invoke/MethodHandle" ∧ q.1.cls ≠ "java/lang/invoke/VarHandle") ∧ Cond.instantiable q.1.cls q.2 ∈ tables_1 ∧ Cond.privateMethod q.1 ∈ tables_1 ∧ Cond.instanceMethod q.1 ∈ tables_1
theorem lw_p0 : lw_okq (⟨"TaleTypes", "beginDeed", "()V"⟩, 10) := ⟨⟨by decide +kernel, by decide +kernel⟩, List.mem_of_getElem? (i := 14) (by decide +kernel), List.mem_of_getElem? (i := 256) (by decide +kernel), List.mem_of_getElem? (i := 257) (by decide +kernel)⟩
theorem lw_p1 : lw_okq (⟨"TaleTypes", "nodeCount", "()I"⟩, 10) := ⟨⟨by decide +kernel, by decide +kernel⟩, List.mem_of_getElem? (i := 14) (by decide +kernel), List.mem_of_getElem? (i := 282) (by decide +kernel), List.mem_of_getElem? (i := 283) (by decide +kernel)⟩
theorem lw_p2 : lw_okq (⟨"TaleTypes", "likeTyped", "()I"⟩, 10) := ⟨⟨by decide +kernel, by decide +kernel⟩, List.mem_of_getElem? (i := 14) (by decide +kernel), List.mem_of_getElem? (i := 286) (by decide +kernel), List.mem_of_getElem? (i := 287) (by decide +kernel)⟩
theorem lw_p3 : lw_okq (⟨"TaleTypes$Lineup", "leastFrom", "(II)I"⟩, 9) := ⟨⟨by decide +kernel, by decide +kernel⟩, List.mem_of_getElem? (i := 98) (by decide +kernel), List.mem_of_getElem? (i := 303) (by decide +kernel), List.mem_of_getElem? (i := 304) (by decide +kernel)⟩
theorem lw_p4 : lw_okq (⟨"TaleTypes$Lineup", "sumThrough", "(III)I"⟩, 9) := ⟨⟨by decide +kernel, by decide +kernel⟩, List.mem_of_getElem? (i := 98) (by decide +kernel), List.mem_of_getElem? (i := 308) (by decide +kernel), List.mem_of_getElem? (i := 309) (by decide +kernel)⟩
theorem lw_p5 : lw_okq (⟨"TaleTypes$Lineup", "isTurned", "(II)Z"⟩, 9) := ⟨⟨by decide +kernel, by decide +kernel⟩, List.mem_of_getElem? (i := 98) (by decide +kernel), List.mem_of_getElem? (i := 319) (by decide +kernel), List.mem_of_getElem? (i := 320) (by decide +kernel)⟩
theorem lw_p6 : lw_okq (⟨"TaleTypes", "allTales", "()I"⟩, 10) := ⟨⟨by decide +kernel, by decide +kernel⟩, List.mem_of_getElem? (i := 14) (by decide +kernel), List.mem_of_getElem? (i := 327) (by decide +kernel), List.mem_of_getElem? (i := 328) (by decide +kernel)⟩
theorem lw_p7 : lw_okq (⟨"TaleTypes", "measureAnew", "()V"⟩, 10) := ⟨⟨by decide +kernel, by decide +kernel⟩, List.mem_of_getElem? (i := 14) (by decide +kernel), List.mem_of_getElem? (i := 339) (by decide +kernel), List.mem_of_getElem? (i := 340) (by decide +kernel)⟩
theorem lw_p8 : lw_okq (⟨"TaleTypes$Tree", "findNearest", "(LTaleTypes$Distances;II)V"⟩, 11) := ⟨⟨by decide +kernel, by decide +kernel⟩, List.mem_of_getElem? (i := 142) (by decide +kernel), List.mem_of_getElem? (i := 353) (by decide +kernel), List.mem_of_getElem? (i := 354) (by decide +kernel)⟩
theorem lw_p9 : lw_okq (⟨"TaleTypes$Tree", "compareTypes", "(LTaleTypes$Distances;III)V"⟩, 11) := ⟨⟨by decide +kernel, by decide +kernel⟩, List.mem_of_getElem? (i := 142) (by decide +kernel), List.mem_of_getElem? (i := 357) (by decide +kernel), List.mem_of_getElem? (i := 358) (by decide +kernel)⟩
theorem lw_p10 : lw_okq (⟨"TaleTypes$Tree", "joinNearest", "(I)V"⟩, 11) := ⟨⟨by decide +kernel, by decide +kernel⟩, List.mem_of_getElem? (i := 142) (by decide +kernel), List.mem_of_getElem? (i := 376) (by decide +kernel), List.mem_of_getElem? (i := 377) (by decide +kernel)⟩
theorem lw_p11 : lw_okq (⟨"TaleTypes", "isTale", "(I)Z"⟩, 10) := ⟨⟨by decide +kernel, by decide +kernel⟩, List.mem_of_getElem? (i := 14) (by decide +kernel), List.mem_of_getElem? (i := 389) (by decide +kernel), List.mem_of_getElem? (i := 390) (by decide +kernel)⟩
theorem lw_p12 : lw_okq (⟨"TaleTypes$Lineup", "rowsFrom", "(II)I"⟩, 9) := ⟨⟨by decide +kernel, by decide +kernel⟩, List.mem_of_getElem? (i := 98) (by decide +kernel), List.mem_of_getElem? (i := 420) (by decide +kernel), List.mem_of_getElem? (i := 421) (by decide +kernel)⟩
theorem lw_p13 : lw_okq (⟨"TaleTypes$Lineup", "leastStep", "(II)I"⟩, 9) := ⟨⟨by decide +kernel, by decide +kernel⟩, List.mem_of_getElem? (i := 98) (by decide +kernel), List.mem_of_getElem? (i := 428) (by decide +kernel), List.mem_of_getElem? (i := 429) (by decide +kernel)⟩
theorem lw_p14 : lw_okq (⟨"TaleTypes$Lineup", "sharedFrom", "(II)I"⟩, 9) := ⟨⟨by decide +kernel, by decide +kernel⟩, List.mem_of_getElem? (i := 98) (by decide +kernel), List.mem_of_getElem? (i := 436) (by decide +kernel), List.mem_of_getElem? (i := 437) (by decide +kernel)⟩
theorem lw_p15 : lw_okq (⟨"TaleTypes$Distances", "sumTo", "(II)I"⟩, 1) := ⟨⟨by decide +kernel, by decide +kernel⟩, List.mem_of_getElem? (i := 132) (by decide +kernel), List.mem_of_getElem? (i := 458) (by decide +kernel), List.mem_of_getElem? (i := 459) (by decide +kernel)⟩
def lw_privs_1 : List (MethodName × Nat) := [(⟨"TaleTypes", "beginDeed", "()V"⟩, 10), (⟨"TaleTypes", "nodeCount", "()I"⟩, 10), (⟨"TaleTypes", "likeTyped", "()I"⟩, 10), (⟨"TaleTypes$Lineup", "leastFrom", "(II)I"⟩, 9), (⟨"TaleTypes$Lineup", "sumThrough", "(III)I"⟩, 9), (⟨"TaleTypes$Lineup", "isTurned", "(II)Z"⟩, 9), (⟨"TaleTypes", "allTales", "()I"⟩, 10), (⟨"TaleTypes", "measureAnew", "()V"⟩, 10), (⟨"TaleTypes$Tree", "findNearest", "(LTaleTypes$Distances;II)V"⟩, 11), (⟨"TaleTypes$Tree", "compareTypes", "(LTaleTypes$Distances;III)V"⟩, 11), (⟨"TaleTypes$Tree", "joinNearest", "(I)V"⟩, 11), (⟨"TaleTypes", "isTale", "(I)Z"⟩, 10), (⟨"TaleTypes$Lineup", "rowsFrom", "(II)I"⟩, 9), (⟨"TaleTypes$Lineup", "leastStep", "(II)I"⟩, 9), (⟨"TaleTypes$Lineup", "sharedFrom", "(II)I"⟩, 9), (⟨"TaleTypes$Distances", "sumTo", "(II)I"⟩, 1)]
theorem lw_r1 : ∀ q ∈ lw_privs_1, lw_okq q := List.forall_mem_cons.mpr ⟨lw_p0, List.forall_mem_cons.mpr ⟨lw_p1, List.forall_mem_cons.mpr ⟨lw_p2, List.forall_mem_cons.mpr ⟨lw_p3, List.forall_mem_cons.mpr ⟨lw_p4, List.forall_mem_cons.mpr ⟨lw_p5, List.forall_mem_cons.mpr ⟨lw_p6, List.forall_mem_cons.mpr ⟨lw_p7, List.forall_mem_cons.mpr ⟨lw_p8, List.forall_mem_cons.mpr ⟨lw_p9, List.forall_mem_cons.mpr ⟨lw_p10, List.forall_mem_cons.mpr ⟨lw_p11, List.forall_mem_cons.mpr ⟨lw_p12, List.forall_mem_cons.mpr ⟨lw_p13, List.forall_mem_cons.mpr ⟨lw_p14, List.forall_mem_cons.mpr ⟨lw_p15, fun _ h => absurd h List.not_mem_nil⟩⟩⟩⟩⟩⟩⟩⟩⟩⟩⟩⟩⟩⟩⟩⟩
theorem lw_p16 : lw_okq (⟨"TaleTypes", "areTales", "(I)Z"⟩, 10) := ⟨⟨by decide +kernel, by decide +kernel⟩, List.mem_of_getElem? (i := 14) (by decide +kernel), List.mem_of_getElem? (i := 480) (by decide +kernel), List.mem_of_getElem? (i := 481) (by decide +kernel)⟩
theorem lw_p17 : lw_okq (⟨"TaleTypes", "addDrawn", "()V"⟩, 10) := ⟨⟨by decide +kernel, by decide +kernel⟩, List.mem_of_getElem? (i := 14) (by decide +kernel), List.mem_of_getElem? (i := 535) (by decide +kernel), List.mem_of_getElem? (i := 536) (by decide +kernel)⟩
theorem lw_p18 : lw_okq (⟨"TaleTypes", "draw", "(I)I"⟩, 10) := ⟨⟨by decide +kernel, by decide +kernel⟩, List.mem_of_getElem? (i := 14) (by decide +kernel), List.mem_of_getElem? (i := 539) (by decide +kernel), List.mem_of_getElem? (i := 540) (by decide +kernel)⟩
theorem lw_p19 : lw_okq (⟨"TaleTypesModel", "notes", "()V"⟩, 24) := ⟨⟨by decide +kernel, by decide +kernel⟩, List.mem_of_getElem? (i := 580) (by decide +kernel), List.mem_of_getElem? (i := 674) (by decide +kernel), List.mem_of_getElem? (i := 675) (by decide +kernel)⟩
theorem lw_p20 : lw_okq (⟨"TaleTypesModel", "nodesMany", "()I"⟩, 24) := ⟨⟨by decide +kernel, by decide +kernel⟩, List.mem_of_getElem? (i := 580) (by decide +kernel), List.mem_of_getElem? (i := 685) (by decide +kernel), List.mem_of_getElem? (i := 686) (by decide +kernel)⟩
theorem lw_p21 : lw_okq (⟨"TaleTypesModel", "likeTyped", "()I"⟩, 24) := ⟨⟨by decide +kernel, by decide +kernel⟩, List.mem_of_getElem? (i := 580) (by decide +kernel), List.mem_of_getElem? (i := 689) (by decide +kernel), List.mem_of_getElem? (i := 690) (by decide +kernel)⟩
theorem lw_p22 : lw_okq (⟨"TaleTypesModel", "takes", "(II)V"⟩, 24) := ⟨⟨by decide +kernel, by decide +kernel⟩, List.mem_of_getElem? (i := 580) (by decide +kernel), List.mem_of_getElem? (i := 694) (by decide +kernel), List.mem_of_getElem? (i := 695) (by decide +kernel)⟩
theorem lw_p23 : lw_okq (⟨"TaleTypesModel", "linesUp", "()I"⟩, 24) := ⟨⟨by decide +kernel, by decide +kernel⟩, List.mem_of_getElem? (i := 580) (by decide +kernel), List.mem_of_getElem? (i := 698) (by decide +kernel), List.mem_of_getElem? (i := 699) (by decide +kernel)⟩
theorem lw_p24 : lw_okq (⟨"TaleTypesModel", "stepCost", "(III)I"⟩, 24) := ⟨⟨by decide +kernel, by decide +kernel⟩, List.mem_of_getElem? (i := 580) (by decide +kernel), List.mem_of_getElem? (i := 702) (by decide +kernel), List.mem_of_getElem? (i := 703) (by decide +kernel)⟩
theorem lw_p25 : lw_okq (⟨"TaleTypesModel", "changeOf", "(II)I"⟩, 24) := ⟨⟨by decide +kernel, by decide +kernel⟩, List.mem_of_getElem? (i := 580) (by decide +kernel), List.mem_of_getElem? (i := 706) (by decide +kernel), List.mem_of_getElem? (i := 707) (by decide +kernel)⟩
theorem lw_p26 : lw_okq (⟨"TaleTypesModel", "isTurned", "(II)Z"⟩, 24) := ⟨⟨by decide +kernel, by decide +kernel⟩, List.mem_of_getElem? (i := 580) (by decide +kernel), List.mem_of_getElem? (i := 713) (by decide +kernel), List.mem_of_getElem? (i := 714) (by decide +kernel)⟩
theorem lw_p27 : lw_okq (⟨"TaleTypesModel", "allHave", "(I)I"⟩, 24) := ⟨⟨by decide +kernel, by decide +kernel⟩, List.mem_of_getElem? (i := 580) (by decide +kernel), List.mem_of_getElem? (i := 726) (by decide +kernel), List.mem_of_getElem? (i := 727) (by decide +kernel)⟩
theorem lw_p28 : lw_okq (⟨"TaleTypesModel", "wrong", "()I"⟩, 24) := ⟨⟨by decide +kernel, by decide +kernel⟩, List.mem_of_getElem? (i := 580) (by decide +kernel), List.mem_of_getElem? (i := 733) (by decide +kernel), List.mem_of_getElem? (i := 734) (by decide +kernel)⟩
theorem lw_p29 : lw_okq (⟨"TaleTypesModel", "isTale", "(I)Z"⟩, 24) := ⟨⟨by decide +kernel, by decide +kernel⟩, List.mem_of_getElem? (i := 580) (by decide +kernel), List.mem_of_getElem? (i := 737) (by decide +kernel), List.mem_of_getElem? (i := 738) (by decide +kernel)⟩
theorem lw_p30 : lw_okq (⟨"TaleTypesModel", "apart", "(II)I"⟩, 24) := ⟨⟨by decide +kernel, by decide +kernel⟩, List.mem_of_getElem? (i := 580) (by decide +kernel), List.mem_of_getElem? (i := 741) (by decide +kernel), List.mem_of_getElem? (i := 742) (by decide +kernel)⟩
theorem lw_p31 : lw_okq (⟨"TaleTypesModel", "wanders", "(I)I"⟩, 24) := ⟨⟨by decide +kernel, by decide +kernel⟩, List.mem_of_getElem? (i := 580) (by decide +kernel), List.mem_of_getElem? (i := 750) (by decide +kernel), List.mem_of_getElem? (i := 751) (by decide +kernel)⟩
def lw_privs_2 : List (MethodName × Nat) := [(⟨"TaleTypes", "areTales", "(I)Z"⟩, 10), (⟨"TaleTypes", "addDrawn", "()V"⟩, 10), (⟨"TaleTypes", "draw", "(I)I"⟩, 10), (⟨"TaleTypesModel", "notes", "()V"⟩, 24), (⟨"TaleTypesModel", "nodesMany", "()I"⟩, 24), (⟨"TaleTypesModel", "likeTyped", "()I"⟩, 24), (⟨"TaleTypesModel", "takes", "(II)V"⟩, 24), (⟨"TaleTypesModel", "linesUp", "()I"⟩, 24), (⟨"TaleTypesModel", "stepCost", "(III)I"⟩, 24), (⟨"TaleTypesModel", "changeOf", "(II)I"⟩, 24), (⟨"TaleTypesModel", "isTurned", "(II)Z"⟩, 24), (⟨"TaleTypesModel", "allHave", "(I)I"⟩, 24), (⟨"TaleTypesModel", "wrong", "()I"⟩, 24), (⟨"TaleTypesModel", "isTale", "(I)Z"⟩, 24), (⟨"TaleTypesModel", "apart", "(II)I"⟩, 24), (⟨"TaleTypesModel", "wanders", "(I)I"⟩, 24)]
theorem lw_r2 : ∀ q ∈ lw_privs_2, lw_okq q := List.forall_mem_cons.mpr ⟨lw_p16, List.forall_mem_cons.mpr ⟨lw_p17, List.forall_mem_cons.mpr ⟨lw_p18, List.forall_mem_cons.mpr ⟨lw_p19, List.forall_mem_cons.mpr ⟨lw_p20, List.forall_mem_cons.mpr ⟨lw_p21, List.forall_mem_cons.mpr ⟨lw_p22, List.forall_mem_cons.mpr ⟨lw_p23, List.forall_mem_cons.mpr ⟨lw_p24, List.forall_mem_cons.mpr ⟨lw_p25, List.forall_mem_cons.mpr ⟨lw_p26, List.forall_mem_cons.mpr ⟨lw_p27, List.forall_mem_cons.mpr ⟨lw_p28, List.forall_mem_cons.mpr ⟨lw_p29, List.forall_mem_cons.mpr ⟨lw_p30, List.forall_mem_cons.mpr ⟨lw_p31, fun _ h => absurd h List.not_mem_nil⟩⟩⟩⟩⟩⟩⟩⟩⟩⟩⟩⟩⟩⟩⟩⟩
theorem lw_p32 : lw_okq (⟨"TaleTypesModel", "over", "(I)I"⟩, 24) := ⟨⟨by decide +kernel, by decide +kernel⟩, List.mem_of_getElem? (i := 580) (by decide +kernel), List.mem_of_getElem? (i := 754) (by decide +kernel), List.mem_of_getElem? (i := 755) (by decide +kernel)⟩
theorem lw_p33 : lw_okq (⟨"TaleTypesModel", "hangs", "(I)Z"⟩, 24) := ⟨⟨by decide +kernel, by decide +kernel⟩, List.mem_of_getElem? (i := 580) (by decide +kernel), List.mem_of_getElem? (i := 758) (by decide +kernel), List.mem_of_getElem? (i := 759) (by decide +kernel)⟩
theorem lw_p34 : lw_okq (⟨"TaleTypesModel", "laysWay", "(II)I"⟩, 24) := ⟨⟨by decide +kernel, by decide +kernel⟩, List.mem_of_getElem? (i := 580) (by decide +kernel), List.mem_of_getElem? (i := 777) (by decide +kernel), List.mem_of_getElem? (i := 778) (by decide +kernel)⟩
theorem lw_p35 : lw_okq (⟨"TaleTypesModel", "isOfLeast", "(IIII)Z"⟩, 24) := ⟨⟨by decide +kernel, by decide +kernel⟩, List.mem_of_getElem? (i := 580) (by decide +kernel), List.mem_of_getElem? (i := 781) (by decide +kernel), List.mem_of_getElem? (i := 782) (by decide +kernel)⟩
theorem lw_p36 : lw_okq (⟨"TaleTypesModel", "commonOrder", "(II)I"⟩, 24) := ⟨⟨by decide +kernel, by decide +kernel⟩, List.mem_of_getElem? (i := 580) (by decide +kernel), List.mem_of_getElem? (i := 785) (by decide +kernel), List.mem_of_getElem? (i := 786) (by decide +kernel)⟩
theorem lw_p37 : lw_okq (⟨"TaleTypesModel", "laysNodes", "()V"⟩, 24) := ⟨⟨by decide +kernel, by decide +kernel⟩, List.mem_of_getElem? (i := 580) (by decide +kernel), List.mem_of_getElem? (i := 797) (by decide +kernel), List.mem_of_getElem? (i := 798) (by decide +kernel)⟩
theorem lw_p38 : lw_okq (⟨"TaleTypesModel", "beginsTypes", "()V"⟩, 24) := ⟨⟨by decide +kernel, by decide +kernel⟩, List.mem_of_getElem? (i := 580) (by decide +kernel), List.mem_of_getElem? (i := 801) (by decide +kernel), List.mem_of_getElem? (i := 802) (by decide +kernel)⟩
theorem lw_p39 : lw_okq (⟨"TaleTypesModel", "laysFar", "()V"⟩, 24) := ⟨⟨by decide +kernel, by decide +kernel⟩, List.mem_of_getElem? (i := 580) (by decide +kernel), List.mem_of_getElem? (i := 805) (by decide +kernel), List.mem_of_getElem? (i := 806) (by decide +kernel)⟩
theorem lw_p40 : lw_okq (⟨"TaleTypesModel", "joinsOnce", "(I)V"⟩, 24) := ⟨⟨by decide +kernel, by decide +kernel⟩, List.mem_of_getElem? (i := 580) (by decide +kernel), List.mem_of_getElem? (i := 809) (by decide +kernel), List.mem_of_getElem? (i := 810) (by decide +kernel)⟩
theorem lw_p41 : lw_okq (⟨"TaleTypesModel", "nearBy", "(II)I"⟩, 24) := ⟨⟨by decide +kernel, by decide +kernel⟩, List.mem_of_getElem? (i := 580) (by decide +kernel), List.mem_of_getElem? (i := 813) (by decide +kernel), List.mem_of_getElem? (i := 814) (by decide +kernel)⟩
theorem lw_p42 : lw_okq (⟨"TaleTypesModel", "partsOf", "(II)I"⟩, 24) := ⟨⟨by decide +kernel, by decide +kernel⟩, List.mem_of_getElem? (i := 580) (by decide +kernel), List.mem_of_getElem? (i := 817) (by decide +kernel), List.mem_of_getElem? (i := 818) (by decide +kernel)⟩
theorem lw_p43 : lw_okq (⟨"TaleTypesModel", "joins", "(II)V"⟩, 24) := ⟨⟨by decide +kernel, by decide +kernel⟩, List.mem_of_getElem? (i := 580) (by decide +kernel), List.mem_of_getElem? (i := 821) (by decide +kernel), List.mem_of_getElem? (i := 822) (by decide +kernel)⟩
theorem lw_p44 : lw_okq (⟨"TaleTypesModel", "middleOf", "(I)I"⟩, 24) := ⟨⟨by decide +kernel, by decide +kernel⟩, List.mem_of_getElem? (i := 580) (by decide +kernel), List.mem_of_getElem? (i := 825) (by decide +kernel), List.mem_of_getElem? (i := 826) (by decide +kernel)⟩
theorem lw_p45 : lw_okq (⟨"TaleTypesModel", "areTales", "(I)Z"⟩, 24) := ⟨⟨by decide +kernel, by decide +kernel⟩, List.mem_of_getElem? (i := 580) (by decide +kernel), List.mem_of_getElem? (i := 837) (by decide +kernel), List.mem_of_getElem? (i := 838) (by decide +kernel)⟩
theorem lw_p46 : lw_okq (⟨"TaleTypesModel", "draw", "(I)I"⟩, 24) := ⟨⟨by decide +kernel, by decide +kernel⟩, List.mem_of_getElem? (i := 580) (by decide +kernel), List.mem_of_getElem? (i := 876) (by decide +kernel), List.mem_of_getElem? (i := 877) (by decide +kernel)⟩
def lw_privs_3 : List (MethodName × Nat) := [(⟨"TaleTypesModel", "over", "(I)I"⟩, 24), (⟨"TaleTypesModel", "hangs", "(I)Z"⟩, 24), (⟨"TaleTypesModel", "laysWay", "(II)I"⟩, 24), (⟨"TaleTypesModel", "isOfLeast", "(IIII)Z"⟩, 24), (⟨"TaleTypesModel", "commonOrder", "(II)I"⟩, 24), (⟨"TaleTypesModel", "laysNodes", "()V"⟩, 24), (⟨"TaleTypesModel", "beginsTypes", "()V"⟩, 24), (⟨"TaleTypesModel", "laysFar", "()V"⟩, 24), (⟨"TaleTypesModel", "joinsOnce", "(I)V"⟩, 24), (⟨"TaleTypesModel", "nearBy", "(II)I"⟩, 24), (⟨"TaleTypesModel", "partsOf", "(II)I"⟩, 24), (⟨"TaleTypesModel", "joins", "(II)V"⟩, 24), (⟨"TaleTypesModel", "middleOf", "(I)I"⟩, 24), (⟨"TaleTypesModel", "areTales", "(I)Z"⟩, 24), (⟨"TaleTypesModel", "draw", "(I)I"⟩, 24)]
theorem lw_r3 : ∀ q ∈ lw_privs_3, lw_okq q := List.forall_mem_cons.mpr ⟨lw_p32, List.forall_mem_cons.mpr ⟨lw_p33, List.forall_mem_cons.mpr ⟨lw_p34, List.forall_mem_cons.mpr ⟨lw_p35, List.forall_mem_cons.mpr ⟨lw_p36, List.forall_mem_cons.mpr ⟨lw_p37, List.forall_mem_cons.mpr ⟨lw_p38, List.forall_mem_cons.mpr ⟨lw_p39, List.forall_mem_cons.mpr ⟨lw_p40, List.forall_mem_cons.mpr ⟨lw_p41, List.forall_mem_cons.mpr ⟨lw_p42, List.forall_mem_cons.mpr ⟨lw_p43, List.forall_mem_cons.mpr ⟨lw_p44, List.forall_mem_cons.mpr ⟨lw_p45, List.forall_mem_cons.mpr ⟨lw_p46, fun _ h => absurd h List.not_mem_nil⟩⟩⟩⟩⟩⟩⟩⟩⟩⟩⟩⟩⟩⟩⟩
def lw_privs : List (MethodName × Nat) := lw_privs_1 ++ (lw_privs_2 ++ (lw_privs_3))
def lw_tbl : List Cond := k2_sels lw_privs ++ tables_1
theorem lw_privs_ok : ∀ q ∈ lw_privs, lw_okq q := by
  show ∀ q ∈ lw_privs_1 ++ (lw_privs_2 ++ (lw_privs_3)), lw_okq q
  exact List.forall_mem_append.mpr ⟨lw_r1, List.forall_mem_append.mpr ⟨lw_r2, lw_r3⟩⟩
end
section
/-! ===== BEGIN words of one list among another's, by their places ===== -/
theorem goodIn_r {big : List Cond} (ws : List Cond) (ps : List Nat) (hp : ws = ps.filterMap (fun i => big[i]?)) (h : ws.all goodWord = true) : GoodIn big ws := by
  intro w hw
  have h1 := List.all_eq_true.mp h w hw
  rw [hp] at hw
  obtain ⟨i, -, hi⟩ := List.mem_filterMap.mp hw
  have hm : w ∈ big := by first | exact List.mem_of_getElem? hi | exact List.getElem?_mem hi
  exact ⟨hm, good_of_word h1⟩
theorem goodIn_app {big a b : List Cond} (ha : GoodIn big a) (hb : GoodIn big b) : GoodIn big (a ++ b) := fun w h => (List.mem_append.mp h).elim (ha w) (hb w)
theorem goodIn_ca {big a b : List Cond} {c : Cond} (ha : GoodIn big (c :: a)) (hb : GoodIn big b) : GoodIn big (c :: (a ++ b)) := fun w h => (List.mem_cons.mp h).elim (fun e => ha w (List.mem_cons.mpr (Or.inl e))) (fun h => (List.mem_append.mp h).elim (fun h => ha w (List.mem_cons.mpr (Or.inr h))) (hb w))
theorem goodIn_sub {big ws : List Cond} (hm : ∀ w ∈ ws, w ∈ big) (h : ws.all goodWord = true) : GoodIn big ws := fun w hw => ⟨hm w hw, good_of_word (List.all_eq_true.mp h w hw)⟩
/-! ===== END ===== -/

/-! ===== BEGIN printed: names, fields, word lists, decode rows ===== -/
def RX0 : String := "TaleTypes$Book"
def TX0 : u_T := fun k => match k with
  | 0 => ("TaleTypes$Book", "firsts", "[I", true)
  | 1 => ("TaleTypes$Book", "others", "[I", true)
  | 2 => ("TaleTypes$Book", "says", "[I", true)
  | _ => ("TaleTypes$Book", "size", "I", false)
def tyX0 : Nat → FieldType := fun k => match k with
  | 0 => .array .int
  | 1 => .array .int
  | 2 => .array .int
  | _ => .int
abbrev wsX00 : List Cond := u_ws RX0 TX0 4
theorem nmX0 : ∀ a, a < 4 → ∀ b, b < 4 → a ≠ b → (TX0 a).2.1 ≠ (TX0 b).2.1 := by decide +kernel
theorem tyX0_ok : ∀ k, k < 4 → parseFieldDescriptor (TX0 k).2.2.1 = some (tyX0 k) := by decide +kernel
abbrev cX0_init : ByteArray := prog_2_method_1_code
def yX0_init : MethodName := ⟨RX0, "<init>", "()V"⟩
abbrev cX0_add : ByteArray := prog_2_method_2_code
def yX0_add : MethodName := ⟨RX0, "add", "(III)V"⟩
abbrev cX0_firstOtherwise : ByteArray := prog_2_method_3_code
def yX0_firstOtherwise : MethodName := ⟨RX0, "firstOtherwise", "(LTaleTypes$Distances;I)I"⟩
def RX1 : String := "TaleTypes$Deeds"
def TX1 : u_T := fun k => match k with
  | 0 => ("TaleTypes$Deeds", "before", "[LTaleTypes$State;", true)
  | 1 => ("TaleTypes$Deeds", "count", "I", false)
  | _ => ("TaleTypes$Deeds", "next", "I", false)
def tyX1 : Nat → FieldType := fun k => match k with
  | 0 => .array (.object "TaleTypes$State")
  | 1 => .int
  | _ => .int
abbrev wsX10 : List Cond := u_ws RX1 TX1 3
theorem nmX1 : ∀ a, a < 3 → ∀ b, b < 3 → a ≠ b → (TX1 a).2.1 ≠ (TX1 b).2.1 := by decide +kernel
theorem tyX1_ok : ∀ k, k < 3 → parseFieldDescriptor (TX1 k).2.2.1 = some (tyX1 k) := by decide +kernel
abbrev cX1_init : ByteArray := prog_3_method_1_code
def yX1_init : MethodName := ⟨RX1, "<init>", "()V"⟩
abbrev cX1_remember : ByteArray := prog_3_method_2_code
def yX1_remember : MethodName := ⟨RX1, "remember", "(LTaleTypes$State;)V"⟩
abbrev cX1_takeBack : ByteArray := prog_3_method_3_code
def yX1_takeBack : MethodName := ⟨RX1, "takeBack", "(ILTaleTypes$State;)V"⟩
def RX2 : String := "TaleTypes$Distances"
def TX2 : u_T := fun k => match k with
  | _ => ("TaleTypes$Distances", "apart", "[I", true)
def tyX2 : Nat → FieldType := fun k => match k with
  | _ => .array .int
abbrev wsX20 : List Cond := u_ws RX2 TX2 1
theorem nmX2 : ∀ a, a < 1 → ∀ b, b < 1 → a ≠ b → (TX2 a).2.1 ≠ (TX2 b).2.1 := by decide +kernel
theorem tyX2_ok : ∀ k, k < 1 → parseFieldDescriptor (TX2 k).2.2.1 = some (tyX2 k) := by decide +kernel
abbrev cX2_init : ByteArray := prog_4_method_1_code
def yX2_init : MethodName := ⟨RX2, "<init>", "()V"⟩
abbrev cX2_measure : ByteArray := prog_4_method_2_code
def yX2_measure : MethodName := ⟨RX2, "measure", "(LTaleTypes$State;LTaleTypes$Lineup;)V"⟩
abbrev cX2_between : ByteArray := prog_4_method_3_code
def yX2_between : MethodName := ⟨RX2, "between", "(II)I"⟩
abbrev cX2_middleOf : ByteArray := prog_4_method_4_code
def yX2_middleOf : MethodName := ⟨RX2, "middleOf", "(I)I"⟩
abbrev cX2_sumTo : ByteArray := prog_4_method_5_code
def yX2_sumTo : MethodName := ⟨RX2, "sumTo", "(II)I"⟩
def RX3 : String := "TaleTypes$Image"
def TX3 : u_T := fun k => match k with
  | 0 => ("TaleTypes$Image", "state", "LTaleTypes$State;", true)
  | 1 => ("TaleTypes$Image", "seed", "I", false)
  | _ => ("TaleTypes$Image", "kept", "Z", false)
def tyX3 : Nat → FieldType := fun k => match k with
  | 0 => .object "TaleTypes$State"
  | 1 => .int
  | _ => .boolean
abbrev wsX30 : List Cond := u_ws RX3 TX3 3
theorem nmX3 : ∀ a, a < 3 → ∀ b, b < 3 → a ≠ b → (TX3 a).2.1 ≠ (TX3 b).2.1 := by decide +kernel
theorem tyX3_ok : ∀ k, k < 3 → parseFieldDescriptor (TX3 k).2.2.1 = some (tyX3 k) := by decide +kernel
abbrev cX3_init : ByteArray := prog_5_method_1_code
def yX3_init : MethodName := ⟨RX3, "<init>", "()V"⟩
def RX4 : String := "TaleTypes$Lineup"
def TX4 : u_T := fun k => match k with
  | 0 => ("TaleTypes$Lineup", "first", "[I", true)
  | 1 => ("TaleTypes$Lineup", "other", "[I", true)
  | 2 => ("TaleTypes$Lineup", "costs", "[I", true)
  | 3 => ("TaleTypes$Lineup", "least", "[I", true)
  | 4 => ("TaleTypes$Lineup", "rows", "[I", true)
  | 5 => ("TaleTypes$Lineup", "shared", "[I", true)
  | 6 => ("TaleTypes$Lineup", "way", "[I", true)
  | 7 => ("TaleTypes$Lineup", "firstLength", "I", false)
  | _ => ("TaleTypes$Lineup", "otherLength", "I", false)
def tyX4 : Nat → FieldType := fun k => match k with
  | 0 => .array .int
  | 1 => .array .int
  | 2 => .array .int
  | 3 => .array .int
  | 4 => .array .int
  | 5 => .array .int
  | 6 => .array .int
  | 7 => .int
  | _ => .int
abbrev wsX40 : List Cond := u_ws RX4 TX4 9
theorem nmX4 : ∀ a, a < 9 → ∀ b, b < 9 → a ≠ b → (TX4 a).2.1 ≠ (TX4 b).2.1 := by decide +kernel
theorem tyX4_ok : ∀ k, k < 9 → parseFieldDescriptor (TX4 k).2.2.1 = some (tyX4 k) := by decide +kernel
abbrev cX4_init : ByteArray := prog_6_method_1_code
def yX4_init : MethodName := ⟨RX4, "<init>", "()V"⟩
abbrev cX4_lineUp : ByteArray := prog_6_method_2_code
def yX4_lineUp : MethodName := ⟨RX4, "lineUp", "(JJ[I)V"⟩
abbrev cX4_apart : ByteArray := prog_6_method_3_code
def yX4_apart : MethodName := ⟨RX4, "apart", "()I"⟩
abbrev cX4_ways : ByteArray := prog_6_method_4_code
def yX4_ways : MethodName := ⟨RX4, "ways", "()I"⟩
abbrev cX4_wayLength : ByteArray := prog_6_method_5_code
def yX4_wayLength : MethodName := ⟨RX4, "wayLength", "()I"⟩
abbrev cX4_stepOfWay : ByteArray := prog_6_method_6_code
def yX4_stepOfWay : MethodName := ⟨RX4, "stepOfWay", "(I)I"⟩
abbrev cX4_commonLength : ByteArray := prog_6_method_7_code
def yX4_commonLength : MethodName := ⟨RX4, "commonLength", "()I"⟩
abbrev cX4_spell : ByteArray := prog_6_method_8_code
def yX4_spell : MethodName := ⟨RX4, "spell", "(J[I)I"⟩
abbrev cX4_leastFrom : ByteArray := prog_6_method_9_code
def yX4_leastFrom : MethodName := ⟨RX4, "leastFrom", "(II)I"⟩
abbrev cX4_rowsFrom : ByteArray := prog_6_method_10_code
def yX4_rowsFrom : MethodName := ⟨RX4, "rowsFrom", "(II)I"⟩
abbrev cX4_sumThrough : ByteArray := prog_6_method_11_code
def yX4_sumThrough : MethodName := ⟨RX4, "sumThrough", "(III)I"⟩
abbrev cX4_isTurned : ByteArray := prog_6_method_12_code
def yX4_isTurned : MethodName := ⟨RX4, "isTurned", "(II)Z"⟩
abbrev cX4_leastStep : ByteArray := prog_6_method_13_code
def yX4_leastStep : MethodName := ⟨RX4, "leastStep", "(II)I"⟩
abbrev cX4_sharedFrom : ByteArray := prog_6_method_14_code
def yX4_sharedFrom : MethodName := ⟨RX4, "sharedFrom", "(II)I"⟩
def RX5 : String := "TaleTypes$State"
def TX5 : u_T := fun k => match k with
  | 0 => ("TaleTypes$State", "tales", "[J", true)
  | 1 => ("TaleTypes$State", "places", "[I", true)
  | 2 => ("TaleTypes$State", "costs", "[I", true)
  | 3 => ("TaleTypes$State", "roads", "[I", true)
  | 4 => ("TaleTypes$State", "count", "I", false)
  | _ => ("TaleTypes$State", "kind", "I", false)
def tyX5 : Nat → FieldType := fun k => match k with
  | 0 => .array .long
  | 1 => .array .int
  | 2 => .array .int
  | 3 => .array .int
  | 4 => .int
  | _ => .int
abbrev wsX50 : List Cond := u_ws RX5 TX5 6
theorem nmX5 : ∀ a, a < 6 → ∀ b, b < 6 → a ≠ b → (TX5 a).2.1 ≠ (TX5 b).2.1 := by decide +kernel
theorem tyX5_ok : ∀ k, k < 6 → parseFieldDescriptor (TX5 k).2.2.1 = some (tyX5 k) := by decide +kernel
abbrev cX5_init : ByteArray := prog_7_method_1_code
def yX5_init : MethodName := ⟨RX5, "<init>", "()V"⟩
abbrev cX5_become : ByteArray := prog_7_method_2_code
def yX5_become : MethodName := ⟨RX5, "become", "(LTaleTypes$State;)V"⟩
abbrev cX5_add : ByteArray := prog_7_method_3_code
def yX5_add : MethodName := ⟨RX5, "add", "(JI)V"⟩
abbrev cX5_remove : ByteArray := prog_7_method_4_code
def yX5_remove : MethodName := ⟨RX5, "remove", "(I)V"⟩
abbrev cX5_setRoad : ByteArray := prog_7_method_5_code
def yX5_setRoad : MethodName := ⟨RX5, "setRoad", "(IIZ)V"⟩
abbrev cX5_countRoads : ByteArray := prog_7_method_6_code
def yX5_countRoads : MethodName := ⟨RX5, "countRoads", "()I"⟩
abbrev cX5_motifsOfAll : ByteArray := prog_7_method_7_code
def yX5_motifsOfAll : MethodName := ⟨RX5, "motifsOfAll", "(I)I"⟩
def RX6 : String := "TaleTypes$Tree"
def TX6 : u_T := fun k => match k with
  | 0 => ("TaleTypes$Tree", "heights", "[I", true)
  | 1 => ("TaleTypes$Tree", "wholes", "[I", true)
  | 2 => ("TaleTypes$Tree", "leasts", "[I", true)
  | 3 => ("TaleTypes$Tree", "types", "[I", true)
  | 4 => ("TaleTypes$Tree", "nodes", "I", false)
  | 5 => ("TaleTypes$Tree", "over", "I", false)
  | 6 => ("TaleTypes$Tree", "under", "I", false)
  | 7 => ("TaleTypes$Tree", "nearestOver", "I", false)
  | 8 => ("TaleTypes$Tree", "nearestUnder", "I", false)
  | 9 => ("TaleTypes$Tree", "nearestOne", "I", false)
  | _ => ("TaleTypes$Tree", "nearestOther", "I", false)
def tyX6 : Nat → FieldType := fun k => match k with
  | 0 => .array .int
  | 1 => .array .int
  | 2 => .array .int
  | 3 => .array .int
  | 4 => .int
  | 5 => .int
  | 6 => .int
  | 7 => .int
  | 8 => .int
  | 9 => .int
  | _ => .int
abbrev wsX60 : List Cond := u_ws RX6 TX6 11
theorem nmX6 : ∀ a, a < 11 → ∀ b, b < 11 → a ≠ b → (TX6 a).2.1 ≠ (TX6 b).2.1 := by decide +kernel
theorem tyX6_ok : ∀ k, k < 11 → parseFieldDescriptor (TX6 k).2.2.1 = some (tyX6 k) := by decide +kernel
abbrev cX6_init : ByteArray := prog_8_method_1_code
def yX6_init : MethodName := ⟨RX6, "<init>", "()V"⟩
abbrev cX6_grow : ByteArray := prog_8_method_2_code
def yX6_grow : MethodName := ⟨RX6, "grow", "(LTaleTypes$Distances;II)V"⟩
abbrev cX6_nodesUpTo : ByteArray := prog_8_method_3_code
def yX6_nodesUpTo : MethodName := ⟨RX6, "nodesUpTo", "(I)I"⟩
abbrev cX6_typeOf : ByteArray := prog_8_method_4_code
def yX6_typeOf : MethodName := ⟨RX6, "typeOf", "(II)I"⟩
abbrev cX6_findNearest : ByteArray := prog_8_method_5_code
def yX6_findNearest : MethodName := ⟨RX6, "findNearest", "(LTaleTypes$Distances;II)V"⟩
abbrev cX6_compareTypes : ByteArray := prog_8_method_6_code
def yX6_compareTypes : MethodName := ⟨RX6, "compareTypes", "(LTaleTypes$Distances;III)V"⟩
abbrev cX6_joinNearest : ByteArray := prog_8_method_7_code
def yX6_joinNearest : MethodName := ⟨RX6, "joinNearest", "(I)V"⟩
def RX7 : String := "TaleTypes"
def TX7 : u_T := fun k => match k with
  | 0 => ("TaleTypes", "now", "LTaleTypes$State;", true)
  | 1 => ("TaleTypes", "deeds", "LTaleTypes$Deeds;", true)
  | 2 => ("TaleTypes", "book", "LTaleTypes$Book;", true)
  | 3 => ("TaleTypes", "lineup", "LTaleTypes$Lineup;", true)
  | 4 => ("TaleTypes", "distances", "LTaleTypes$Distances;", true)
  | 5 => ("TaleTypes", "tree", "LTaleTypes$Tree;", true)
  | 6 => ("TaleTypes", "images", "[LTaleTypes$Image;", true)
  | 7 => ("TaleTypes", "typed", "J", false)
  | 8 => ("TaleTypes", "theSeed", "I", false)
  | _ => ("TaleTypes", "measured", "Z", false)
def tyX7 : Nat → FieldType := fun k => match k with
  | 0 => .object "TaleTypes$State"
  | 1 => .object "TaleTypes$Deeds"
  | 2 => .object "TaleTypes$Book"
  | 3 => .object "TaleTypes$Lineup"
  | 4 => .object "TaleTypes$Distances"
  | 5 => .object "TaleTypes$Tree"
  | 6 => .array (.object "TaleTypes$Image")
  | 7 => .long
  | 8 => .int
  | _ => .boolean
abbrev wsX70 : List Cond := u_ws RX7 TX7 10
theorem nmX7 : ∀ a, a < 10 → ∀ b, b < 10 → a ≠ b → (TX7 a).2.1 ≠ (TX7 b).2.1 := by decide +kernel
theorem tyX7_ok : ∀ k, k < 10 → parseFieldDescriptor (TX7 k).2.2.1 = some (tyX7 k) := by decide +kernel
abbrev cX7_init : ByteArray := prog_1_method_1_code
def yX7_init : MethodName := ⟨RX7, "<init>", "()V"⟩
abbrev cX7_feed : ByteArray := prog_1_method_2_code
def yX7_feed : MethodName := ⟨RX7, "feed", "(I)I"⟩
abbrev cX7_tale : ByteArray := prog_1_method_3_code
def yX7_tale : MethodName := ⟨RX7, "tale", "()I"⟩
abbrev cX7_told : ByteArray := prog_1_method_4_code
def yX7_told : MethodName := ⟨RX7, "told", "(I)I"⟩
abbrev cX7_taleAt : ByteArray := prog_1_method_5_code
def yX7_taleAt : MethodName := ⟨RX7, "taleAt", "(II)I"⟩
abbrev cX7_motif : ByteArray := prog_1_method_6_code
def yX7_motif : MethodName := ⟨RX7, "motif", "(II)I"⟩
abbrev cX7_costAt : ByteArray := prog_1_method_7_code
def yX7_costAt : MethodName := ⟨RX7, "costAt", "(I)I"⟩
abbrev cX7_pair : ByteArray := prog_1_method_8_code
def yX7_pair : MethodName := ⟨RX7, "pair", "(III)I"⟩
abbrev cX7_step : ByteArray := prog_1_method_9_code
def yX7_step : MethodName := ⟨RX7, "step", "(III)I"⟩
abbrev cX7_node : ByteArray := prog_1_method_10_code
def yX7_node : MethodName := ⟨RX7, "node", "(II)I"⟩
abbrev cX7_types : ByteArray := prog_1_method_11_code
def yX7_types : MethodName := ⟨RX7, "types", "(II)I"⟩
abbrev cX7_middle : ByteArray := prog_1_method_12_code
def yX7_middle : MethodName := ⟨RX7, "middle", "(I)I"⟩
abbrev cX7_common : ByteArray := prog_1_method_13_code
def yX7_common : MethodName := ⟨RX7, "common", "(I)I"⟩
abbrev cX7_wandered : ByteArray := prog_1_method_14_code
def yX7_wandered : MethodName := ⟨RX7, "wandered", "(II)I"⟩
abbrev cX7_take : ByteArray := prog_1_method_15_code
def yX7_take : MethodName := ⟨RX7, "take", "(I)I"⟩
abbrev cX7_cost : ByteArray := prog_1_method_16_code
def yX7_cost : MethodName := ⟨RX7, "cost", "(II)I"⟩
abbrev cX7_kind : ByteArray := prog_1_method_17_code
def yX7_kind : MethodName := ⟨RX7, "kind", "(I)I"⟩
abbrev cX7_road : ByteArray := prog_1_method_18_code
def yX7_road : MethodName := ⟨RX7, "road", "(IIZ)I"⟩
abbrev cX7_at : ByteArray := prog_1_method_19_code
def yX7_at : MethodName := ⟨RX7, "at", "(II)I"⟩
abbrev cX7_drift : ByteArray := prog_1_method_20_code
def yX7_drift : MethodName := ⟨RX7, "drift", "(I)I"⟩
abbrev cX7_undo : ByteArray := prog_1_method_21_code
def yX7_undo : MethodName := ⟨RX7, "undo", "(I)I"⟩
abbrev cX7_write : ByteArray := prog_1_method_22_code
def yX7_write : MethodName := ⟨RX7, "write", "(III)I"⟩
abbrev cX7_tear : ByteArray := prog_1_method_23_code
def yX7_tear : MethodName := ⟨RX7, "tear", "()I"⟩
abbrev cX7_seed : ByteArray := prog_1_method_24_code
def yX7_seed : MethodName := ⟨RX7, "seed", "(I)I"⟩
abbrev cX7_keep : ByteArray := prog_1_method_25_code
def yX7_keep : MethodName := ⟨RX7, "keep", "(I)I"⟩
abbrev cX7_goBack : ByteArray := prog_1_method_26_code
def yX7_goBack : MethodName := ⟨RX7, "goBack", "(I)I"⟩
abbrev cX7_isTale : ByteArray := prog_1_method_27_code
def yX7_isTale : MethodName := ⟨RX7, "isTale", "(I)Z"⟩
abbrev cX7_allTales : ByteArray := prog_1_method_28_code
def yX7_allTales : MethodName := ⟨RX7, "allTales", "()I"⟩
abbrev cX7_areTales : ByteArray := prog_1_method_29_code
def yX7_areTales : MethodName := ⟨RX7, "areTales", "(I)Z"⟩
abbrev cX7_nodeCount : ByteArray := prog_1_method_30_code
def yX7_nodeCount : MethodName := ⟨RX7, "nodeCount", "()I"⟩
abbrev cX7_isPlace : ByteArray := prog_1_method_31_code
def yX7_isPlace : MethodName := ⟨RX7, "isPlace", "(I)Z"⟩
abbrev cX7_arePlaces : ByteArray := prog_1_method_32_code
def yX7_arePlaces : MethodName := ⟨RX7, "arePlaces", "(I)Z"⟩
abbrev cX7_beginDeed : ByteArray := prog_1_method_33_code
def yX7_beginDeed : MethodName := ⟨RX7, "beginDeed", "()V"⟩
abbrev cX7_measureAnew : ByteArray := prog_1_method_34_code
def yX7_measureAnew : MethodName := ⟨RX7, "measureAnew", "()V"⟩
abbrev cX7_likeTyped : ByteArray := prog_1_method_35_code
def yX7_likeTyped : MethodName := ⟨RX7, "likeTyped", "()I"⟩
abbrev cX7_addDrawn : ByteArray := prog_1_method_36_code
def yX7_addDrawn : MethodName := ⟨RX7, "addDrawn", "()V"⟩
abbrev cX7_draw : ByteArray := prog_1_method_37_code
def yX7_draw : MethodName := ⟨RX7, "draw", "(I)I"⟩
abbrev cX7_lengthOf : ByteArray := prog_1_method_38_code
def yX7_lengthOf : MethodName := ⟨RX7, "lengthOf", "(J)I"⟩
abbrev cX7_motifOf : ByteArray := prog_1_method_39_code
def yX7_motifOf : MethodName := ⟨RX7, "motifOf", "(JI)I"⟩
abbrev cX7_longer : ByteArray := prog_1_method_40_code
def yX7_longer : MethodName := ⟨RX7, "longer", "(JI)J"⟩
abbrev cX7_motifsOf : ByteArray := prog_1_method_41_code
def yX7_motifsOf : MethodName := ⟨RX7, "motifsOf", "(J)I"⟩
abbrev cX7_hull : ByteArray := prog_1_method_42_code
def yX7_hull : MethodName := ⟨RX7, "hull", "(I[I)I"⟩
abbrev cX7_hangTogether : ByteArray := prog_1_method_43_code
def yX7_hangTogether : MethodName := ⟨RX7, "hangTogether", "(I[I)Z"⟩
abbrev cX7_roadsOf : ByteArray := prog_1_method_44_code
def yX7_roadsOf : MethodName := ⟨RX7, "roadsOf", "(I)I"⟩
def RX8 : String := "TaleTypesModel"
def TX8 : u_T := fun k => match k with
  | 0 => ("TaleTypesModel", "st", "[I", true)
  | 1 => ("TaleTypesModel", "past", "[I", true)
  | 2 => ("TaleTypesModel", "deeds", "I", false)
  | 3 => ("TaleTypesModel", "images", "[I", true)
  | 4 => ("TaleTypesModel", "isKept", "[Z", true)
  | 5 => ("TaleTypesModel", "typed", "[I", true)
  | 6 => ("TaleTypesModel", "typedMany", "I", false)
  | 7 => ("TaleTypesModel", "book", "[I", true)
  | 8 => ("TaleTypesModel", "entries", "I", false)
  | 9 => ("TaleTypesModel", "seed", "I", false)
  | 10 => ("TaleTypesModel", "one", "[I", true)
  | 11 => ("TaleTypesModel", "oneMany", "I", false)
  | 12 => ("TaleTypesModel", "other", "[I", true)
  | 13 => ("TaleTypesModel", "otherMany", "I", false)
  | 14 => ("TaleTypesModel", "sums", "[I", true)
  | 15 => ("TaleTypesModel", "ways", "[I", true)
  | 16 => ("TaleTypesModel", "way", "[I", true)
  | 17 => ("TaleTypesModel", "inBoth", "[I", true)
  | 18 => ("TaleTypesModel", "far", "[I", true)
  | 19 => ("TaleTypesModel", "typeSets", "[I", true)
  | 20 => ("TaleTypesModel", "typesMany", "I", false)
  | 21 => ("TaleTypesModel", "nodes", "[I", true)
  | 22 => ("TaleTypesModel", "firsts", "[I", true)
  | _ => ("TaleTypesModel", "heights", "[I", true)
def tyX8 : Nat → FieldType := fun k => match k with
  | 0 => .array .int
  | 1 => .array .int
  | 2 => .int
  | 3 => .array .int
  | 4 => .array .boolean
  | 5 => .array .int
  | 6 => .int
  | 7 => .array .int
  | 8 => .int
  | 9 => .int
  | 10 => .array .int
  | 11 => .int
  | 12 => .array .int
  | 13 => .int
  | 14 => .array .int
  | 15 => .array .int
  | 16 => .array .int
  | 17 => .array .int
  | 18 => .array .int
  | 19 => .array .int
  | 20 => .int
  | 21 => .array .int
  | 22 => .array .int
  | _ => .array .int
abbrev wsX80 : List Cond := u_ws RX8 TX8 24
theorem nmX8 : ∀ a, a < 24 → ∀ b, b < 24 → a ≠ b → (TX8 a).2.1 ≠ (TX8 b).2.1 := by decide +kernel
theorem tyX8_ok : ∀ k, k < 24 → parseFieldDescriptor (TX8 k).2.2.1 = some (tyX8 k) := by decide +kernel
abbrev cX8_init : ByteArray := prog_10_method_1_code
def yX8_init : MethodName := ⟨RX8, "<init>", "()V"⟩
abbrev cX8_in : ByteArray := prog_10_method_2_code
def yX8_in : MethodName := ⟨RX8, "in", "(III)Z"⟩
abbrev cX8_bring : ByteArray := prog_10_method_3_code
def yX8_bring : MethodName := ⟨RX8, "bring", "([II[III)V"⟩
abbrev cX8_has : ByteArray := prog_10_method_4_code
def yX8_has : MethodName := ⟨RX8, "has", "(II)Z"⟩
abbrev cX8_ones : ByteArray := prog_10_method_5_code
def yX8_ones : MethodName := ⟨RX8, "ones", "(I)I"⟩
abbrev cX8_lesser : ByteArray := prog_10_method_6_code
def yX8_lesser : MethodName := ⟨RX8, "lesser", "(II)I"⟩
abbrev cX8_isTale : ByteArray := prog_10_method_7_code
def yX8_isTale : MethodName := ⟨RX8, "isTale", "(I)Z"⟩
abbrev cX8_takes : ByteArray := prog_10_method_8_code
def yX8_takes : MethodName := ⟨RX8, "takes", "(II)V"⟩
abbrev cX8_changeOf : ByteArray := prog_10_method_9_code
def yX8_changeOf : MethodName := ⟨RX8, "changeOf", "(II)I"⟩
abbrev cX8_isTurned : ByteArray := prog_10_method_10_code
def yX8_isTurned : MethodName := ⟨RX8, "isTurned", "(II)Z"⟩
abbrev cX8_stepCost : ByteArray := prog_10_method_11_code
def yX8_stepCost : MethodName := ⟨RX8, "stepCost", "(III)I"⟩
abbrev cX8_firstBy : ByteArray := prog_10_method_12_code
def yX8_firstBy : MethodName := ⟨RX8, "firstBy", "(I)I"⟩
abbrev cX8_otherBy : ByteArray := prog_10_method_13_code
def yX8_otherBy : MethodName := ⟨RX8, "otherBy", "(I)I"⟩
abbrev cX8_cellOf : ByteArray := prog_10_method_14_code
def yX8_cellOf : MethodName := ⟨RX8, "cellOf", "(II)I"⟩
abbrev cX8_linesUp : ByteArray := prog_10_method_15_code
def yX8_linesUp : MethodName := ⟨RX8, "linesUp", "()I"⟩
abbrev cX8_apart : ByteArray := prog_10_method_16_code
def yX8_apart : MethodName := ⟨RX8, "apart", "(II)I"⟩
abbrev cX8_laysWay : ByteArray := prog_10_method_17_code
def yX8_laysWay : MethodName := ⟨RX8, "laysWay", "(II)I"⟩
abbrev cX8_isOfLeast : ByteArray := prog_10_method_18_code
def yX8_isOfLeast : MethodName := ⟨RX8, "isOfLeast", "(IIII)Z"⟩
abbrev cX8_commonOrder : ByteArray := prog_10_method_19_code
def yX8_commonOrder : MethodName := ⟨RX8, "commonOrder", "(II)I"⟩
abbrev cX8_laysFar : ByteArray := prog_10_method_20_code
def yX8_laysFar : MethodName := ⟨RX8, "laysFar", "()V"⟩
abbrev cX8_nearBy : ByteArray := prog_10_method_21_code
def yX8_nearBy : MethodName := ⟨RX8, "nearBy", "(II)I"⟩
abbrev cX8_partsOf : ByteArray := prog_10_method_22_code
def yX8_partsOf : MethodName := ⟨RX8, "partsOf", "(II)I"⟩
abbrev cX8_joins : ByteArray := prog_10_method_23_code
def yX8_joins : MethodName := ⟨RX8, "joins", "(II)V"⟩
abbrev cX8_joinsOnce : ByteArray := prog_10_method_24_code
def yX8_joinsOnce : MethodName := ⟨RX8, "joinsOnce", "(I)V"⟩
abbrev cX8_beginsTypes : ByteArray := prog_10_method_25_code
def yX8_beginsTypes : MethodName := ⟨RX8, "beginsTypes", "()V"⟩
abbrev cX8_nodesMany : ByteArray := prog_10_method_26_code
def yX8_nodesMany : MethodName := ⟨RX8, "nodesMany", "()I"⟩
abbrev cX8_laysNodes : ByteArray := prog_10_method_27_code
def yX8_laysNodes : MethodName := ⟨RX8, "laysNodes", "()V"⟩
abbrev cX8_middleOf : ByteArray := prog_10_method_28_code
def yX8_middleOf : MethodName := ⟨RX8, "middleOf", "(I)I"⟩
abbrev cX8_allHave : ByteArray := prog_10_method_29_code
def yX8_allHave : MethodName := ⟨RX8, "allHave", "(I)I"⟩
abbrev cX8_likeTyped : ByteArray := prog_10_method_30_code
def yX8_likeTyped : MethodName := ⟨RX8, "likeTyped", "()I"⟩
abbrev cX8_hangs : ByteArray := prog_10_method_31_code
def yX8_hangs : MethodName := ⟨RX8, "hangs", "(I)Z"⟩
abbrev cX8_over : ByteArray := prog_10_method_32_code
def yX8_over : MethodName := ⟨RX8, "over", "(I)I"⟩
abbrev cX8_wanders : ByteArray := prog_10_method_33_code
def yX8_wanders : MethodName := ⟨RX8, "wanders", "(I)I"⟩
abbrev cX8_feed : ByteArray := prog_10_method_34_code
def yX8_feed : MethodName := ⟨RX8, "feed", "(I)I"⟩
abbrev cX8_notes : ByteArray := prog_10_method_35_code
def yX8_notes : MethodName := ⟨RX8, "notes", "()V"⟩
abbrev cX8_tale : ByteArray := prog_10_method_36_code
def yX8_tale : MethodName := ⟨RX8, "tale", "()I"⟩
abbrev cX8_wrong : ByteArray := prog_10_method_37_code
def yX8_wrong : MethodName := ⟨RX8, "wrong", "()I"⟩
abbrev cX8_told : ByteArray := prog_10_method_38_code
def yX8_told : MethodName := ⟨RX8, "told", "(I)I"⟩
abbrev cX8_taleAt : ByteArray := prog_10_method_39_code
def yX8_taleAt : MethodName := ⟨RX8, "taleAt", "(II)I"⟩
abbrev cX8_motif : ByteArray := prog_10_method_40_code
def yX8_motif : MethodName := ⟨RX8, "motif", "(II)I"⟩
abbrev cX8_costAt : ByteArray := prog_10_method_41_code
def yX8_costAt : MethodName := ⟨RX8, "costAt", "(I)I"⟩
abbrev cX8_pair : ByteArray := prog_10_method_42_code
def yX8_pair : MethodName := ⟨RX8, "pair", "(III)I"⟩
abbrev cX8_step : ByteArray := prog_10_method_43_code
def yX8_step : MethodName := ⟨RX8, "step", "(III)I"⟩
abbrev cX8_node : ByteArray := prog_10_method_44_code
def yX8_node : MethodName := ⟨RX8, "node", "(II)I"⟩
abbrev cX8_types : ByteArray := prog_10_method_45_code
def yX8_types : MethodName := ⟨RX8, "types", "(II)I"⟩
abbrev cX8_areTales : ByteArray := prog_10_method_46_code
def yX8_areTales : MethodName := ⟨RX8, "areTales", "(I)Z"⟩
abbrev cX8_middle : ByteArray := prog_10_method_47_code
def yX8_middle : MethodName := ⟨RX8, "middle", "(I)I"⟩
abbrev cX8_common : ByteArray := prog_10_method_48_code
def yX8_common : MethodName := ⟨RX8, "common", "(I)I"⟩
abbrev cX8_wandered : ByteArray := prog_10_method_49_code
def yX8_wandered : MethodName := ⟨RX8, "wandered", "(II)I"⟩
abbrev cX8_take : ByteArray := prog_10_method_50_code
def yX8_take : MethodName := ⟨RX8, "take", "(I)I"⟩
abbrev cX8_cost : ByteArray := prog_10_method_51_code
def yX8_cost : MethodName := ⟨RX8, "cost", "(II)I"⟩
abbrev cX8_kind : ByteArray := prog_10_method_52_code
def yX8_kind : MethodName := ⟨RX8, "kind", "(I)I"⟩
abbrev cX8_isPlace : ByteArray := prog_10_method_53_code
def yX8_isPlace : MethodName := ⟨RX8, "isPlace", "(I)Z"⟩
abbrev cX8_road : ByteArray := prog_10_method_54_code
def yX8_road : MethodName := ⟨RX8, "road", "(IIZ)I"⟩
abbrev cX8_at : ByteArray := prog_10_method_55_code
def yX8_at : MethodName := ⟨RX8, "at", "(II)I"⟩
abbrev cX8_draw : ByteArray := prog_10_method_56_code
def yX8_draw : MethodName := ⟨RX8, "draw", "(I)I"⟩
abbrev cX8_drift : ByteArray := prog_10_method_57_code
def yX8_drift : MethodName := ⟨RX8, "drift", "(I)I"⟩
abbrev cX8_undo : ByteArray := prog_10_method_58_code
def yX8_undo : MethodName := ⟨RX8, "undo", "(I)I"⟩
abbrev cX8_write : ByteArray := prog_10_method_59_code
def yX8_write : MethodName := ⟨RX8, "write", "(III)I"⟩
abbrev cX8_tear : ByteArray := prog_10_method_60_code
def yX8_tear : MethodName := ⟨RX8, "tear", "()I"⟩
abbrev cX8_seed : ByteArray := prog_10_method_61_code
def yX8_seed : MethodName := ⟨RX8, "seed", "(I)I"⟩
abbrev cX8_keep : ByteArray := prog_10_method_62_code
def yX8_keep : MethodName := ⟨RX8, "keep", "(I)I"⟩
abbrev cX8_goBack : ByteArray := prog_10_method_63_code
def yX8_goBack : MethodName := ⟨RX8, "goBack", "(I)I"⟩
def RJ6 : String := "java/lang/Integer"
def TJ6 : u_T := fun k => match k with
  | _ => ("", "", "", false)
def tyJ6 : Nat → FieldType := fun k => match k with
  | _ => .int
abbrev wsJ60 : List Cond := u_ws RJ6 TJ6 0
theorem nmJ6 : ∀ a, a < 0 → ∀ b, b < 0 → a ≠ b → (TJ6 a).2.1 ≠ (TJ6 b).2.1 := by decide +kernel
theorem tyJ6_ok : ∀ k, k < 0 → parseFieldDescriptor (TJ6 k).2.2.1 = some (tyJ6 k) := by decide +kernel
abbrev cJ6_bitCount_0f7a4 : ByteArray := prog_11_method_49_code
def yJ6_bitCount_0f7a4 : MethodName := ⟨RJ6, "bitCount", "(I)I"⟩
def RJ9 : String := "java/lang/Math"
def TJ9 : u_T := fun k => match k with
  | _ => ("", "", "", false)
def tyJ9 : Nat → FieldType := fun k => match k with
  | _ => .int
abbrev wsJ90 : List Cond := u_ws RJ9 TJ9 0
theorem nmJ9 : ∀ a, a < 0 → ∀ b, b < 0 → a ≠ b → (TJ9 a).2.1 ≠ (TJ9 b).2.1 := by decide +kernel
theorem tyJ9_ok : ∀ k, k < 0 → parseFieldDescriptor (TJ9 k).2.2.1 = some (tyJ9 k) := by decide +kernel
abbrev cJ9_abs_0f7a4 : ByteArray := prog_12_method_59_code
def yJ9_abs_0f7a4 : MethodName := ⟨RJ9, "abs", "(I)I"⟩
abbrev cJ9_max_7cf53 : ByteArray := prog_12_method_65_code
def yJ9_max_7cf53 : MethodName := ⟨RJ9, "max", "(II)I"⟩
abbrev cJ9_min_7cf53 : ByteArray := prog_12_method_69_code
def yJ9_min_7cf53 : MethodName := ⟨RJ9, "min", "(II)I"⟩
def RJ10 : String := "java/lang/System"
def TJ10 : u_T := fun k => match k with
  | _ => ("", "", "", false)
def tyJ10 : Nat → FieldType := fun k => match k with
  | _ => .int
abbrev wsJ100 : List Cond := u_ws RJ10 TJ10 0
theorem nmJ10 : ∀ a, a < 0 → ∀ b, b < 0 → a ≠ b → (TJ10 a).2.1 ≠ (TJ10 b).2.1 := by decide +kernel
theorem tyJ10_ok : ∀ k, k < 0 → parseFieldDescriptor (TJ10 k).2.2.1 = some (tyJ10 k) := by decide +kernel
def RL : String := "TaleTypesLaw"
abbrev cL_law : ByteArray := code
def yL_law : MethodName := ⟨RL, "law", "([I)Z"⟩
end
section
theorem dX0_init_0 : decode cX0_init 0 = .ok (.aload_n 0, 1) := by decide +kernel
theorem dX0_init_1 : decode cX0_init 1 = .ok (.invokespecial 3, 3) := by decide +kernel
theorem dX0_init_4 : decode cX0_init 4 = .ok (.aload_n 0, 1) := by decide +kernel
theorem dX0_init_5 : decode cX0_init 5 = .ok (.bipush 20, 2) := by decide +kernel
theorem dX0_init_7 : decode cX0_init 7 = .ok (.newarray .int, 2) := by decide +kernel
theorem dX0_init_9 : decode cX0_init 9 = .ok (.putfield 9, 3) := by decide +kernel
theorem dX0_init_12 : decode cX0_init 12 = .ok (.aload_n 0, 1) := by decide +kernel
theorem dX0_init_13 : decode cX0_init 13 = .ok (.bipush 20, 2) := by decide +kernel
theorem dX0_init_15 : decode cX0_init 15 = .ok (.newarray .int, 2) := by decide +kernel
theorem dX0_init_17 : decode cX0_init 17 = .ok (.putfield 15, 3) := by decide +kernel
theorem dX0_init_20 : decode cX0_init 20 = .ok (.aload_n 0, 1) := by decide +kernel
theorem dX0_init_21 : decode cX0_init 21 = .ok (.bipush 20, 2) := by decide +kernel
theorem dX0_init_23 : decode cX0_init 23 = .ok (.newarray .int, 2) := by decide +kernel
theorem dX0_init_25 : decode cX0_init 25 = .ok (.putfield 18, 3) := by decide +kernel
theorem dX0_init_28 : decode cX0_init 28 = .ok (.aload_n 0, 1) := by decide +kernel
theorem dX0_init_29 : decode cX0_init 29 = .ok (.iconst 0, 1) := by decide +kernel
theorem dX0_init_30 : decode cX0_init 30 = .ok (.putfield 21, 3) := by decide +kernel
theorem dX0_init_33 : decode cX0_init 33 = .ok (.return_, 1) := by decide +kernel
theorem dX0_add_0 : decode cX0_add 0 = .ok (.aload_n 0, 1) := by decide +kernel
theorem dX0_add_1 : decode cX0_add 1 = .ok (.getfield 21, 3) := by decide +kernel
theorem dX0_add_4 : decode cX0_add 4 = .ok (.bipush 20, 2) := by decide +kernel
theorem dX0_add_6 : decode cX0_add 6 = .ok (.if_icmp .lt 4, 3) := by decide +kernel
theorem dX0_add_9 : decode cX0_add 9 = .ok (.return_, 1) := by decide +kernel
theorem dX0_add_10 : decode cX0_add 10 = .ok (.aload_n 0, 1) := by decide +kernel
theorem dX0_add_11 : decode cX0_add 11 = .ok (.getfield 9, 3) := by decide +kernel
theorem dX0_add_14 : decode cX0_add 14 = .ok (.aload_n 0, 1) := by decide +kernel
theorem dX0_add_15 : decode cX0_add 15 = .ok (.getfield 21, 3) := by decide +kernel
theorem dX0_add_18 : decode cX0_add 18 = .ok (.iload_n 1, 1) := by decide +kernel
theorem dX0_add_19 : decode cX0_add 19 = .ok (.iastore, 1) := by decide +kernel
theorem dX0_add_20 : decode cX0_add 20 = .ok (.aload_n 0, 1) := by decide +kernel
theorem dX0_add_21 : decode cX0_add 21 = .ok (.getfield 15, 3) := by decide +kernel
theorem dX0_add_24 : decode cX0_add 24 = .ok (.aload_n 0, 1) := by decide +kernel
theorem dX0_add_25 : decode cX0_add 25 = .ok (.getfield 21, 3) := by decide +kernel
theorem dX0_add_28 : decode cX0_add 28 = .ok (.iload_n 2, 1) := by decide +kernel
theorem dX0_add_29 : decode cX0_add 29 = .ok (.iastore, 1) := by decide +kernel
theorem dX0_add_30 : decode cX0_add 30 = .ok (.aload_n 0, 1) := by decide +kernel
theorem dX0_add_31 : decode cX0_add 31 = .ok (.getfield 18, 3) := by decide +kernel
theorem dX0_add_34 : decode cX0_add 34 = .ok (.aload_n 0, 1) := by decide +kernel
theorem dX0_add_35 : decode cX0_add 35 = .ok (.getfield 21, 3) := by decide +kernel
theorem dX0_add_38 : decode cX0_add 38 = .ok (.iload_n 3, 1) := by decide +kernel
theorem dX0_add_39 : decode cX0_add 39 = .ok (.iastore, 1) := by decide +kernel
theorem dX0_add_40 : decode cX0_add 40 = .ok (.aload_n 0, 1) := by decide +kernel
theorem dX0_add_41 : decode cX0_add 41 = .ok (.dup, 1) := by decide +kernel
theorem dX0_add_42 : decode cX0_add 42 = .ok (.getfield 21, 3) := by decide +kernel
theorem dX0_add_45 : decode cX0_add 45 = .ok (.iconst 1, 1) := by decide +kernel
theorem dX0_add_46 : decode cX0_add 46 = .ok (.iadd, 1) := by decide +kernel
theorem dX0_add_47 : decode cX0_add 47 = .ok (.putfield 21, 3) := by decide +kernel
theorem dX0_add_50 : decode cX0_add 50 = .ok (.return_, 1) := by decide +kernel
theorem dX0_firstOtherwise_0 : decode cX0_firstOtherwise 0 = .ok (.iconst 0, 1) := by decide +kernel
theorem dX0_firstOtherwise_1 : decode cX0_firstOtherwise 1 = .ok (.istore_n 3, 1) := by decide +kernel
theorem dX0_firstOtherwise_2 : decode cX0_firstOtherwise 2 = .ok (.iload_n 3, 1) := by decide +kernel
theorem dX0_firstOtherwise_3 : decode cX0_firstOtherwise 3 = .ok (.aload_n 0, 1) := by decide +kernel
theorem dX0_firstOtherwise_4 : decode cX0_firstOtherwise 4 = .ok (.getfield 21, 3) := by decide +kernel
theorem dX0_firstOtherwise_7 : decode cX0_firstOtherwise 7 = .ok (.if_icmp .ge 68, 3) := by decide +kernel
theorem dX0_firstOtherwise_10 : decode cX0_firstOtherwise 10 = .ok (.aload_n 0, 1) := by decide +kernel
theorem dX0_firstOtherwise_11 : decode cX0_firstOtherwise 11 = .ok (.getfield 9, 3) := by decide +kernel
theorem dX0_firstOtherwise_14 : decode cX0_firstOtherwise 14 = .ok (.iload_n 3, 1) := by decide +kernel
theorem dX0_firstOtherwise_15 : decode cX0_firstOtherwise 15 = .ok (.iaload, 1) := by decide +kernel
theorem dX0_firstOtherwise_16 : decode cX0_firstOtherwise 16 = .ok (.iload_n 2, 1) := by decide +kernel
theorem dX0_firstOtherwise_17 : decode cX0_firstOtherwise 17 = .ok (.if_icmp .ge 13, 3) := by decide +kernel
theorem dX0_firstOtherwise_20 : decode cX0_firstOtherwise 20 = .ok (.aload_n 0, 1) := by decide +kernel
theorem dX0_firstOtherwise_21 : decode cX0_firstOtherwise 21 = .ok (.getfield 15, 3) := by decide +kernel
theorem dX0_firstOtherwise_24 : decode cX0_firstOtherwise 24 = .ok (.iload_n 3, 1) := by decide +kernel
theorem dX0_firstOtherwise_25 : decode cX0_firstOtherwise 25 = .ok (.iaload, 1) := by decide +kernel
theorem dX0_firstOtherwise_26 : decode cX0_firstOtherwise 26 = .ok (.iload_n 2, 1) := by decide +kernel
theorem dX0_firstOtherwise_27 : decode cX0_firstOtherwise 27 = .ok (.if_icmp .lt 7, 3) := by decide +kernel
theorem dX0_firstOtherwise_30 : decode cX0_firstOtherwise 30 = .ok (.iconst 1, 1) := by decide +kernel
theorem dX0_firstOtherwise_31 : decode cX0_firstOtherwise 31 = .ok (.goto 4, 3) := by decide +kernel
theorem dX0_firstOtherwise_34 : decode cX0_firstOtherwise 34 = .ok (.iconst 0, 1) := by decide +kernel
theorem dX0_firstOtherwise_35 : decode cX0_firstOtherwise 35 = .ok (.istore 4, 2) := by decide +kernel
theorem dX0_firstOtherwise_37 : decode cX0_firstOtherwise 37 = .ok (.iload 4, 2) := by decide +kernel
theorem dX0_firstOtherwise_39 : decode cX0_firstOtherwise 39 = .ok (.ifCond .ne 28, 3) := by decide +kernel
theorem dX0_firstOtherwise_42 : decode cX0_firstOtherwise 42 = .ok (.aload_n 1, 1) := by decide +kernel
theorem dX0_firstOtherwise_43 : decode cX0_firstOtherwise 43 = .ok (.aload_n 0, 1) := by decide +kernel
theorem dX0_firstOtherwise_44 : decode cX0_firstOtherwise 44 = .ok (.getfield 9, 3) := by decide +kernel
theorem dX0_firstOtherwise_47 : decode cX0_firstOtherwise 47 = .ok (.iload_n 3, 1) := by decide +kernel
theorem dX0_firstOtherwise_48 : decode cX0_firstOtherwise 48 = .ok (.iaload, 1) := by decide +kernel
theorem dX0_firstOtherwise_49 : decode cX0_firstOtherwise 49 = .ok (.aload_n 0, 1) := by decide +kernel
theorem dX0_firstOtherwise_50 : decode cX0_firstOtherwise 50 = .ok (.getfield 15, 3) := by decide +kernel
theorem dX0_firstOtherwise_53 : decode cX0_firstOtherwise 53 = .ok (.iload_n 3, 1) := by decide +kernel
theorem dX0_firstOtherwise_54 : decode cX0_firstOtherwise 54 = .ok (.iaload, 1) := by decide +kernel
theorem dX0_firstOtherwise_55 : decode cX0_firstOtherwise 55 = .ok (.invokevirtual 25, 3) := by decide +kernel
theorem dX0_firstOtherwise_58 : decode cX0_firstOtherwise 58 = .ok (.aload_n 0, 1) := by decide +kernel
theorem dX0_firstOtherwise_59 : decode cX0_firstOtherwise 59 = .ok (.getfield 18, 3) := by decide +kernel
theorem dX0_firstOtherwise_62 : decode cX0_firstOtherwise 62 = .ok (.iload_n 3, 1) := by decide +kernel
theorem dX0_firstOtherwise_63 : decode cX0_firstOtherwise 63 = .ok (.iaload, 1) := by decide +kernel
theorem dX0_firstOtherwise_64 : decode cX0_firstOtherwise 64 = .ok (.if_icmp .eq 5, 3) := by decide +kernel
theorem dX0_firstOtherwise_67 : decode cX0_firstOtherwise 67 = .ok (.iload_n 3, 1) := by decide +kernel
theorem dX0_firstOtherwise_68 : decode cX0_firstOtherwise 68 = .ok (.ireturn, 1) := by decide +kernel
theorem dX0_firstOtherwise_69 : decode cX0_firstOtherwise 69 = .ok (.iinc 3 1, 3) := by decide +kernel
theorem dX0_firstOtherwise_72 : decode cX0_firstOtherwise 72 = .ok (.goto (-70), 3) := by decide +kernel
theorem dX0_firstOtherwise_75 : decode cX0_firstOtherwise 75 = .ok (.iconst (-1), 1) := by decide +kernel
theorem dX0_firstOtherwise_76 : decode cX0_firstOtherwise 76 = .ok (.ireturn, 1) := by decide +kernel
theorem dX1_init_0 : decode cX1_init 0 = .ok (.aload_n 0, 1) := by decide +kernel
theorem dX1_init_1 : decode cX1_init 1 = .ok (.invokespecial 3, 3) := by decide +kernel
theorem dX1_init_4 : decode cX1_init 4 = .ok (.aload_n 0, 1) := by decide +kernel
theorem dX1_init_5 : decode cX1_init 5 = .ok (.bipush 16, 2) := by decide +kernel
theorem dX1_init_7 : decode cX1_init 7 = .ok (.anewarray 9, 3) := by decide +kernel
theorem dX1_init_10 : decode cX1_init 10 = .ok (.putfield 11, 3) := by decide +kernel
theorem dX1_init_13 : decode cX1_init 13 = .ok (.aload_n 0, 1) := by decide +kernel
theorem dX1_init_14 : decode cX1_init 14 = .ok (.iconst 0, 1) := by decide +kernel
theorem dX1_init_15 : decode cX1_init 15 = .ok (.putfield 17, 3) := by decide +kernel
theorem dX1_init_18 : decode cX1_init 18 = .ok (.aload_n 0, 1) := by decide +kernel
theorem dX1_init_19 : decode cX1_init 19 = .ok (.iconst 0, 1) := by decide +kernel
theorem dX1_init_20 : decode cX1_init 20 = .ok (.putfield 21, 3) := by decide +kernel
theorem dX1_init_23 : decode cX1_init 23 = .ok (.iconst 0, 1) := by decide +kernel
theorem dX1_init_24 : decode cX1_init 24 = .ok (.istore_n 1, 1) := by decide +kernel
theorem dX1_init_25 : decode cX1_init 25 = .ok (.iload_n 1, 1) := by decide +kernel
theorem dX1_init_26 : decode cX1_init 26 = .ok (.bipush 16, 2) := by decide +kernel
theorem dX1_init_28 : decode cX1_init 28 = .ok (.if_icmp .ge 22, 3) := by decide +kernel
theorem dX1_init_31 : decode cX1_init 31 = .ok (.aload_n 0, 1) := by decide +kernel
theorem dX1_init_32 : decode cX1_init 32 = .ok (.getfield 11, 3) := by decide +kernel
theorem dX1_init_35 : decode cX1_init 35 = .ok (.iload_n 1, 1) := by decide +kernel
theorem dX1_init_36 : decode cX1_init 36 = .ok (.new 9, 3) := by decide +kernel
theorem dX1_init_39 : decode cX1_init 39 = .ok (.dup, 1) := by decide +kernel
theorem dX1_init_40 : decode cX1_init 40 = .ok (.invokespecial 24, 3) := by decide +kernel
theorem dX1_init_43 : decode cX1_init 43 = .ok (.aastore, 1) := by decide +kernel
theorem dX1_init_44 : decode cX1_init 44 = .ok (.iinc 1 1, 3) := by decide +kernel
theorem dX1_init_47 : decode cX1_init 47 = .ok (.goto (-22), 3) := by decide +kernel
theorem dX1_init_50 : decode cX1_init 50 = .ok (.return_, 1) := by decide +kernel
theorem dX1_remember_0 : decode cX1_remember 0 = .ok (.aload_n 0, 1) := by decide +kernel
theorem dX1_remember_1 : decode cX1_remember 1 = .ok (.getfield 11, 3) := by decide +kernel
theorem dX1_remember_4 : decode cX1_remember 4 = .ok (.aload_n 0, 1) := by decide +kernel
theorem dX1_remember_5 : decode cX1_remember 5 = .ok (.getfield 21, 3) := by decide +kernel
theorem dX1_remember_8 : decode cX1_remember 8 = .ok (.aaload, 1) := by decide +kernel
theorem dX1_remember_9 : decode cX1_remember 9 = .ok (.aload_n 1, 1) := by decide +kernel
theorem dX1_remember_10 : decode cX1_remember 10 = .ok (.invokevirtual 25, 3) := by decide +kernel
theorem dX1_remember_13 : decode cX1_remember 13 = .ok (.aload_n 0, 1) := by decide +kernel
theorem dX1_remember_14 : decode cX1_remember 14 = .ok (.aload_n 0, 1) := by decide +kernel
theorem dX1_remember_15 : decode cX1_remember 15 = .ok (.getfield 21, 3) := by decide +kernel
theorem dX1_remember_18 : decode cX1_remember 18 = .ok (.iconst 1, 1) := by decide +kernel
theorem dX1_remember_19 : decode cX1_remember 19 = .ok (.iadd, 1) := by decide +kernel
theorem dX1_remember_20 : decode cX1_remember 20 = .ok (.bipush 16, 2) := by decide +kernel
theorem dX1_remember_22 : decode cX1_remember 22 = .ok (.irem, 1) := by decide +kernel
theorem dX1_remember_23 : decode cX1_remember 23 = .ok (.putfield 21, 3) := by decide +kernel
theorem dX1_remember_26 : decode cX1_remember 26 = .ok (.aload_n 0, 1) := by decide +kernel
theorem dX1_remember_27 : decode cX1_remember 27 = .ok (.aload_n 0, 1) := by decide +kernel
theorem dX1_remember_28 : decode cX1_remember 28 = .ok (.getfield 17, 3) := by decide +kernel
theorem dX1_remember_31 : decode cX1_remember 31 = .ok (.iconst 1, 1) := by decide +kernel
theorem dX1_remember_32 : decode cX1_remember 32 = .ok (.iadd, 1) := by decide +kernel
theorem dX1_remember_33 : decode cX1_remember 33 = .ok (.bipush 16, 2) := by decide +kernel
theorem dX1_remember_35 : decode cX1_remember 35 = .ok (.invokestatic 29, 3) := by decide +kernel
theorem dX1_remember_38 : decode cX1_remember 38 = .ok (.putfield 17, 3) := by decide +kernel
theorem dX1_remember_41 : decode cX1_remember 41 = .ok (.return_, 1) := by decide +kernel
theorem dX1_takeBack_0 : decode cX1_takeBack 0 = .ok (.iload_n 1, 1) := by decide +kernel
theorem dX1_takeBack_1 : decode cX1_takeBack 1 = .ok (.iconst 1, 1) := by decide +kernel
theorem dX1_takeBack_2 : decode cX1_takeBack 2 = .ok (.if_icmp .lt 11, 3) := by decide +kernel
theorem dX1_takeBack_5 : decode cX1_takeBack 5 = .ok (.iload_n 1, 1) := by decide +kernel
theorem dX1_takeBack_6 : decode cX1_takeBack 6 = .ok (.aload_n 0, 1) := by decide +kernel
theorem dX1_takeBack_7 : decode cX1_takeBack 7 = .ok (.getfield 17, 3) := by decide +kernel
theorem dX1_takeBack_10 : decode cX1_takeBack 10 = .ok (.if_icmp .le 4, 3) := by decide +kernel
theorem dX1_takeBack_13 : decode cX1_takeBack 13 = .ok (.return_, 1) := by decide +kernel
theorem dX1_takeBack_14 : decode cX1_takeBack 14 = .ok (.aload_n 0, 1) := by decide +kernel
theorem dX1_takeBack_15 : decode cX1_takeBack 15 = .ok (.aload_n 0, 1) := by decide +kernel
theorem dX1_takeBack_16 : decode cX1_takeBack 16 = .ok (.getfield 21, 3) := by decide +kernel
theorem dX1_takeBack_19 : decode cX1_takeBack 19 = .ok (.bipush 16, 2) := by decide +kernel
theorem dX1_takeBack_21 : decode cX1_takeBack 21 = .ok (.iadd, 1) := by decide +kernel
theorem dX1_takeBack_22 : decode cX1_takeBack 22 = .ok (.iload_n 1, 1) := by decide +kernel
theorem dX1_takeBack_23 : decode cX1_takeBack 23 = .ok (.isub, 1) := by decide +kernel
theorem dX1_takeBack_24 : decode cX1_takeBack 24 = .ok (.bipush 16, 2) := by decide +kernel
theorem dX1_takeBack_26 : decode cX1_takeBack 26 = .ok (.irem, 1) := by decide +kernel
theorem dX1_takeBack_27 : decode cX1_takeBack 27 = .ok (.putfield 21, 3) := by decide +kernel
theorem dX1_takeBack_30 : decode cX1_takeBack 30 = .ok (.aload_n 0, 1) := by decide +kernel
theorem dX1_takeBack_31 : decode cX1_takeBack 31 = .ok (.dup, 1) := by decide +kernel
theorem dX1_takeBack_32 : decode cX1_takeBack 32 = .ok (.getfield 17, 3) := by decide +kernel
theorem dX1_takeBack_35 : decode cX1_takeBack 35 = .ok (.iload_n 1, 1) := by decide +kernel
theorem dX1_takeBack_36 : decode cX1_takeBack 36 = .ok (.isub, 1) := by decide +kernel
theorem dX1_takeBack_37 : decode cX1_takeBack 37 = .ok (.putfield 17, 3) := by decide +kernel
theorem dX1_takeBack_40 : decode cX1_takeBack 40 = .ok (.aload_n 2, 1) := by decide +kernel
theorem dX1_takeBack_41 : decode cX1_takeBack 41 = .ok (.aload_n 0, 1) := by decide +kernel
theorem dX1_takeBack_42 : decode cX1_takeBack 42 = .ok (.getfield 11, 3) := by decide +kernel
theorem dX1_takeBack_45 : decode cX1_takeBack 45 = .ok (.aload_n 0, 1) := by decide +kernel
theorem dX1_takeBack_46 : decode cX1_takeBack 46 = .ok (.getfield 21, 3) := by decide +kernel
theorem dX1_takeBack_49 : decode cX1_takeBack 49 = .ok (.aaload, 1) := by decide +kernel
theorem dX1_takeBack_50 : decode cX1_takeBack 50 = .ok (.invokevirtual 25, 3) := by decide +kernel
theorem dX1_takeBack_53 : decode cX1_takeBack 53 = .ok (.return_, 1) := by decide +kernel
theorem dX2_init_0 : decode cX2_init 0 = .ok (.aload_n 0, 1) := by decide +kernel
theorem dX2_init_1 : decode cX2_init 1 = .ok (.invokespecial 3, 3) := by decide +kernel
theorem dX2_init_4 : decode cX2_init 4 = .ok (.aload_n 0, 1) := by decide +kernel
theorem dX2_init_5 : decode cX2_init 5 = .ok (.bipush 64, 2) := by decide +kernel
theorem dX2_init_7 : decode cX2_init 7 = .ok (.newarray .int, 2) := by decide +kernel
theorem dX2_init_9 : decode cX2_init 9 = .ok (.putfield 9, 3) := by decide +kernel
theorem dX2_init_12 : decode cX2_init 12 = .ok (.return_, 1) := by decide +kernel
theorem dX2_measure_0 : decode cX2_measure 0 = .ok (.iconst 0, 1) := by decide +kernel
theorem dX2_measure_1 : decode cX2_measure 1 = .ok (.istore_n 3, 1) := by decide +kernel
theorem dX2_measure_2 : decode cX2_measure 2 = .ok (.iload_n 3, 1) := by decide +kernel
theorem dX2_measure_3 : decode cX2_measure 3 = .ok (.aload_n 1, 1) := by decide +kernel
theorem dX2_measure_4 : decode cX2_measure 4 = .ok (.getfield 15, 3) := by decide +kernel
theorem dX2_measure_7 : decode cX2_measure 7 = .ok (.if_icmp .ge 80, 3) := by decide +kernel
theorem dX2_measure_10 : decode cX2_measure 10 = .ok (.iload_n 3, 1) := by decide +kernel
theorem dX2_measure_11 : decode cX2_measure 11 = .ok (.istore 4, 2) := by decide +kernel
theorem dX2_measure_13 : decode cX2_measure 13 = .ok (.iload 4, 2) := by decide +kernel
theorem dX2_measure_15 : decode cX2_measure 15 = .ok (.aload_n 1, 1) := by decide +kernel
theorem dX2_measure_16 : decode cX2_measure 16 = .ok (.getfield 15, 3) := by decide +kernel
theorem dX2_measure_19 : decode cX2_measure 19 = .ok (.if_icmp .ge 62, 3) := by decide +kernel
theorem dX2_measure_22 : decode cX2_measure 22 = .ok (.aload_n 2, 1) := by decide +kernel
theorem dX2_measure_23 : decode cX2_measure 23 = .ok (.aload_n 1, 1) := by decide +kernel
theorem dX2_measure_24 : decode cX2_measure 24 = .ok (.getfield 21, 3) := by decide +kernel
theorem dX2_measure_27 : decode cX2_measure 27 = .ok (.iload_n 3, 1) := by decide +kernel
theorem dX2_measure_28 : decode cX2_measure 28 = .ok (.laload, 1) := by decide +kernel
theorem dX2_measure_29 : decode cX2_measure 29 = .ok (.aload_n 1, 1) := by decide +kernel
theorem dX2_measure_30 : decode cX2_measure 30 = .ok (.getfield 21, 3) := by decide +kernel
theorem dX2_measure_33 : decode cX2_measure 33 = .ok (.iload 4, 2) := by decide +kernel
theorem dX2_measure_35 : decode cX2_measure 35 = .ok (.laload, 1) := by decide +kernel
theorem dX2_measure_36 : decode cX2_measure 36 = .ok (.aload_n 1, 1) := by decide +kernel
theorem dX2_measure_37 : decode cX2_measure 37 = .ok (.getfield 25, 3) := by decide +kernel
theorem dX2_measure_40 : decode cX2_measure 40 = .ok (.invokevirtual 28, 3) := by decide +kernel
theorem dX2_measure_43 : decode cX2_measure 43 = .ok (.aload_n 0, 1) := by decide +kernel
theorem dX2_measure_44 : decode cX2_measure 44 = .ok (.getfield 9, 3) := by decide +kernel
theorem dX2_measure_47 : decode cX2_measure 47 = .ok (.iload_n 3, 1) := by decide +kernel
theorem dX2_measure_48 : decode cX2_measure 48 = .ok (.bipush 8, 2) := by decide +kernel
theorem dX2_measure_50 : decode cX2_measure 50 = .ok (.imul, 1) := by decide +kernel
theorem dX2_measure_51 : decode cX2_measure 51 = .ok (.iload 4, 2) := by decide +kernel
theorem dX2_measure_53 : decode cX2_measure 53 = .ok (.iadd, 1) := by decide +kernel
theorem dX2_measure_54 : decode cX2_measure 54 = .ok (.aload_n 2, 1) := by decide +kernel
theorem dX2_measure_55 : decode cX2_measure 55 = .ok (.invokevirtual 34, 3) := by decide +kernel
theorem dX2_measure_58 : decode cX2_measure 58 = .ok (.iastore, 1) := by decide +kernel
theorem dX2_measure_59 : decode cX2_measure 59 = .ok (.aload_n 0, 1) := by decide +kernel
theorem dX2_measure_60 : decode cX2_measure 60 = .ok (.getfield 9, 3) := by decide +kernel
theorem dX2_measure_63 : decode cX2_measure 63 = .ok (.iload 4, 2) := by decide +kernel
theorem dX2_measure_65 : decode cX2_measure 65 = .ok (.bipush 8, 2) := by decide +kernel
theorem dX2_measure_67 : decode cX2_measure 67 = .ok (.imul, 1) := by decide +kernel
theorem dX2_measure_68 : decode cX2_measure 68 = .ok (.iload_n 3, 1) := by decide +kernel
theorem dX2_measure_69 : decode cX2_measure 69 = .ok (.iadd, 1) := by decide +kernel
theorem dX2_measure_70 : decode cX2_measure 70 = .ok (.aload_n 2, 1) := by decide +kernel
theorem dX2_measure_71 : decode cX2_measure 71 = .ok (.invokevirtual 34, 3) := by decide +kernel
theorem dX2_measure_74 : decode cX2_measure 74 = .ok (.iastore, 1) := by decide +kernel
theorem dX2_measure_75 : decode cX2_measure 75 = .ok (.iinc 4 1, 3) := by decide +kernel
theorem dX2_measure_78 : decode cX2_measure 78 = .ok (.goto (-65), 3) := by decide +kernel
theorem dX2_measure_81 : decode cX2_measure 81 = .ok (.iinc 3 1, 3) := by decide +kernel
theorem dX2_measure_84 : decode cX2_measure 84 = .ok (.goto (-82), 3) := by decide +kernel
theorem dX2_measure_87 : decode cX2_measure 87 = .ok (.return_, 1) := by decide +kernel
theorem dX2_between_0 : decode cX2_between 0 = .ok (.aload_n 0, 1) := by decide +kernel
theorem dX2_between_1 : decode cX2_between 1 = .ok (.getfield 9, 3) := by decide +kernel
theorem dX2_between_4 : decode cX2_between 4 = .ok (.iload_n 1, 1) := by decide +kernel
theorem dX2_between_5 : decode cX2_between 5 = .ok (.bipush 8, 2) := by decide +kernel
theorem dX2_between_7 : decode cX2_between 7 = .ok (.imul, 1) := by decide +kernel
theorem dX2_between_8 : decode cX2_between 8 = .ok (.iload_n 2, 1) := by decide +kernel
theorem dX2_between_9 : decode cX2_between 9 = .ok (.iadd, 1) := by decide +kernel
theorem dX2_between_10 : decode cX2_between 10 = .ok (.iaload, 1) := by decide +kernel
theorem dX2_between_11 : decode cX2_between 11 = .ok (.ireturn, 1) := by decide +kernel
theorem dX2_middleOf_0 : decode cX2_middleOf 0 = .ok (.iconst (-1), 1) := by decide +kernel
theorem dX2_middleOf_1 : decode cX2_middleOf 1 = .ok (.istore_n 2, 1) := by decide +kernel
theorem dX2_middleOf_2 : decode cX2_middleOf 2 = .ok (.iconst 0, 1) := by decide +kernel
theorem dX2_middleOf_3 : decode cX2_middleOf 3 = .ok (.istore_n 3, 1) := by decide +kernel
theorem dX2_middleOf_4 : decode cX2_middleOf 4 = .ok (.iconst 0, 1) := by decide +kernel
theorem dX2_middleOf_5 : decode cX2_middleOf 5 = .ok (.istore 4, 2) := by decide +kernel
theorem dX2_middleOf_7 : decode cX2_middleOf 7 = .ok (.iload 4, 2) := by decide +kernel
theorem dX2_middleOf_9 : decode cX2_middleOf 9 = .ok (.bipush 8, 2) := by decide +kernel
theorem dX2_middleOf_11 : decode cX2_middleOf 11 = .ok (.if_icmp .ge 45, 3) := by decide +kernel
theorem dX2_middleOf_14 : decode cX2_middleOf 14 = .ok (.iload_n 1, 1) := by decide +kernel
theorem dX2_middleOf_15 : decode cX2_middleOf 15 = .ok (.iload 4, 2) := by decide +kernel
theorem dX2_middleOf_17 : decode cX2_middleOf 17 = .ok (.ishr, 1) := by decide +kernel
theorem dX2_middleOf_18 : decode cX2_middleOf 18 = .ok (.iconst 1, 1) := by decide +kernel
theorem dX2_middleOf_19 : decode cX2_middleOf 19 = .ok (.iand, 1) := by decide +kernel
theorem dX2_middleOf_20 : decode cX2_middleOf 20 = .ok (.iconst 1, 1) := by decide +kernel
theorem dX2_middleOf_21 : decode cX2_middleOf 21 = .ok (.if_icmp .ne 29, 3) := by decide +kernel
theorem dX2_middleOf_24 : decode cX2_middleOf 24 = .ok (.aload_n 0, 1) := by decide +kernel
theorem dX2_middleOf_25 : decode cX2_middleOf 25 = .ok (.iload 4, 2) := by decide +kernel
theorem dX2_middleOf_27 : decode cX2_middleOf 27 = .ok (.iload_n 1, 1) := by decide +kernel
theorem dX2_middleOf_28 : decode cX2_middleOf 28 = .ok (.invokevirtual 37, 3) := by decide +kernel
theorem dX2_middleOf_31 : decode cX2_middleOf 31 = .ok (.istore 5, 2) := by decide +kernel
theorem dX2_middleOf_33 : decode cX2_middleOf 33 = .ok (.iload_n 2, 1) := by decide +kernel
theorem dX2_middleOf_34 : decode cX2_middleOf 34 = .ok (.iconst (-1), 1) := by decide +kernel
theorem dX2_middleOf_35 : decode cX2_middleOf 35 = .ok (.if_icmp .eq 9, 3) := by decide +kernel
theorem dX2_middleOf_38 : decode cX2_middleOf 38 = .ok (.iload 5, 2) := by decide +kernel
theorem dX2_middleOf_40 : decode cX2_middleOf 40 = .ok (.iload_n 3, 1) := by decide +kernel
theorem dX2_middleOf_41 : decode cX2_middleOf 41 = .ok (.if_icmp .ge 9, 3) := by decide +kernel
theorem dX2_middleOf_44 : decode cX2_middleOf 44 = .ok (.iload 4, 2) := by decide +kernel
theorem dX2_middleOf_46 : decode cX2_middleOf 46 = .ok (.istore_n 2, 1) := by decide +kernel
theorem dX2_middleOf_47 : decode cX2_middleOf 47 = .ok (.iload 5, 2) := by decide +kernel
theorem dX2_middleOf_49 : decode cX2_middleOf 49 = .ok (.istore_n 3, 1) := by decide +kernel
theorem dX2_middleOf_50 : decode cX2_middleOf 50 = .ok (.iinc 4 1, 3) := by decide +kernel
theorem dX2_middleOf_53 : decode cX2_middleOf 53 = .ok (.goto (-46), 3) := by decide +kernel
theorem dX2_middleOf_56 : decode cX2_middleOf 56 = .ok (.iload_n 2, 1) := by decide +kernel
theorem dX2_middleOf_57 : decode cX2_middleOf 57 = .ok (.ireturn, 1) := by decide +kernel
theorem dX2_sumTo_0 : decode cX2_sumTo 0 = .ok (.iconst 0, 1) := by decide +kernel
theorem dX2_sumTo_1 : decode cX2_sumTo 1 = .ok (.istore_n 3, 1) := by decide +kernel
theorem dX2_sumTo_2 : decode cX2_sumTo 2 = .ok (.iconst 0, 1) := by decide +kernel
theorem dX2_sumTo_3 : decode cX2_sumTo 3 = .ok (.istore 4, 2) := by decide +kernel
theorem dX2_sumTo_5 : decode cX2_sumTo 5 = .ok (.iload 4, 2) := by decide +kernel
theorem dX2_sumTo_7 : decode cX2_sumTo 7 = .ok (.bipush 8, 2) := by decide +kernel
theorem dX2_sumTo_9 : decode cX2_sumTo 9 = .ok (.if_icmp .ge 29, 3) := by decide +kernel
theorem dX2_sumTo_12 : decode cX2_sumTo 12 = .ok (.iload_n 2, 1) := by decide +kernel
theorem dX2_sumTo_13 : decode cX2_sumTo 13 = .ok (.iload 4, 2) := by decide +kernel
theorem dX2_sumTo_15 : decode cX2_sumTo 15 = .ok (.ishr, 1) := by decide +kernel
theorem dX2_sumTo_16 : decode cX2_sumTo 16 = .ok (.iconst 1, 1) := by decide +kernel
theorem dX2_sumTo_17 : decode cX2_sumTo 17 = .ok (.iand, 1) := by decide +kernel
theorem dX2_sumTo_18 : decode cX2_sumTo 18 = .ok (.iconst 1, 1) := by decide +kernel
theorem dX2_sumTo_19 : decode cX2_sumTo 19 = .ok (.if_icmp .ne 13, 3) := by decide +kernel
theorem dX2_sumTo_22 : decode cX2_sumTo 22 = .ok (.iload_n 3, 1) := by decide +kernel
theorem dX2_sumTo_23 : decode cX2_sumTo 23 = .ok (.aload_n 0, 1) := by decide +kernel
theorem dX2_sumTo_24 : decode cX2_sumTo 24 = .ok (.iload_n 1, 1) := by decide +kernel
theorem dX2_sumTo_25 : decode cX2_sumTo 25 = .ok (.iload 4, 2) := by decide +kernel
theorem dX2_sumTo_27 : decode cX2_sumTo 27 = .ok (.invokevirtual 41, 3) := by decide +kernel
theorem dX2_sumTo_30 : decode cX2_sumTo 30 = .ok (.iadd, 1) := by decide +kernel
theorem dX2_sumTo_31 : decode cX2_sumTo 31 = .ok (.istore_n 3, 1) := by decide +kernel
theorem dX2_sumTo_32 : decode cX2_sumTo 32 = .ok (.iinc 4 1, 3) := by decide +kernel
theorem dX2_sumTo_35 : decode cX2_sumTo 35 = .ok (.goto (-30), 3) := by decide +kernel
theorem dX2_sumTo_38 : decode cX2_sumTo 38 = .ok (.iload_n 3, 1) := by decide +kernel
theorem dX2_sumTo_39 : decode cX2_sumTo 39 = .ok (.ireturn, 1) := by decide +kernel
theorem dX3_init_0 : decode cX3_init 0 = .ok (.aload_n 0, 1) := by decide +kernel
theorem dX3_init_1 : decode cX3_init 1 = .ok (.invokespecial 1, 3) := by decide +kernel
theorem dX3_init_4 : decode cX3_init 4 = .ok (.aload_n 0, 1) := by decide +kernel
theorem dX3_init_5 : decode cX3_init 5 = .ok (.new 7, 3) := by decide +kernel
theorem dX3_init_8 : decode cX3_init 8 = .ok (.dup, 1) := by decide +kernel
theorem dX3_init_9 : decode cX3_init 9 = .ok (.invokespecial 9, 3) := by decide +kernel
theorem dX3_init_12 : decode cX3_init 12 = .ok (.putfield 10, 3) := by decide +kernel
theorem dX3_init_15 : decode cX3_init 15 = .ok (.aload_n 0, 1) := by decide +kernel
theorem dX3_init_16 : decode cX3_init 16 = .ok (.iconst 0, 1) := by decide +kernel
theorem dX3_init_17 : decode cX3_init 17 = .ok (.putfield 16, 3) := by decide +kernel
theorem dX3_init_20 : decode cX3_init 20 = .ok (.aload_n 0, 1) := by decide +kernel
theorem dX3_init_21 : decode cX3_init 21 = .ok (.iconst 0, 1) := by decide +kernel
theorem dX3_init_22 : decode cX3_init 22 = .ok (.putfield 20, 3) := by decide +kernel
theorem dX3_init_25 : decode cX3_init 25 = .ok (.return_, 1) := by decide +kernel
theorem dX4_init_0 : decode cX4_init 0 = .ok (.aload_n 0, 1) := by decide +kernel
theorem dX4_init_1 : decode cX4_init 1 = .ok (.invokespecial 3, 3) := by decide +kernel
theorem dX4_init_4 : decode cX4_init 4 = .ok (.aload_n 0, 1) := by decide +kernel
theorem dX4_init_5 : decode cX4_init 5 = .ok (.bipush 10, 2) := by decide +kernel
theorem dX4_init_7 : decode cX4_init 7 = .ok (.newarray .int, 2) := by decide +kernel
theorem dX4_init_9 : decode cX4_init 9 = .ok (.putfield 9, 3) := by decide +kernel
theorem dX4_init_12 : decode cX4_init 12 = .ok (.aload_n 0, 1) := by decide +kernel
theorem dX4_init_13 : decode cX4_init 13 = .ok (.bipush 10, 2) := by decide +kernel
theorem dX4_init_15 : decode cX4_init 15 = .ok (.newarray .int, 2) := by decide +kernel
theorem dX4_init_17 : decode cX4_init 17 = .ok (.putfield 15, 3) := by decide +kernel
theorem dX4_init_20 : decode cX4_init 20 = .ok (.aload_n 0, 1) := by decide +kernel
theorem dX4_init_21 : decode cX4_init 21 = .ok (.iconst 4, 1) := by decide +kernel
theorem dX4_init_22 : decode cX4_init 22 = .ok (.newarray .int, 2) := by decide +kernel
theorem dX4_init_24 : decode cX4_init 24 = .ok (.putfield 18, 3) := by decide +kernel
theorem dX4_init_27 : decode cX4_init 27 = .ok (.aload_n 0, 1) := by decide +kernel
theorem dX4_init_28 : decode cX4_init 28 = .ok (.bipush 121, 2) := by decide +kernel
theorem dX4_init_30 : decode cX4_init 30 = .ok (.newarray .int, 2) := by decide +kernel
theorem dX4_init_32 : decode cX4_init 32 = .ok (.putfield 21, 3) := by decide +kernel
theorem dX4_init_35 : decode cX4_init 35 = .ok (.aload_n 0, 1) := by decide +kernel
theorem dX4_init_36 : decode cX4_init 36 = .ok (.bipush 121, 2) := by decide +kernel
theorem dX4_init_38 : decode cX4_init 38 = .ok (.newarray .int, 2) := by decide +kernel
theorem dX4_init_40 : decode cX4_init 40 = .ok (.putfield 24, 3) := by decide +kernel
theorem dX4_init_43 : decode cX4_init 43 = .ok (.aload_n 0, 1) := by decide +kernel
theorem dX4_init_44 : decode cX4_init 44 = .ok (.bipush 121, 2) := by decide +kernel
theorem dX4_init_46 : decode cX4_init 46 = .ok (.newarray .int, 2) := by decide +kernel
theorem dX4_init_48 : decode cX4_init 48 = .ok (.putfield 27, 3) := by decide +kernel
theorem dX4_init_51 : decode cX4_init 51 = .ok (.aload_n 0, 1) := by decide +kernel
theorem dX4_init_52 : decode cX4_init 52 = .ok (.bipush 20, 2) := by decide +kernel
theorem dX4_init_54 : decode cX4_init 54 = .ok (.newarray .int, 2) := by decide +kernel
theorem dX4_init_56 : decode cX4_init 56 = .ok (.putfield 30, 3) := by decide +kernel
theorem dX4_init_59 : decode cX4_init 59 = .ok (.aload_n 0, 1) := by decide +kernel
theorem dX4_init_60 : decode cX4_init 60 = .ok (.iconst 0, 1) := by decide +kernel
theorem dX4_init_61 : decode cX4_init 61 = .ok (.putfield 33, 3) := by decide +kernel
theorem dX4_init_64 : decode cX4_init 64 = .ok (.aload_n 0, 1) := by decide +kernel
theorem dX4_init_65 : decode cX4_init 65 = .ok (.iconst 0, 1) := by decide +kernel
theorem dX4_init_66 : decode cX4_init 66 = .ok (.putfield 37, 3) := by decide +kernel
theorem dX4_init_69 : decode cX4_init 69 = .ok (.return_, 1) := by decide +kernel
theorem dX4_lineUp_0 : decode cX4_lineUp 0 = .ok (.aload_n 0, 1) := by decide +kernel
theorem dX4_lineUp_1 : decode cX4_lineUp 1 = .ok (.lload_n 1, 1) := by decide +kernel
theorem dX4_lineUp_2 : decode cX4_lineUp 2 = .ok (.aload_n 0, 1) := by decide +kernel
theorem dX4_lineUp_3 : decode cX4_lineUp 3 = .ok (.getfield 9, 3) := by decide +kernel
theorem dX4_lineUp_6 : decode cX4_lineUp 6 = .ok (.invokestatic 40, 3) := by decide +kernel
theorem dX4_lineUp_9 : decode cX4_lineUp 9 = .ok (.putfield 33, 3) := by decide +kernel
theorem dX4_lineUp_12 : decode cX4_lineUp 12 = .ok (.aload_n 0, 1) := by decide +kernel
theorem dX4_lineUp_13 : decode cX4_lineUp 13 = .ok (.lload_n 3, 1) := by decide +kernel
theorem dX4_lineUp_14 : decode cX4_lineUp 14 = .ok (.aload_n 0, 1) := by decide +kernel
theorem dX4_lineUp_15 : decode cX4_lineUp 15 = .ok (.getfield 15, 3) := by decide +kernel
theorem dX4_lineUp_18 : decode cX4_lineUp 18 = .ok (.invokestatic 40, 3) := by decide +kernel
theorem dX4_lineUp_21 : decode cX4_lineUp 21 = .ok (.putfield 37, 3) := by decide +kernel
theorem dX4_lineUp_24 : decode cX4_lineUp 24 = .ok (.aload 5, 2) := by decide +kernel
theorem dX4_lineUp_26 : decode cX4_lineUp 26 = .ok (.iconst 0, 1) := by decide +kernel
theorem dX4_lineUp_27 : decode cX4_lineUp 27 = .ok (.aload_n 0, 1) := by decide +kernel
theorem dX4_lineUp_28 : decode cX4_lineUp 28 = .ok (.getfield 18, 3) := by decide +kernel
theorem dX4_lineUp_31 : decode cX4_lineUp 31 = .ok (.iconst 0, 1) := by decide +kernel
theorem dX4_lineUp_32 : decode cX4_lineUp 32 = .ok (.iconst 4, 1) := by decide +kernel
theorem dX4_lineUp_33 : decode cX4_lineUp 33 = .ok (.invokestatic 44, 3) := by decide +kernel
theorem dX4_lineUp_36 : decode cX4_lineUp 36 = .ok (.aload_n 0, 1) := by decide +kernel
theorem dX4_lineUp_37 : decode cX4_lineUp 37 = .ok (.getfield 33, 3) := by decide +kernel
theorem dX4_lineUp_40 : decode cX4_lineUp 40 = .ok (.istore 6, 2) := by decide +kernel
theorem dX4_lineUp_42 : decode cX4_lineUp 42 = .ok (.iload 6, 2) := by decide +kernel
theorem dX4_lineUp_44 : decode cX4_lineUp 44 = .ok (.ifCond .lt 47, 3) := by decide +kernel
theorem dX4_lineUp_47 : decode cX4_lineUp 47 = .ok (.aload_n 0, 1) := by decide +kernel
theorem dX4_lineUp_48 : decode cX4_lineUp 48 = .ok (.getfield 37, 3) := by decide +kernel
theorem dX4_lineUp_51 : decode cX4_lineUp 51 = .ok (.istore 7, 2) := by decide +kernel
theorem dX4_lineUp_53 : decode cX4_lineUp 53 = .ok (.iload 7, 2) := by decide +kernel
theorem dX4_lineUp_55 : decode cX4_lineUp 55 = .ok (.ifCond .lt 30, 3) := by decide +kernel
theorem dX4_lineUp_58 : decode cX4_lineUp 58 = .ok (.aload_n 0, 1) := by decide +kernel
theorem dX4_lineUp_59 : decode cX4_lineUp 59 = .ok (.getfield 21, 3) := by decide +kernel
theorem dX4_lineUp_62 : decode cX4_lineUp 62 = .ok (.iload 6, 2) := by decide +kernel
theorem dX4_lineUp_64 : decode cX4_lineUp 64 = .ok (.bipush 11, 2) := by decide +kernel
theorem dX4_lineUp_66 : decode cX4_lineUp 66 = .ok (.imul, 1) := by decide +kernel
theorem dX4_lineUp_67 : decode cX4_lineUp 67 = .ok (.iload 7, 2) := by decide +kernel
theorem dX4_lineUp_69 : decode cX4_lineUp 69 = .ok (.iadd, 1) := by decide +kernel
theorem dX4_lineUp_70 : decode cX4_lineUp 70 = .ok (.aload_n 0, 1) := by decide +kernel
theorem dX4_lineUp_71 : decode cX4_lineUp 71 = .ok (.iload 6, 2) := by decide +kernel
theorem dX4_lineUp_73 : decode cX4_lineUp 73 = .ok (.iload 7, 2) := by decide +kernel
theorem dX4_lineUp_75 : decode cX4_lineUp 75 = .ok (.invokevirtual 50, 3) := by decide +kernel
theorem dX4_lineUp_78 : decode cX4_lineUp 78 = .ok (.iastore, 1) := by decide +kernel
theorem dX4_lineUp_79 : decode cX4_lineUp 79 = .ok (.iinc 7 (-1), 3) := by decide +kernel
theorem dX4_lineUp_82 : decode cX4_lineUp 82 = .ok (.goto (-29), 3) := by decide +kernel
theorem dX4_lineUp_85 : decode cX4_lineUp 85 = .ok (.iinc 6 (-1), 3) := by decide +kernel
theorem dX4_lineUp_88 : decode cX4_lineUp 88 = .ok (.goto (-46), 3) := by decide +kernel
theorem dX4_lineUp_91 : decode cX4_lineUp 91 = .ok (.return_, 1) := by decide +kernel
theorem dX4_apart_0 : decode cX4_apart 0 = .ok (.aload_n 0, 1) := by decide +kernel
theorem dX4_apart_1 : decode cX4_apart 1 = .ok (.getfield 21, 3) := by decide +kernel
theorem dX4_apart_4 : decode cX4_apart 4 = .ok (.iconst 0, 1) := by decide +kernel
theorem dX4_apart_5 : decode cX4_apart 5 = .ok (.iaload, 1) := by decide +kernel
theorem dX4_apart_6 : decode cX4_apart 6 = .ok (.ireturn, 1) := by decide +kernel
theorem dX4_ways_0 : decode cX4_ways 0 = .ok (.aload_n 0, 1) := by decide +kernel
theorem dX4_ways_1 : decode cX4_ways 1 = .ok (.getfield 33, 3) := by decide +kernel
theorem dX4_ways_4 : decode cX4_ways 4 = .ok (.istore_n 1, 1) := by decide +kernel
theorem dX4_ways_5 : decode cX4_ways 5 = .ok (.iload_n 1, 1) := by decide +kernel
theorem dX4_ways_6 : decode cX4_ways 6 = .ok (.ifCond .lt 41, 3) := by decide +kernel
theorem dX4_ways_9 : decode cX4_ways 9 = .ok (.aload_n 0, 1) := by decide +kernel
theorem dX4_ways_10 : decode cX4_ways 10 = .ok (.getfield 37, 3) := by decide +kernel
theorem dX4_ways_13 : decode cX4_ways 13 = .ok (.istore_n 2, 1) := by decide +kernel
theorem dX4_ways_14 : decode cX4_ways 14 = .ok (.iload_n 2, 1) := by decide +kernel
theorem dX4_ways_15 : decode cX4_ways 15 = .ok (.ifCond .lt 26, 3) := by decide +kernel
theorem dX4_ways_18 : decode cX4_ways 18 = .ok (.aload_n 0, 1) := by decide +kernel
theorem dX4_ways_19 : decode cX4_ways 19 = .ok (.getfield 24, 3) := by decide +kernel
theorem dX4_ways_22 : decode cX4_ways 22 = .ok (.iload_n 1, 1) := by decide +kernel
theorem dX4_ways_23 : decode cX4_ways 23 = .ok (.bipush 11, 2) := by decide +kernel
theorem dX4_ways_25 : decode cX4_ways 25 = .ok (.imul, 1) := by decide +kernel
theorem dX4_ways_26 : decode cX4_ways 26 = .ok (.iload_n 2, 1) := by decide +kernel
theorem dX4_ways_27 : decode cX4_ways 27 = .ok (.iadd, 1) := by decide +kernel
theorem dX4_ways_28 : decode cX4_ways 28 = .ok (.aload_n 0, 1) := by decide +kernel
theorem dX4_ways_29 : decode cX4_ways 29 = .ok (.iload_n 1, 1) := by decide +kernel
theorem dX4_ways_30 : decode cX4_ways 30 = .ok (.iload_n 2, 1) := by decide +kernel
theorem dX4_ways_31 : decode cX4_ways 31 = .ok (.invokevirtual 54, 3) := by decide +kernel
theorem dX4_ways_34 : decode cX4_ways 34 = .ok (.iastore, 1) := by decide +kernel
theorem dX4_ways_35 : decode cX4_ways 35 = .ok (.iinc 2 (-1), 3) := by decide +kernel
theorem dX4_ways_38 : decode cX4_ways 38 = .ok (.goto (-24), 3) := by decide +kernel
theorem dX4_ways_41 : decode cX4_ways 41 = .ok (.iinc 1 (-1), 3) := by decide +kernel
theorem dX4_ways_44 : decode cX4_ways 44 = .ok (.goto (-39), 3) := by decide +kernel
theorem dX4_ways_47 : decode cX4_ways 47 = .ok (.aload_n 0, 1) := by decide +kernel
theorem dX4_ways_48 : decode cX4_ways 48 = .ok (.getfield 24, 3) := by decide +kernel
theorem dX4_ways_51 : decode cX4_ways 51 = .ok (.iconst 0, 1) := by decide +kernel
theorem dX4_ways_52 : decode cX4_ways 52 = .ok (.iaload, 1) := by decide +kernel
theorem dX4_ways_53 : decode cX4_ways 53 = .ok (.ireturn, 1) := by decide +kernel
theorem dX4_wayLength_0 : decode cX4_wayLength 0 = .ok (.iconst 0, 1) := by decide +kernel
theorem dX4_wayLength_1 : decode cX4_wayLength 1 = .ok (.istore_n 1, 1) := by decide +kernel
theorem dX4_wayLength_2 : decode cX4_wayLength 2 = .ok (.iconst 0, 1) := by decide +kernel
theorem dX4_wayLength_3 : decode cX4_wayLength 3 = .ok (.istore_n 2, 1) := by decide +kernel
theorem dX4_wayLength_4 : decode cX4_wayLength 4 = .ok (.iconst 0, 1) := by decide +kernel
theorem dX4_wayLength_5 : decode cX4_wayLength 5 = .ok (.istore_n 3, 1) := by decide +kernel
theorem dX4_wayLength_6 : decode cX4_wayLength 6 = .ok (.iload_n 3, 1) := by decide +kernel
theorem dX4_wayLength_7 : decode cX4_wayLength 7 = .ok (.bipush 20, 2) := by decide +kernel
theorem dX4_wayLength_9 : decode cX4_wayLength 9 = .ok (.if_icmp .ge 51, 3) := by decide +kernel
theorem dX4_wayLength_12 : decode cX4_wayLength 12 = .ok (.aload_n 0, 1) := by decide +kernel
theorem dX4_wayLength_13 : decode cX4_wayLength 13 = .ok (.iload_n 1, 1) := by decide +kernel
theorem dX4_wayLength_14 : decode cX4_wayLength 14 = .ok (.iload_n 2, 1) := by decide +kernel
theorem dX4_wayLength_15 : decode cX4_wayLength 15 = .ok (.invokevirtual 57, 3) := by decide +kernel
theorem dX4_wayLength_18 : decode cX4_wayLength 18 = .ok (.istore 4, 2) := by decide +kernel
theorem dX4_wayLength_20 : decode cX4_wayLength 20 = .ok (.iload 4, 2) := by decide +kernel
theorem dX4_wayLength_22 : decode cX4_wayLength 22 = .ok (.iconst (-1), 1) := by decide +kernel
theorem dX4_wayLength_23 : decode cX4_wayLength 23 = .ok (.if_icmp .ne 5, 3) := by decide +kernel
theorem dX4_wayLength_26 : decode cX4_wayLength 26 = .ok (.iload_n 3, 1) := by decide +kernel
theorem dX4_wayLength_27 : decode cX4_wayLength 27 = .ok (.ireturn, 1) := by decide +kernel
theorem dX4_wayLength_28 : decode cX4_wayLength 28 = .ok (.aload_n 0, 1) := by decide +kernel
theorem dX4_wayLength_29 : decode cX4_wayLength 29 = .ok (.getfield 30, 3) := by decide +kernel
theorem dX4_wayLength_32 : decode cX4_wayLength 32 = .ok (.iload_n 3, 1) := by decide +kernel
theorem dX4_wayLength_33 : decode cX4_wayLength 33 = .ok (.iload 4, 2) := by decide +kernel
theorem dX4_wayLength_35 : decode cX4_wayLength 35 = .ok (.iastore, 1) := by decide +kernel
theorem dX4_wayLength_36 : decode cX4_wayLength 36 = .ok (.iload_n 1, 1) := by decide +kernel
theorem dX4_wayLength_37 : decode cX4_wayLength 37 = .ok (.getstatic 60, 3) := by decide +kernel
theorem dX4_wayLength_40 : decode cX4_wayLength 40 = .ok (.iload 4, 2) := by decide +kernel
theorem dX4_wayLength_42 : decode cX4_wayLength 42 = .ok (.iaload, 1) := by decide +kernel
theorem dX4_wayLength_43 : decode cX4_wayLength 43 = .ok (.iadd, 1) := by decide +kernel
theorem dX4_wayLength_44 : decode cX4_wayLength 44 = .ok (.istore_n 1, 1) := by decide +kernel
theorem dX4_wayLength_45 : decode cX4_wayLength 45 = .ok (.iload_n 2, 1) := by decide +kernel
theorem dX4_wayLength_46 : decode cX4_wayLength 46 = .ok (.getstatic 63, 3) := by decide +kernel
theorem dX4_wayLength_49 : decode cX4_wayLength 49 = .ok (.iload 4, 2) := by decide +kernel
theorem dX4_wayLength_51 : decode cX4_wayLength 51 = .ok (.iaload, 1) := by decide +kernel
theorem dX4_wayLength_52 : decode cX4_wayLength 52 = .ok (.iadd, 1) := by decide +kernel
theorem dX4_wayLength_53 : decode cX4_wayLength 53 = .ok (.istore_n 2, 1) := by decide +kernel
theorem dX4_wayLength_54 : decode cX4_wayLength 54 = .ok (.iinc 3 1, 3) := by decide +kernel
theorem dX4_wayLength_57 : decode cX4_wayLength 57 = .ok (.goto (-51), 3) := by decide +kernel
theorem dX4_wayLength_60 : decode cX4_wayLength 60 = .ok (.bipush 20, 2) := by decide +kernel
theorem dX4_wayLength_62 : decode cX4_wayLength 62 = .ok (.ireturn, 1) := by decide +kernel
theorem dX4_stepOfWay_0 : decode cX4_stepOfWay 0 = .ok (.aload_n 0, 1) := by decide +kernel
theorem dX4_stepOfWay_1 : decode cX4_stepOfWay 1 = .ok (.invokevirtual 66, 3) := by decide +kernel
theorem dX4_stepOfWay_4 : decode cX4_stepOfWay 4 = .ok (.istore_n 2, 1) := by decide +kernel
theorem dX4_stepOfWay_5 : decode cX4_stepOfWay 5 = .ok (.iload_n 1, 1) := by decide +kernel
theorem dX4_stepOfWay_6 : decode cX4_stepOfWay 6 = .ok (.ifCond .lt 17, 3) := by decide +kernel
theorem dX4_stepOfWay_9 : decode cX4_stepOfWay 9 = .ok (.iload_n 1, 1) := by decide +kernel
theorem dX4_stepOfWay_10 : decode cX4_stepOfWay 10 = .ok (.iload_n 2, 1) := by decide +kernel
theorem dX4_stepOfWay_11 : decode cX4_stepOfWay 11 = .ok (.if_icmp .ge 12, 3) := by decide +kernel
theorem dX4_stepOfWay_14 : decode cX4_stepOfWay 14 = .ok (.aload_n 0, 1) := by decide +kernel
theorem dX4_stepOfWay_15 : decode cX4_stepOfWay 15 = .ok (.getfield 30, 3) := by decide +kernel
theorem dX4_stepOfWay_18 : decode cX4_stepOfWay 18 = .ok (.iload_n 1, 1) := by decide +kernel
theorem dX4_stepOfWay_19 : decode cX4_stepOfWay 19 = .ok (.iaload, 1) := by decide +kernel
theorem dX4_stepOfWay_20 : decode cX4_stepOfWay 20 = .ok (.goto 4, 3) := by decide +kernel
theorem dX4_stepOfWay_23 : decode cX4_stepOfWay 23 = .ok (.iconst (-1), 1) := by decide +kernel
theorem dX4_stepOfWay_24 : decode cX4_stepOfWay 24 = .ok (.ireturn, 1) := by decide +kernel
theorem dX4_commonLength_0 : decode cX4_commonLength 0 = .ok (.aload_n 0, 1) := by decide +kernel
theorem dX4_commonLength_1 : decode cX4_commonLength 1 = .ok (.getfield 33, 3) := by decide +kernel
theorem dX4_commonLength_4 : decode cX4_commonLength 4 = .ok (.istore_n 1, 1) := by decide +kernel
theorem dX4_commonLength_5 : decode cX4_commonLength 5 = .ok (.iload_n 1, 1) := by decide +kernel
theorem dX4_commonLength_6 : decode cX4_commonLength 6 = .ok (.ifCond .lt 41, 3) := by decide +kernel
theorem dX4_commonLength_9 : decode cX4_commonLength 9 = .ok (.aload_n 0, 1) := by decide +kernel
theorem dX4_commonLength_10 : decode cX4_commonLength 10 = .ok (.getfield 37, 3) := by decide +kernel
theorem dX4_commonLength_13 : decode cX4_commonLength 13 = .ok (.istore_n 2, 1) := by decide +kernel
theorem dX4_commonLength_14 : decode cX4_commonLength 14 = .ok (.iload_n 2, 1) := by decide +kernel
theorem dX4_commonLength_15 : decode cX4_commonLength 15 = .ok (.ifCond .lt 26, 3) := by decide +kernel
theorem dX4_commonLength_18 : decode cX4_commonLength 18 = .ok (.aload_n 0, 1) := by decide +kernel
theorem dX4_commonLength_19 : decode cX4_commonLength 19 = .ok (.getfield 27, 3) := by decide +kernel
theorem dX4_commonLength_22 : decode cX4_commonLength 22 = .ok (.iload_n 1, 1) := by decide +kernel
theorem dX4_commonLength_23 : decode cX4_commonLength 23 = .ok (.bipush 11, 2) := by decide +kernel
theorem dX4_commonLength_25 : decode cX4_commonLength 25 = .ok (.imul, 1) := by decide +kernel
theorem dX4_commonLength_26 : decode cX4_commonLength 26 = .ok (.iload_n 2, 1) := by decide +kernel
theorem dX4_commonLength_27 : decode cX4_commonLength 27 = .ok (.iadd, 1) := by decide +kernel
theorem dX4_commonLength_28 : decode cX4_commonLength 28 = .ok (.aload_n 0, 1) := by decide +kernel
theorem dX4_commonLength_29 : decode cX4_commonLength 29 = .ok (.iload_n 1, 1) := by decide +kernel
theorem dX4_commonLength_30 : decode cX4_commonLength 30 = .ok (.iload_n 2, 1) := by decide +kernel
theorem dX4_commonLength_31 : decode cX4_commonLength 31 = .ok (.invokevirtual 70, 3) := by decide +kernel
theorem dX4_commonLength_34 : decode cX4_commonLength 34 = .ok (.iastore, 1) := by decide +kernel
theorem dX4_commonLength_35 : decode cX4_commonLength 35 = .ok (.iinc 2 (-1), 3) := by decide +kernel
theorem dX4_commonLength_38 : decode cX4_commonLength 38 = .ok (.goto (-24), 3) := by decide +kernel
theorem dX4_commonLength_41 : decode cX4_commonLength 41 = .ok (.iinc 1 (-1), 3) := by decide +kernel
theorem dX4_commonLength_44 : decode cX4_commonLength 44 = .ok (.goto (-39), 3) := by decide +kernel
theorem dX4_commonLength_47 : decode cX4_commonLength 47 = .ok (.aload_n 0, 1) := by decide +kernel
theorem dX4_commonLength_48 : decode cX4_commonLength 48 = .ok (.getfield 27, 3) := by decide +kernel
theorem dX4_commonLength_51 : decode cX4_commonLength 51 = .ok (.iconst 0, 1) := by decide +kernel
theorem dX4_commonLength_52 : decode cX4_commonLength 52 = .ok (.iaload, 1) := by decide +kernel
theorem dX4_commonLength_53 : decode cX4_commonLength 53 = .ok (.ireturn, 1) := by decide +kernel
theorem dX4_spell_0 : decode cX4_spell 0 = .ok (.lload_n 0, 1) := by decide +kernel
theorem dX4_spell_1 : decode cX4_spell 1 = .ok (.invokestatic 73, 3) := by decide +kernel
theorem dX4_spell_4 : decode cX4_spell 4 = .ok (.bipush 10, 2) := by decide +kernel
theorem dX4_spell_6 : decode cX4_spell 6 = .ok (.invokestatic 77, 3) := by decide +kernel
theorem dX4_spell_9 : decode cX4_spell 9 = .ok (.istore_n 3, 1) := by decide +kernel
theorem dX4_spell_10 : decode cX4_spell 10 = .ok (.iconst 0, 1) := by decide +kernel
theorem dX4_spell_11 : decode cX4_spell 11 = .ok (.istore 4, 2) := by decide +kernel
theorem dX4_spell_13 : decode cX4_spell 13 = .ok (.iload 4, 2) := by decide +kernel
theorem dX4_spell_15 : decode cX4_spell 15 = .ok (.iload_n 3, 1) := by decide +kernel
theorem dX4_spell_16 : decode cX4_spell 16 = .ok (.if_icmp .ge 19, 3) := by decide +kernel
theorem dX4_spell_19 : decode cX4_spell 19 = .ok (.aload_n 2, 1) := by decide +kernel
theorem dX4_spell_20 : decode cX4_spell 20 = .ok (.iload 4, 2) := by decide +kernel
theorem dX4_spell_22 : decode cX4_spell 22 = .ok (.lload_n 0, 1) := by decide +kernel
theorem dX4_spell_23 : decode cX4_spell 23 = .ok (.iload 4, 2) := by decide +kernel
theorem dX4_spell_25 : decode cX4_spell 25 = .ok (.invokestatic 82, 3) := by decide +kernel
theorem dX4_spell_28 : decode cX4_spell 28 = .ok (.iastore, 1) := by decide +kernel
theorem dX4_spell_29 : decode cX4_spell 29 = .ok (.iinc 4 1, 3) := by decide +kernel
theorem dX4_spell_32 : decode cX4_spell 32 = .ok (.goto (-19), 3) := by decide +kernel
theorem dX4_spell_35 : decode cX4_spell 35 = .ok (.iload_n 3, 1) := by decide +kernel
theorem dX4_spell_36 : decode cX4_spell 36 = .ok (.ireturn, 1) := by decide +kernel
theorem dX4_leastFrom_0 : decode cX4_leastFrom 0 = .ok (.iload_n 1, 1) := by decide +kernel
theorem dX4_leastFrom_1 : decode cX4_leastFrom 1 = .ok (.aload_n 0, 1) := by decide +kernel
theorem dX4_leastFrom_2 : decode cX4_leastFrom 2 = .ok (.getfield 33, 3) := by decide +kernel
theorem dX4_leastFrom_5 : decode cX4_leastFrom 5 = .ok (.if_icmp .ne 13, 3) := by decide +kernel
theorem dX4_leastFrom_8 : decode cX4_leastFrom 8 = .ok (.iload_n 2, 1) := by decide +kernel
theorem dX4_leastFrom_9 : decode cX4_leastFrom 9 = .ok (.aload_n 0, 1) := by decide +kernel
theorem dX4_leastFrom_10 : decode cX4_leastFrom 10 = .ok (.getfield 37, 3) := by decide +kernel
theorem dX4_leastFrom_13 : decode cX4_leastFrom 13 = .ok (.if_icmp .ne 5, 3) := by decide +kernel
theorem dX4_leastFrom_16 : decode cX4_leastFrom 16 = .ok (.iconst 0, 1) := by decide +kernel
theorem dX4_leastFrom_17 : decode cX4_leastFrom 17 = .ok (.ireturn, 1) := by decide +kernel
theorem dX4_leastFrom_18 : decode cX4_leastFrom 18 = .ok (.ldc 86, 2) := by decide +kernel
theorem dX4_leastFrom_20 : decode cX4_leastFrom 20 = .ok (.istore_n 3, 1) := by decide +kernel
theorem dX4_leastFrom_21 : decode cX4_leastFrom 21 = .ok (.iconst 0, 1) := by decide +kernel
theorem dX4_leastFrom_22 : decode cX4_leastFrom 22 = .ok (.istore 4, 2) := by decide +kernel
theorem dX4_leastFrom_24 : decode cX4_leastFrom 24 = .ok (.iload 4, 2) := by decide +kernel
theorem dX4_leastFrom_26 : decode cX4_leastFrom 26 = .ok (.iconst 4, 1) := by decide +kernel
theorem dX4_leastFrom_27 : decode cX4_leastFrom 27 = .ok (.if_icmp .ge 22, 3) := by decide +kernel
theorem dX4_leastFrom_30 : decode cX4_leastFrom 30 = .ok (.iload_n 3, 1) := by decide +kernel
theorem dX4_leastFrom_31 : decode cX4_leastFrom 31 = .ok (.aload_n 0, 1) := by decide +kernel
theorem dX4_leastFrom_32 : decode cX4_leastFrom 32 = .ok (.iload_n 1, 1) := by decide +kernel
theorem dX4_leastFrom_33 : decode cX4_leastFrom 33 = .ok (.iload_n 2, 1) := by decide +kernel
theorem dX4_leastFrom_34 : decode cX4_leastFrom 34 = .ok (.iload 4, 2) := by decide +kernel
theorem dX4_leastFrom_36 : decode cX4_leastFrom 36 = .ok (.invokevirtual 87, 3) := by decide +kernel
theorem dX4_leastFrom_39 : decode cX4_leastFrom 39 = .ok (.invokestatic 77, 3) := by decide +kernel
theorem dX4_leastFrom_42 : decode cX4_leastFrom 42 = .ok (.istore_n 3, 1) := by decide +kernel
theorem dX4_leastFrom_43 : decode cX4_leastFrom 43 = .ok (.iinc 4 1, 3) := by decide +kernel
theorem dX4_leastFrom_46 : decode cX4_leastFrom 46 = .ok (.goto (-22), 3) := by decide +kernel
theorem dX4_leastFrom_49 : decode cX4_leastFrom 49 = .ok (.iload_n 3, 1) := by decide +kernel
theorem dX4_leastFrom_50 : decode cX4_leastFrom 50 = .ok (.ireturn, 1) := by decide +kernel
theorem dX4_rowsFrom_0 : decode cX4_rowsFrom 0 = .ok (.iload_n 1, 1) := by decide +kernel
theorem dX4_rowsFrom_1 : decode cX4_rowsFrom 1 = .ok (.aload_n 0, 1) := by decide +kernel
theorem dX4_rowsFrom_2 : decode cX4_rowsFrom 2 = .ok (.getfield 33, 3) := by decide +kernel
theorem dX4_rowsFrom_5 : decode cX4_rowsFrom 5 = .ok (.if_icmp .ne 13, 3) := by decide +kernel
theorem dX4_rowsFrom_8 : decode cX4_rowsFrom 8 = .ok (.iload_n 2, 1) := by decide +kernel
theorem dX4_rowsFrom_9 : decode cX4_rowsFrom 9 = .ok (.aload_n 0, 1) := by decide +kernel
theorem dX4_rowsFrom_10 : decode cX4_rowsFrom 10 = .ok (.getfield 37, 3) := by decide +kernel
theorem dX4_rowsFrom_13 : decode cX4_rowsFrom 13 = .ok (.if_icmp .ne 5, 3) := by decide +kernel
theorem dX4_rowsFrom_16 : decode cX4_rowsFrom 16 = .ok (.iconst 1, 1) := by decide +kernel
theorem dX4_rowsFrom_17 : decode cX4_rowsFrom 17 = .ok (.ireturn, 1) := by decide +kernel
theorem dX4_rowsFrom_18 : decode cX4_rowsFrom 18 = .ok (.iconst 0, 1) := by decide +kernel
theorem dX4_rowsFrom_19 : decode cX4_rowsFrom 19 = .ok (.istore_n 3, 1) := by decide +kernel
theorem dX4_rowsFrom_20 : decode cX4_rowsFrom 20 = .ok (.iconst 0, 1) := by decide +kernel
theorem dX4_rowsFrom_21 : decode cX4_rowsFrom 21 = .ok (.istore 4, 2) := by decide +kernel
theorem dX4_rowsFrom_23 : decode cX4_rowsFrom 23 = .ok (.iload 4, 2) := by decide +kernel
theorem dX4_rowsFrom_25 : decode cX4_rowsFrom 25 = .ok (.iconst 4, 1) := by decide +kernel
theorem dX4_rowsFrom_26 : decode cX4_rowsFrom 26 = .ok (.if_icmp .ge 59, 3) := by decide +kernel
theorem dX4_rowsFrom_29 : decode cX4_rowsFrom 29 = .ok (.aload_n 0, 1) := by decide +kernel
theorem dX4_rowsFrom_30 : decode cX4_rowsFrom 30 = .ok (.iload_n 1, 1) := by decide +kernel
theorem dX4_rowsFrom_31 : decode cX4_rowsFrom 31 = .ok (.iload_n 2, 1) := by decide +kernel
theorem dX4_rowsFrom_32 : decode cX4_rowsFrom 32 = .ok (.iload 4, 2) := by decide +kernel
theorem dX4_rowsFrom_34 : decode cX4_rowsFrom 34 = .ok (.invokevirtual 87, 3) := by decide +kernel
theorem dX4_rowsFrom_37 : decode cX4_rowsFrom 37 = .ok (.aload_n 0, 1) := by decide +kernel
theorem dX4_rowsFrom_38 : decode cX4_rowsFrom 38 = .ok (.getfield 21, 3) := by decide +kernel
theorem dX4_rowsFrom_41 : decode cX4_rowsFrom 41 = .ok (.iload_n 1, 1) := by decide +kernel
theorem dX4_rowsFrom_42 : decode cX4_rowsFrom 42 = .ok (.bipush 11, 2) := by decide +kernel
theorem dX4_rowsFrom_44 : decode cX4_rowsFrom 44 = .ok (.imul, 1) := by decide +kernel
theorem dX4_rowsFrom_45 : decode cX4_rowsFrom 45 = .ok (.iload_n 2, 1) := by decide +kernel
theorem dX4_rowsFrom_46 : decode cX4_rowsFrom 46 = .ok (.iadd, 1) := by decide +kernel
theorem dX4_rowsFrom_47 : decode cX4_rowsFrom 47 = .ok (.iaload, 1) := by decide +kernel
theorem dX4_rowsFrom_48 : decode cX4_rowsFrom 48 = .ok (.if_icmp .ne 31, 3) := by decide +kernel
theorem dX4_rowsFrom_51 : decode cX4_rowsFrom 51 = .ok (.iload_n 3, 1) := by decide +kernel
theorem dX4_rowsFrom_52 : decode cX4_rowsFrom 52 = .ok (.aload_n 0, 1) := by decide +kernel
theorem dX4_rowsFrom_53 : decode cX4_rowsFrom 53 = .ok (.getfield 24, 3) := by decide +kernel
theorem dX4_rowsFrom_56 : decode cX4_rowsFrom 56 = .ok (.iload_n 1, 1) := by decide +kernel
theorem dX4_rowsFrom_57 : decode cX4_rowsFrom 57 = .ok (.getstatic 60, 3) := by decide +kernel
theorem dX4_rowsFrom_60 : decode cX4_rowsFrom 60 = .ok (.iload 4, 2) := by decide +kernel
theorem dX4_rowsFrom_62 : decode cX4_rowsFrom 62 = .ok (.iaload, 1) := by decide +kernel
theorem dX4_rowsFrom_63 : decode cX4_rowsFrom 63 = .ok (.iadd, 1) := by decide +kernel
theorem dX4_rowsFrom_64 : decode cX4_rowsFrom 64 = .ok (.bipush 11, 2) := by decide +kernel
theorem dX4_rowsFrom_66 : decode cX4_rowsFrom 66 = .ok (.imul, 1) := by decide +kernel
theorem dX4_rowsFrom_67 : decode cX4_rowsFrom 67 = .ok (.iload_n 2, 1) := by decide +kernel
theorem dX4_rowsFrom_68 : decode cX4_rowsFrom 68 = .ok (.iadd, 1) := by decide +kernel
theorem dX4_rowsFrom_69 : decode cX4_rowsFrom 69 = .ok (.getstatic 63, 3) := by decide +kernel
theorem dX4_rowsFrom_72 : decode cX4_rowsFrom 72 = .ok (.iload 4, 2) := by decide +kernel
theorem dX4_rowsFrom_74 : decode cX4_rowsFrom 74 = .ok (.iaload, 1) := by decide +kernel
theorem dX4_rowsFrom_75 : decode cX4_rowsFrom 75 = .ok (.iadd, 1) := by decide +kernel
theorem dX4_rowsFrom_76 : decode cX4_rowsFrom 76 = .ok (.iaload, 1) := by decide +kernel
theorem dX4_rowsFrom_77 : decode cX4_rowsFrom 77 = .ok (.iadd, 1) := by decide +kernel
theorem dX4_rowsFrom_78 : decode cX4_rowsFrom 78 = .ok (.istore_n 3, 1) := by decide +kernel
theorem dX4_rowsFrom_79 : decode cX4_rowsFrom 79 = .ok (.iinc 4 1, 3) := by decide +kernel
theorem dX4_rowsFrom_82 : decode cX4_rowsFrom 82 = .ok (.goto (-59), 3) := by decide +kernel
theorem dX4_rowsFrom_85 : decode cX4_rowsFrom 85 = .ok (.iload_n 3, 1) := by decide +kernel
theorem dX4_rowsFrom_86 : decode cX4_rowsFrom 86 = .ok (.ireturn, 1) := by decide +kernel
theorem dX4_sumThrough_0 : decode cX4_sumThrough 0 = .ok (.iload_n 1, 1) := by decide +kernel
theorem dX4_sumThrough_1 : decode cX4_sumThrough 1 = .ok (.getstatic 60, 3) := by decide +kernel
theorem dX4_sumThrough_4 : decode cX4_sumThrough 4 = .ok (.iload_n 3, 1) := by decide +kernel
theorem dX4_sumThrough_5 : decode cX4_sumThrough 5 = .ok (.iaload, 1) := by decide +kernel
theorem dX4_sumThrough_6 : decode cX4_sumThrough 6 = .ok (.iadd, 1) := by decide +kernel
theorem dX4_sumThrough_7 : decode cX4_sumThrough 7 = .ok (.istore 4, 2) := by decide +kernel
theorem dX4_sumThrough_9 : decode cX4_sumThrough 9 = .ok (.iload_n 2, 1) := by decide +kernel
theorem dX4_sumThrough_10 : decode cX4_sumThrough 10 = .ok (.getstatic 63, 3) := by decide +kernel
theorem dX4_sumThrough_13 : decode cX4_sumThrough 13 = .ok (.iload_n 3, 1) := by decide +kernel
theorem dX4_sumThrough_14 : decode cX4_sumThrough 14 = .ok (.iaload, 1) := by decide +kernel
theorem dX4_sumThrough_15 : decode cX4_sumThrough 15 = .ok (.iadd, 1) := by decide +kernel
theorem dX4_sumThrough_16 : decode cX4_sumThrough 16 = .ok (.istore 5, 2) := by decide +kernel
theorem dX4_sumThrough_18 : decode cX4_sumThrough 18 = .ok (.iload 4, 2) := by decide +kernel
theorem dX4_sumThrough_20 : decode cX4_sumThrough 20 = .ok (.aload_n 0, 1) := by decide +kernel
theorem dX4_sumThrough_21 : decode cX4_sumThrough 21 = .ok (.getfield 33, 3) := by decide +kernel
theorem dX4_sumThrough_24 : decode cX4_sumThrough 24 = .ok (.if_icmp .gt 12, 3) := by decide +kernel
theorem dX4_sumThrough_27 : decode cX4_sumThrough 27 = .ok (.iload 5, 2) := by decide +kernel
theorem dX4_sumThrough_29 : decode cX4_sumThrough 29 = .ok (.aload_n 0, 1) := by decide +kernel
theorem dX4_sumThrough_30 : decode cX4_sumThrough 30 = .ok (.getfield 37, 3) := by decide +kernel
theorem dX4_sumThrough_33 : decode cX4_sumThrough 33 = .ok (.if_icmp .le 6, 3) := by decide +kernel
theorem dX4_sumThrough_36 : decode cX4_sumThrough 36 = .ok (.ldc 86, 2) := by decide +kernel
theorem dX4_sumThrough_38 : decode cX4_sumThrough 38 = .ok (.ireturn, 1) := by decide +kernel
theorem dX4_sumThrough_39 : decode cX4_sumThrough 39 = .ok (.aload_n 0, 1) := by decide +kernel
theorem dX4_sumThrough_40 : decode cX4_sumThrough 40 = .ok (.getfield 21, 3) := by decide +kernel
theorem dX4_sumThrough_43 : decode cX4_sumThrough 43 = .ok (.iload 4, 2) := by decide +kernel
theorem dX4_sumThrough_45 : decode cX4_sumThrough 45 = .ok (.bipush 11, 2) := by decide +kernel
theorem dX4_sumThrough_47 : decode cX4_sumThrough 47 = .ok (.imul, 1) := by decide +kernel
theorem dX4_sumThrough_48 : decode cX4_sumThrough 48 = .ok (.iload 5, 2) := by decide +kernel
theorem dX4_sumThrough_50 : decode cX4_sumThrough 50 = .ok (.iadd, 1) := by decide +kernel
theorem dX4_sumThrough_51 : decode cX4_sumThrough 51 = .ok (.iaload, 1) := by decide +kernel
theorem dX4_sumThrough_52 : decode cX4_sumThrough 52 = .ok (.istore 6, 2) := by decide +kernel
theorem dX4_sumThrough_54 : decode cX4_sumThrough 54 = .ok (.iload_n 3, 1) := by decide +kernel
theorem dX4_sumThrough_55 : decode cX4_sumThrough 55 = .ok (.ifCond .ne 43, 3) := by decide +kernel
theorem dX4_sumThrough_58 : decode cX4_sumThrough 58 = .ok (.aload_n 0, 1) := by decide +kernel
theorem dX4_sumThrough_59 : decode cX4_sumThrough 59 = .ok (.getfield 9, 3) := by decide +kernel
theorem dX4_sumThrough_62 : decode cX4_sumThrough 62 = .ok (.iload_n 1, 1) := by decide +kernel
theorem dX4_sumThrough_63 : decode cX4_sumThrough 63 = .ok (.iaload, 1) := by decide +kernel
theorem dX4_sumThrough_64 : decode cX4_sumThrough 64 = .ok (.aload_n 0, 1) := by decide +kernel
theorem dX4_sumThrough_65 : decode cX4_sumThrough 65 = .ok (.getfield 15, 3) := by decide +kernel
theorem dX4_sumThrough_68 : decode cX4_sumThrough 68 = .ok (.iload_n 2, 1) := by decide +kernel
theorem dX4_sumThrough_69 : decode cX4_sumThrough 69 = .ok (.iaload, 1) := by decide +kernel
theorem dX4_sumThrough_70 : decode cX4_sumThrough 70 = .ok (.isub, 1) := by decide +kernel
theorem dX4_sumThrough_71 : decode cX4_sumThrough 71 = .ok (.invokestatic 91, 3) := by decide +kernel
theorem dX4_sumThrough_74 : decode cX4_sumThrough 74 = .ok (.aload_n 0, 1) := by decide +kernel
theorem dX4_sumThrough_75 : decode cX4_sumThrough 75 = .ok (.getfield 18, 3) := by decide +kernel
theorem dX4_sumThrough_78 : decode cX4_sumThrough 78 = .ok (.iconst 2, 1) := by decide +kernel
theorem dX4_sumThrough_79 : decode cX4_sumThrough 79 = .ok (.iaload, 1) := by decide +kernel
theorem dX4_sumThrough_80 : decode cX4_sumThrough 80 = .ok (.imul, 1) := by decide +kernel
theorem dX4_sumThrough_81 : decode cX4_sumThrough 81 = .ok (.istore 7, 2) := by decide +kernel
theorem dX4_sumThrough_83 : decode cX4_sumThrough 83 = .ok (.iload 6, 2) := by decide +kernel
theorem dX4_sumThrough_85 : decode cX4_sumThrough 85 = .ok (.iload 7, 2) := by decide +kernel
theorem dX4_sumThrough_87 : decode cX4_sumThrough 87 = .ok (.aload_n 0, 1) := by decide +kernel
theorem dX4_sumThrough_88 : decode cX4_sumThrough 88 = .ok (.getfield 18, 3) := by decide +kernel
theorem dX4_sumThrough_91 : decode cX4_sumThrough 91 = .ok (.iconst 3, 1) := by decide +kernel
theorem dX4_sumThrough_92 : decode cX4_sumThrough 92 = .ok (.iaload, 1) := by decide +kernel
theorem dX4_sumThrough_93 : decode cX4_sumThrough 93 = .ok (.invokestatic 77, 3) := by decide +kernel
theorem dX4_sumThrough_96 : decode cX4_sumThrough 96 = .ok (.iadd, 1) := by decide +kernel
theorem dX4_sumThrough_97 : decode cX4_sumThrough 97 = .ok (.ireturn, 1) := by decide +kernel
theorem dX4_sumThrough_98 : decode cX4_sumThrough 98 = .ok (.iload_n 3, 1) := by decide +kernel
theorem dX4_sumThrough_99 : decode cX4_sumThrough 99 = .ok (.iconst 3, 1) := by decide +kernel
theorem dX4_sumThrough_100 : decode cX4_sumThrough 100 = .ok (.if_icmp .ne 27, 3) := by decide +kernel
theorem dX4_sumThrough_103 : decode cX4_sumThrough 103 = .ok (.aload_n 0, 1) := by decide +kernel
theorem dX4_sumThrough_104 : decode cX4_sumThrough 104 = .ok (.iload_n 1, 1) := by decide +kernel
theorem dX4_sumThrough_105 : decode cX4_sumThrough 105 = .ok (.iload_n 2, 1) := by decide +kernel
theorem dX4_sumThrough_106 : decode cX4_sumThrough 106 = .ok (.invokevirtual 95, 3) := by decide +kernel
theorem dX4_sumThrough_109 : decode cX4_sumThrough 109 = .ok (.ifCond .eq 15, 3) := by decide +kernel
theorem dX4_sumThrough_112 : decode cX4_sumThrough 112 = .ok (.iload 6, 2) := by decide +kernel
theorem dX4_sumThrough_114 : decode cX4_sumThrough 114 = .ok (.aload_n 0, 1) := by decide +kernel
theorem dX4_sumThrough_115 : decode cX4_sumThrough 115 = .ok (.getfield 18, 3) := by decide +kernel
theorem dX4_sumThrough_118 : decode cX4_sumThrough 118 = .ok (.iconst 1, 1) := by decide +kernel
theorem dX4_sumThrough_119 : decode cX4_sumThrough 119 = .ok (.iaload, 1) := by decide +kernel
theorem dX4_sumThrough_120 : decode cX4_sumThrough 120 = .ok (.iadd, 1) := by decide +kernel
theorem dX4_sumThrough_121 : decode cX4_sumThrough 121 = .ok (.goto 5, 3) := by decide +kernel
theorem dX4_sumThrough_124 : decode cX4_sumThrough 124 = .ok (.ldc 86, 2) := by decide +kernel
theorem dX4_sumThrough_126 : decode cX4_sumThrough 126 = .ok (.ireturn, 1) := by decide +kernel
theorem dX4_sumThrough_127 : decode cX4_sumThrough 127 = .ok (.iload 6, 2) := by decide +kernel
theorem dX4_sumThrough_129 : decode cX4_sumThrough 129 = .ok (.aload_n 0, 1) := by decide +kernel
theorem dX4_sumThrough_130 : decode cX4_sumThrough 130 = .ok (.getfield 18, 3) := by decide +kernel
theorem dX4_sumThrough_133 : decode cX4_sumThrough 133 = .ok (.iconst 0, 1) := by decide +kernel
theorem dX4_sumThrough_134 : decode cX4_sumThrough 134 = .ok (.iaload, 1) := by decide +kernel
theorem dX4_sumThrough_135 : decode cX4_sumThrough 135 = .ok (.iadd, 1) := by decide +kernel
theorem dX4_sumThrough_136 : decode cX4_sumThrough 136 = .ok (.ireturn, 1) := by decide +kernel
theorem dX4_isTurned_0 : decode cX4_isTurned 0 = .ok (.aload_n 0, 1) := by decide +kernel
theorem dX4_isTurned_1 : decode cX4_isTurned 1 = .ok (.getfield 9, 3) := by decide +kernel
theorem dX4_isTurned_4 : decode cX4_isTurned 4 = .ok (.iload_n 1, 1) := by decide +kernel
theorem dX4_isTurned_5 : decode cX4_isTurned 5 = .ok (.iaload, 1) := by decide +kernel
theorem dX4_isTurned_6 : decode cX4_isTurned 6 = .ok (.aload_n 0, 1) := by decide +kernel
theorem dX4_isTurned_7 : decode cX4_isTurned 7 = .ok (.getfield 15, 3) := by decide +kernel
theorem dX4_isTurned_10 : decode cX4_isTurned 10 = .ok (.iload_n 2, 1) := by decide +kernel
theorem dX4_isTurned_11 : decode cX4_isTurned 11 = .ok (.iconst 1, 1) := by decide +kernel
theorem dX4_isTurned_12 : decode cX4_isTurned 12 = .ok (.iadd, 1) := by decide +kernel
theorem dX4_isTurned_13 : decode cX4_isTurned 13 = .ok (.iaload, 1) := by decide +kernel
theorem dX4_isTurned_14 : decode cX4_isTurned 14 = .ok (.if_icmp .ne 41, 3) := by decide +kernel
theorem dX4_isTurned_17 : decode cX4_isTurned 17 = .ok (.aload_n 0, 1) := by decide +kernel
theorem dX4_isTurned_18 : decode cX4_isTurned 18 = .ok (.getfield 9, 3) := by decide +kernel
theorem dX4_isTurned_21 : decode cX4_isTurned 21 = .ok (.iload_n 1, 1) := by decide +kernel
theorem dX4_isTurned_22 : decode cX4_isTurned 22 = .ok (.iconst 1, 1) := by decide +kernel
theorem dX4_isTurned_23 : decode cX4_isTurned 23 = .ok (.iadd, 1) := by decide +kernel
theorem dX4_isTurned_24 : decode cX4_isTurned 24 = .ok (.iaload, 1) := by decide +kernel
theorem dX4_isTurned_25 : decode cX4_isTurned 25 = .ok (.aload_n 0, 1) := by decide +kernel
theorem dX4_isTurned_26 : decode cX4_isTurned 26 = .ok (.getfield 15, 3) := by decide +kernel
theorem dX4_isTurned_29 : decode cX4_isTurned 29 = .ok (.iload_n 2, 1) := by decide +kernel
theorem dX4_isTurned_30 : decode cX4_isTurned 30 = .ok (.iaload, 1) := by decide +kernel
theorem dX4_isTurned_31 : decode cX4_isTurned 31 = .ok (.if_icmp .ne 24, 3) := by decide +kernel
theorem dX4_isTurned_34 : decode cX4_isTurned 34 = .ok (.aload_n 0, 1) := by decide +kernel
theorem dX4_isTurned_35 : decode cX4_isTurned 35 = .ok (.getfield 9, 3) := by decide +kernel
theorem dX4_isTurned_38 : decode cX4_isTurned 38 = .ok (.iload_n 1, 1) := by decide +kernel
theorem dX4_isTurned_39 : decode cX4_isTurned 39 = .ok (.iaload, 1) := by decide +kernel
theorem dX4_isTurned_40 : decode cX4_isTurned 40 = .ok (.aload_n 0, 1) := by decide +kernel
theorem dX4_isTurned_41 : decode cX4_isTurned 41 = .ok (.getfield 9, 3) := by decide +kernel
theorem dX4_isTurned_44 : decode cX4_isTurned 44 = .ok (.iload_n 1, 1) := by decide +kernel
theorem dX4_isTurned_45 : decode cX4_isTurned 45 = .ok (.iconst 1, 1) := by decide +kernel
theorem dX4_isTurned_46 : decode cX4_isTurned 46 = .ok (.iadd, 1) := by decide +kernel
theorem dX4_isTurned_47 : decode cX4_isTurned 47 = .ok (.iaload, 1) := by decide +kernel
theorem dX4_isTurned_48 : decode cX4_isTurned 48 = .ok (.if_icmp .eq 7, 3) := by decide +kernel
theorem dX4_isTurned_51 : decode cX4_isTurned 51 = .ok (.iconst 1, 1) := by decide +kernel
theorem dX4_isTurned_52 : decode cX4_isTurned 52 = .ok (.goto 4, 3) := by decide +kernel
theorem dX4_isTurned_55 : decode cX4_isTurned 55 = .ok (.iconst 0, 1) := by decide +kernel
theorem dX4_isTurned_56 : decode cX4_isTurned 56 = .ok (.ireturn, 1) := by decide +kernel
theorem dX4_leastStep_0 : decode cX4_leastStep 0 = .ok (.iload_n 1, 1) := by decide +kernel
theorem dX4_leastStep_1 : decode cX4_leastStep 1 = .ok (.aload_n 0, 1) := by decide +kernel
theorem dX4_leastStep_2 : decode cX4_leastStep 2 = .ok (.getfield 33, 3) := by decide +kernel
theorem dX4_leastStep_5 : decode cX4_leastStep 5 = .ok (.if_icmp .ne 13, 3) := by decide +kernel
theorem dX4_leastStep_8 : decode cX4_leastStep 8 = .ok (.iload_n 2, 1) := by decide +kernel
theorem dX4_leastStep_9 : decode cX4_leastStep 9 = .ok (.aload_n 0, 1) := by decide +kernel
theorem dX4_leastStep_10 : decode cX4_leastStep 10 = .ok (.getfield 37, 3) := by decide +kernel
theorem dX4_leastStep_13 : decode cX4_leastStep 13 = .ok (.if_icmp .ne 5, 3) := by decide +kernel
theorem dX4_leastStep_16 : decode cX4_leastStep 16 = .ok (.iconst (-1), 1) := by decide +kernel
theorem dX4_leastStep_17 : decode cX4_leastStep 17 = .ok (.ireturn, 1) := by decide +kernel
theorem dX4_leastStep_18 : decode cX4_leastStep 18 = .ok (.iconst 0, 1) := by decide +kernel
theorem dX4_leastStep_19 : decode cX4_leastStep 19 = .ok (.istore_n 3, 1) := by decide +kernel
theorem dX4_leastStep_20 : decode cX4_leastStep 20 = .ok (.iload_n 3, 1) := by decide +kernel
theorem dX4_leastStep_21 : decode cX4_leastStep 21 = .ok (.iconst 4, 1) := by decide +kernel
theorem dX4_leastStep_22 : decode cX4_leastStep 22 = .ok (.if_icmp .ge 32, 3) := by decide +kernel
theorem dX4_leastStep_25 : decode cX4_leastStep 25 = .ok (.aload_n 0, 1) := by decide +kernel
theorem dX4_leastStep_26 : decode cX4_leastStep 26 = .ok (.iload_n 1, 1) := by decide +kernel
theorem dX4_leastStep_27 : decode cX4_leastStep 27 = .ok (.iload_n 2, 1) := by decide +kernel
theorem dX4_leastStep_28 : decode cX4_leastStep 28 = .ok (.iload_n 3, 1) := by decide +kernel
theorem dX4_leastStep_29 : decode cX4_leastStep 29 = .ok (.invokevirtual 87, 3) := by decide +kernel
theorem dX4_leastStep_32 : decode cX4_leastStep 32 = .ok (.aload_n 0, 1) := by decide +kernel
theorem dX4_leastStep_33 : decode cX4_leastStep 33 = .ok (.getfield 21, 3) := by decide +kernel
theorem dX4_leastStep_36 : decode cX4_leastStep 36 = .ok (.iload_n 1, 1) := by decide +kernel
theorem dX4_leastStep_37 : decode cX4_leastStep 37 = .ok (.bipush 11, 2) := by decide +kernel
theorem dX4_leastStep_39 : decode cX4_leastStep 39 = .ok (.imul, 1) := by decide +kernel
theorem dX4_leastStep_40 : decode cX4_leastStep 40 = .ok (.iload_n 2, 1) := by decide +kernel
theorem dX4_leastStep_41 : decode cX4_leastStep 41 = .ok (.iadd, 1) := by decide +kernel
theorem dX4_leastStep_42 : decode cX4_leastStep 42 = .ok (.iaload, 1) := by decide +kernel
theorem dX4_leastStep_43 : decode cX4_leastStep 43 = .ok (.if_icmp .ne 5, 3) := by decide +kernel
theorem dX4_leastStep_46 : decode cX4_leastStep 46 = .ok (.iload_n 3, 1) := by decide +kernel
theorem dX4_leastStep_47 : decode cX4_leastStep 47 = .ok (.ireturn, 1) := by decide +kernel
theorem dX4_leastStep_48 : decode cX4_leastStep 48 = .ok (.iinc 3 1, 3) := by decide +kernel
theorem dX4_leastStep_51 : decode cX4_leastStep 51 = .ok (.goto (-31), 3) := by decide +kernel
theorem dX4_leastStep_54 : decode cX4_leastStep 54 = .ok (.iconst (-1), 1) := by decide +kernel
theorem dX4_leastStep_55 : decode cX4_leastStep 55 = .ok (.ireturn, 1) := by decide +kernel
theorem dX4_sharedFrom_0 : decode cX4_sharedFrom 0 = .ok (.iload_n 1, 1) := by decide +kernel
theorem dX4_sharedFrom_1 : decode cX4_sharedFrom 1 = .ok (.aload_n 0, 1) := by decide +kernel
theorem dX4_sharedFrom_2 : decode cX4_sharedFrom 2 = .ok (.getfield 33, 3) := by decide +kernel
theorem dX4_sharedFrom_5 : decode cX4_sharedFrom 5 = .ok (.if_icmp .eq 11, 3) := by decide +kernel
theorem dX4_sharedFrom_8 : decode cX4_sharedFrom 8 = .ok (.iload_n 2, 1) := by decide +kernel
theorem dX4_sharedFrom_9 : decode cX4_sharedFrom 9 = .ok (.aload_n 0, 1) := by decide +kernel
theorem dX4_sharedFrom_10 : decode cX4_sharedFrom 10 = .ok (.getfield 37, 3) := by decide +kernel
theorem dX4_sharedFrom_13 : decode cX4_sharedFrom 13 = .ok (.if_icmp .ne 5, 3) := by decide +kernel
theorem dX4_sharedFrom_16 : decode cX4_sharedFrom 16 = .ok (.iconst 0, 1) := by decide +kernel
theorem dX4_sharedFrom_17 : decode cX4_sharedFrom 17 = .ok (.ireturn, 1) := by decide +kernel
theorem dX4_sharedFrom_18 : decode cX4_sharedFrom 18 = .ok (.aload_n 0, 1) := by decide +kernel
theorem dX4_sharedFrom_19 : decode cX4_sharedFrom 19 = .ok (.getfield 9, 3) := by decide +kernel
theorem dX4_sharedFrom_22 : decode cX4_sharedFrom 22 = .ok (.iload_n 1, 1) := by decide +kernel
theorem dX4_sharedFrom_23 : decode cX4_sharedFrom 23 = .ok (.iaload, 1) := by decide +kernel
theorem dX4_sharedFrom_24 : decode cX4_sharedFrom 24 = .ok (.aload_n 0, 1) := by decide +kernel
theorem dX4_sharedFrom_25 : decode cX4_sharedFrom 25 = .ok (.getfield 15, 3) := by decide +kernel
theorem dX4_sharedFrom_28 : decode cX4_sharedFrom 28 = .ok (.iload_n 2, 1) := by decide +kernel
theorem dX4_sharedFrom_29 : decode cX4_sharedFrom 29 = .ok (.iaload, 1) := by decide +kernel
theorem dX4_sharedFrom_30 : decode cX4_sharedFrom 30 = .ok (.if_icmp .ne 21, 3) := by decide +kernel
theorem dX4_sharedFrom_33 : decode cX4_sharedFrom 33 = .ok (.iconst 1, 1) := by decide +kernel
theorem dX4_sharedFrom_34 : decode cX4_sharedFrom 34 = .ok (.aload_n 0, 1) := by decide +kernel
theorem dX4_sharedFrom_35 : decode cX4_sharedFrom 35 = .ok (.getfield 27, 3) := by decide +kernel
theorem dX4_sharedFrom_38 : decode cX4_sharedFrom 38 = .ok (.iload_n 1, 1) := by decide +kernel
theorem dX4_sharedFrom_39 : decode cX4_sharedFrom 39 = .ok (.iconst 1, 1) := by decide +kernel
theorem dX4_sharedFrom_40 : decode cX4_sharedFrom 40 = .ok (.iadd, 1) := by decide +kernel
theorem dX4_sharedFrom_41 : decode cX4_sharedFrom 41 = .ok (.bipush 11, 2) := by decide +kernel
theorem dX4_sharedFrom_43 : decode cX4_sharedFrom 43 = .ok (.imul, 1) := by decide +kernel
theorem dX4_sharedFrom_44 : decode cX4_sharedFrom 44 = .ok (.iload_n 2, 1) := by decide +kernel
theorem dX4_sharedFrom_45 : decode cX4_sharedFrom 45 = .ok (.iadd, 1) := by decide +kernel
theorem dX4_sharedFrom_46 : decode cX4_sharedFrom 46 = .ok (.iconst 1, 1) := by decide +kernel
theorem dX4_sharedFrom_47 : decode cX4_sharedFrom 47 = .ok (.iadd, 1) := by decide +kernel
theorem dX4_sharedFrom_48 : decode cX4_sharedFrom 48 = .ok (.iaload, 1) := by decide +kernel
theorem dX4_sharedFrom_49 : decode cX4_sharedFrom 49 = .ok (.iadd, 1) := by decide +kernel
theorem dX4_sharedFrom_50 : decode cX4_sharedFrom 50 = .ok (.ireturn, 1) := by decide +kernel
theorem dX4_sharedFrom_51 : decode cX4_sharedFrom 51 = .ok (.aload_n 0, 1) := by decide +kernel
theorem dX4_sharedFrom_52 : decode cX4_sharedFrom 52 = .ok (.getfield 27, 3) := by decide +kernel
theorem dX4_sharedFrom_55 : decode cX4_sharedFrom 55 = .ok (.iload_n 1, 1) := by decide +kernel
theorem dX4_sharedFrom_56 : decode cX4_sharedFrom 56 = .ok (.iconst 1, 1) := by decide +kernel
theorem dX4_sharedFrom_57 : decode cX4_sharedFrom 57 = .ok (.iadd, 1) := by decide +kernel
theorem dX4_sharedFrom_58 : decode cX4_sharedFrom 58 = .ok (.bipush 11, 2) := by decide +kernel
theorem dX4_sharedFrom_60 : decode cX4_sharedFrom 60 = .ok (.imul, 1) := by decide +kernel
theorem dX4_sharedFrom_61 : decode cX4_sharedFrom 61 = .ok (.iload_n 2, 1) := by decide +kernel
theorem dX4_sharedFrom_62 : decode cX4_sharedFrom 62 = .ok (.iadd, 1) := by decide +kernel
theorem dX4_sharedFrom_63 : decode cX4_sharedFrom 63 = .ok (.iaload, 1) := by decide +kernel
theorem dX4_sharedFrom_64 : decode cX4_sharedFrom 64 = .ok (.aload_n 0, 1) := by decide +kernel
theorem dX4_sharedFrom_65 : decode cX4_sharedFrom 65 = .ok (.getfield 27, 3) := by decide +kernel
theorem dX4_sharedFrom_68 : decode cX4_sharedFrom 68 = .ok (.iload_n 1, 1) := by decide +kernel
theorem dX4_sharedFrom_69 : decode cX4_sharedFrom 69 = .ok (.bipush 11, 2) := by decide +kernel
theorem dX4_sharedFrom_71 : decode cX4_sharedFrom 71 = .ok (.imul, 1) := by decide +kernel
theorem dX4_sharedFrom_72 : decode cX4_sharedFrom 72 = .ok (.iload_n 2, 1) := by decide +kernel
theorem dX4_sharedFrom_73 : decode cX4_sharedFrom 73 = .ok (.iadd, 1) := by decide +kernel
theorem dX4_sharedFrom_74 : decode cX4_sharedFrom 74 = .ok (.iconst 1, 1) := by decide +kernel
theorem dX4_sharedFrom_75 : decode cX4_sharedFrom 75 = .ok (.iadd, 1) := by decide +kernel
theorem dX4_sharedFrom_76 : decode cX4_sharedFrom 76 = .ok (.iaload, 1) := by decide +kernel
theorem dX4_sharedFrom_77 : decode cX4_sharedFrom 77 = .ok (.invokestatic 99, 3) := by decide +kernel
theorem dX4_sharedFrom_80 : decode cX4_sharedFrom 80 = .ok (.ireturn, 1) := by decide +kernel
theorem dX5_init_0 : decode cX5_init 0 = .ok (.aload_n 0, 1) := by decide +kernel
theorem dX5_init_1 : decode cX5_init 1 = .ok (.invokespecial 3, 3) := by decide +kernel
theorem dX5_init_4 : decode cX5_init 4 = .ok (.aload_n 0, 1) := by decide +kernel
theorem dX5_init_5 : decode cX5_init 5 = .ok (.bipush 8, 2) := by decide +kernel
theorem dX5_init_7 : decode cX5_init 7 = .ok (.newarray .long, 2) := by decide +kernel
theorem dX5_init_9 : decode cX5_init 9 = .ok (.putfield 9, 3) := by decide +kernel
theorem dX5_init_12 : decode cX5_init 12 = .ok (.aload_n 0, 1) := by decide +kernel
theorem dX5_init_13 : decode cX5_init 13 = .ok (.bipush 8, 2) := by decide +kernel
theorem dX5_init_15 : decode cX5_init 15 = .ok (.newarray .int, 2) := by decide +kernel
theorem dX5_init_17 : decode cX5_init 17 = .ok (.putfield 15, 3) := by decide +kernel
theorem dX5_init_20 : decode cX5_init 20 = .ok (.aload_n 0, 1) := by decide +kernel
theorem dX5_init_21 : decode cX5_init 21 = .ok (.iconst 4, 1) := by decide +kernel
theorem dX5_init_22 : decode cX5_init 22 = .ok (.newarray .int, 2) := by decide +kernel
theorem dX5_init_24 : decode cX5_init 24 = .ok (.putfield 19, 3) := by decide +kernel
theorem dX5_init_27 : decode cX5_init 27 = .ok (.aload_n 0, 1) := by decide +kernel
theorem dX5_init_28 : decode cX5_init 28 = .ok (.bipush 8, 2) := by decide +kernel
theorem dX5_init_30 : decode cX5_init 30 = .ok (.newarray .int, 2) := by decide +kernel
theorem dX5_init_32 : decode cX5_init 32 = .ok (.putfield 22, 3) := by decide +kernel
theorem dX5_init_35 : decode cX5_init 35 = .ok (.aload_n 0, 1) := by decide +kernel
theorem dX5_init_36 : decode cX5_init 36 = .ok (.iconst 0, 1) := by decide +kernel
theorem dX5_init_37 : decode cX5_init 37 = .ok (.putfield 25, 3) := by decide +kernel
theorem dX5_init_40 : decode cX5_init 40 = .ok (.aload_n 0, 1) := by decide +kernel
theorem dX5_init_41 : decode cX5_init 41 = .ok (.iconst 0, 1) := by decide +kernel
theorem dX5_init_42 : decode cX5_init 42 = .ok (.putfield 29, 3) := by decide +kernel
theorem dX5_init_45 : decode cX5_init 45 = .ok (.aload_n 0, 1) := by decide +kernel
theorem dX5_init_46 : decode cX5_init 46 = .ok (.getfield 19, 3) := by decide +kernel
theorem dX5_init_49 : decode cX5_init 49 = .ok (.iconst 0, 1) := by decide +kernel
theorem dX5_init_50 : decode cX5_init 50 = .ok (.iconst 2, 1) := by decide +kernel
theorem dX5_init_51 : decode cX5_init 51 = .ok (.iastore, 1) := by decide +kernel
theorem dX5_init_52 : decode cX5_init 52 = .ok (.aload_n 0, 1) := by decide +kernel
theorem dX5_init_53 : decode cX5_init 53 = .ok (.getfield 19, 3) := by decide +kernel
theorem dX5_init_56 : decode cX5_init 56 = .ok (.iconst 1, 1) := by decide +kernel
theorem dX5_init_57 : decode cX5_init 57 = .ok (.iconst 2, 1) := by decide +kernel
theorem dX5_init_58 : decode cX5_init 58 = .ok (.iastore, 1) := by decide +kernel
theorem dX5_init_59 : decode cX5_init 59 = .ok (.aload_n 0, 1) := by decide +kernel
theorem dX5_init_60 : decode cX5_init 60 = .ok (.getfield 19, 3) := by decide +kernel
theorem dX5_init_63 : decode cX5_init 63 = .ok (.iconst 2, 1) := by decide +kernel
theorem dX5_init_64 : decode cX5_init 64 = .ok (.iconst 1, 1) := by decide +kernel
theorem dX5_init_65 : decode cX5_init 65 = .ok (.iastore, 1) := by decide +kernel
theorem dX5_init_66 : decode cX5_init 66 = .ok (.aload_n 0, 1) := by decide +kernel
theorem dX5_init_67 : decode cX5_init 67 = .ok (.getfield 19, 3) := by decide +kernel
theorem dX5_init_70 : decode cX5_init 70 = .ok (.iconst 3, 1) := by decide +kernel
theorem dX5_init_71 : decode cX5_init 71 = .ok (.iconst 3, 1) := by decide +kernel
theorem dX5_init_72 : decode cX5_init 72 = .ok (.iastore, 1) := by decide +kernel
theorem dX5_init_73 : decode cX5_init 73 = .ok (.return_, 1) := by decide +kernel
theorem dX5_become_0 : decode cX5_become 0 = .ok (.aload_n 1, 1) := by decide +kernel
theorem dX5_become_1 : decode cX5_become 1 = .ok (.getfield 9, 3) := by decide +kernel
theorem dX5_become_4 : decode cX5_become 4 = .ok (.iconst 0, 1) := by decide +kernel
theorem dX5_become_5 : decode cX5_become 5 = .ok (.aload_n 0, 1) := by decide +kernel
theorem dX5_become_6 : decode cX5_become 6 = .ok (.getfield 9, 3) := by decide +kernel
theorem dX5_become_9 : decode cX5_become 9 = .ok (.iconst 0, 1) := by decide +kernel
theorem dX5_become_10 : decode cX5_become 10 = .ok (.bipush 8, 2) := by decide +kernel
theorem dX5_become_12 : decode cX5_become 12 = .ok (.invokestatic 32, 3) := by decide +kernel
theorem dX5_become_15 : decode cX5_become 15 = .ok (.aload_n 1, 1) := by decide +kernel
theorem dX5_become_16 : decode cX5_become 16 = .ok (.getfield 15, 3) := by decide +kernel
theorem dX5_become_19 : decode cX5_become 19 = .ok (.iconst 0, 1) := by decide +kernel
theorem dX5_become_20 : decode cX5_become 20 = .ok (.aload_n 0, 1) := by decide +kernel
theorem dX5_become_21 : decode cX5_become 21 = .ok (.getfield 15, 3) := by decide +kernel
theorem dX5_become_24 : decode cX5_become 24 = .ok (.iconst 0, 1) := by decide +kernel
theorem dX5_become_25 : decode cX5_become 25 = .ok (.bipush 8, 2) := by decide +kernel
theorem dX5_become_27 : decode cX5_become 27 = .ok (.invokestatic 32, 3) := by decide +kernel
theorem dX5_become_30 : decode cX5_become 30 = .ok (.aload_n 1, 1) := by decide +kernel
theorem dX5_become_31 : decode cX5_become 31 = .ok (.getfield 19, 3) := by decide +kernel
theorem dX5_become_34 : decode cX5_become 34 = .ok (.iconst 0, 1) := by decide +kernel
theorem dX5_become_35 : decode cX5_become 35 = .ok (.aload_n 0, 1) := by decide +kernel
theorem dX5_become_36 : decode cX5_become 36 = .ok (.getfield 19, 3) := by decide +kernel
theorem dX5_become_39 : decode cX5_become 39 = .ok (.iconst 0, 1) := by decide +kernel
theorem dX5_become_40 : decode cX5_become 40 = .ok (.iconst 4, 1) := by decide +kernel
theorem dX5_become_41 : decode cX5_become 41 = .ok (.invokestatic 32, 3) := by decide +kernel
theorem dX5_become_44 : decode cX5_become 44 = .ok (.aload_n 1, 1) := by decide +kernel
theorem dX5_become_45 : decode cX5_become 45 = .ok (.getfield 22, 3) := by decide +kernel
theorem dX5_become_48 : decode cX5_become 48 = .ok (.iconst 0, 1) := by decide +kernel
theorem dX5_become_49 : decode cX5_become 49 = .ok (.aload_n 0, 1) := by decide +kernel
theorem dX5_become_50 : decode cX5_become 50 = .ok (.getfield 22, 3) := by decide +kernel
theorem dX5_become_53 : decode cX5_become 53 = .ok (.iconst 0, 1) := by decide +kernel
theorem dX5_become_54 : decode cX5_become 54 = .ok (.bipush 8, 2) := by decide +kernel
theorem dX5_become_56 : decode cX5_become 56 = .ok (.invokestatic 32, 3) := by decide +kernel
theorem dX5_become_59 : decode cX5_become 59 = .ok (.aload_n 0, 1) := by decide +kernel
theorem dX5_become_60 : decode cX5_become 60 = .ok (.aload_n 1, 1) := by decide +kernel
theorem dX5_become_61 : decode cX5_become 61 = .ok (.getfield 25, 3) := by decide +kernel
theorem dX5_become_64 : decode cX5_become 64 = .ok (.putfield 25, 3) := by decide +kernel
theorem dX5_become_67 : decode cX5_become 67 = .ok (.aload_n 0, 1) := by decide +kernel
theorem dX5_become_68 : decode cX5_become 68 = .ok (.aload_n 1, 1) := by decide +kernel
theorem dX5_become_69 : decode cX5_become 69 = .ok (.getfield 29, 3) := by decide +kernel
theorem dX5_become_72 : decode cX5_become 72 = .ok (.putfield 29, 3) := by decide +kernel
theorem dX5_become_75 : decode cX5_become 75 = .ok (.return_, 1) := by decide +kernel
theorem dX5_add_0 : decode cX5_add 0 = .ok (.aload_n 0, 1) := by decide +kernel
theorem dX5_add_1 : decode cX5_add 1 = .ok (.getfield 25, 3) := by decide +kernel
theorem dX5_add_4 : decode cX5_add 4 = .ok (.bipush 8, 2) := by decide +kernel
theorem dX5_add_6 : decode cX5_add 6 = .ok (.if_icmp .lt 4, 3) := by decide +kernel
theorem dX5_add_9 : decode cX5_add 9 = .ok (.return_, 1) := by decide +kernel
theorem dX5_add_10 : decode cX5_add 10 = .ok (.aload_n 0, 1) := by decide +kernel
theorem dX5_add_11 : decode cX5_add 11 = .ok (.getfield 9, 3) := by decide +kernel
theorem dX5_add_14 : decode cX5_add 14 = .ok (.aload_n 0, 1) := by decide +kernel
theorem dX5_add_15 : decode cX5_add 15 = .ok (.getfield 25, 3) := by decide +kernel
theorem dX5_add_18 : decode cX5_add 18 = .ok (.lload_n 1, 1) := by decide +kernel
theorem dX5_add_19 : decode cX5_add 19 = .ok (.lastore, 1) := by decide +kernel
theorem dX5_add_20 : decode cX5_add 20 = .ok (.aload_n 0, 1) := by decide +kernel
theorem dX5_add_21 : decode cX5_add 21 = .ok (.getfield 15, 3) := by decide +kernel
theorem dX5_add_24 : decode cX5_add 24 = .ok (.aload_n 0, 1) := by decide +kernel
theorem dX5_add_25 : decode cX5_add 25 = .ok (.getfield 25, 3) := by decide +kernel
theorem dX5_add_28 : decode cX5_add 28 = .ok (.iload_n 3, 1) := by decide +kernel
theorem dX5_add_29 : decode cX5_add 29 = .ok (.iastore, 1) := by decide +kernel
theorem dX5_add_30 : decode cX5_add 30 = .ok (.aload_n 0, 1) := by decide +kernel
theorem dX5_add_31 : decode cX5_add 31 = .ok (.dup, 1) := by decide +kernel
theorem dX5_add_32 : decode cX5_add 32 = .ok (.getfield 25, 3) := by decide +kernel
theorem dX5_add_35 : decode cX5_add 35 = .ok (.iconst 1, 1) := by decide +kernel
theorem dX5_add_36 : decode cX5_add 36 = .ok (.iadd, 1) := by decide +kernel
theorem dX5_add_37 : decode cX5_add 37 = .ok (.putfield 25, 3) := by decide +kernel
theorem dX5_add_40 : decode cX5_add 40 = .ok (.return_, 1) := by decide +kernel
theorem dX5_remove_0 : decode cX5_remove 0 = .ok (.iload_n 1, 1) := by decide +kernel
theorem dX5_remove_1 : decode cX5_remove 1 = .ok (.ifCond .lt 11, 3) := by decide +kernel
theorem dX5_remove_4 : decode cX5_remove 4 = .ok (.iload_n 1, 1) := by decide +kernel
theorem dX5_remove_5 : decode cX5_remove 5 = .ok (.aload_n 0, 1) := by decide +kernel
theorem dX5_remove_6 : decode cX5_remove 6 = .ok (.getfield 25, 3) := by decide +kernel
theorem dX5_remove_9 : decode cX5_remove 9 = .ok (.if_icmp .lt 4, 3) := by decide +kernel
theorem dX5_remove_12 : decode cX5_remove 12 = .ok (.return_, 1) := by decide +kernel
theorem dX5_remove_13 : decode cX5_remove 13 = .ok (.aload_n 0, 1) := by decide +kernel
theorem dX5_remove_14 : decode cX5_remove 14 = .ok (.dup, 1) := by decide +kernel
theorem dX5_remove_15 : decode cX5_remove 15 = .ok (.getfield 25, 3) := by decide +kernel
theorem dX5_remove_18 : decode cX5_remove 18 = .ok (.iconst 1, 1) := by decide +kernel
theorem dX5_remove_19 : decode cX5_remove 19 = .ok (.isub, 1) := by decide +kernel
theorem dX5_remove_20 : decode cX5_remove 20 = .ok (.putfield 25, 3) := by decide +kernel
theorem dX5_remove_23 : decode cX5_remove 23 = .ok (.iload_n 1, 1) := by decide +kernel
theorem dX5_remove_24 : decode cX5_remove 24 = .ok (.istore_n 2, 1) := by decide +kernel
theorem dX5_remove_25 : decode cX5_remove 25 = .ok (.iload_n 2, 1) := by decide +kernel
theorem dX5_remove_26 : decode cX5_remove 26 = .ok (.aload_n 0, 1) := by decide +kernel
theorem dX5_remove_27 : decode cX5_remove 27 = .ok (.getfield 25, 3) := by decide +kernel
theorem dX5_remove_30 : decode cX5_remove 30 = .ok (.if_icmp .ge 37, 3) := by decide +kernel
theorem dX5_remove_33 : decode cX5_remove 33 = .ok (.aload_n 0, 1) := by decide +kernel
theorem dX5_remove_34 : decode cX5_remove 34 = .ok (.getfield 9, 3) := by decide +kernel
theorem dX5_remove_37 : decode cX5_remove 37 = .ok (.iload_n 2, 1) := by decide +kernel
theorem dX5_remove_38 : decode cX5_remove 38 = .ok (.aload_n 0, 1) := by decide +kernel
theorem dX5_remove_39 : decode cX5_remove 39 = .ok (.getfield 9, 3) := by decide +kernel
theorem dX5_remove_42 : decode cX5_remove 42 = .ok (.iload_n 2, 1) := by decide +kernel
theorem dX5_remove_43 : decode cX5_remove 43 = .ok (.iconst 1, 1) := by decide +kernel
theorem dX5_remove_44 : decode cX5_remove 44 = .ok (.iadd, 1) := by decide +kernel
theorem dX5_remove_45 : decode cX5_remove 45 = .ok (.laload, 1) := by decide +kernel
theorem dX5_remove_46 : decode cX5_remove 46 = .ok (.lastore, 1) := by decide +kernel
theorem dX5_remove_47 : decode cX5_remove 47 = .ok (.aload_n 0, 1) := by decide +kernel
theorem dX5_remove_48 : decode cX5_remove 48 = .ok (.getfield 15, 3) := by decide +kernel
theorem dX5_remove_51 : decode cX5_remove 51 = .ok (.iload_n 2, 1) := by decide +kernel
theorem dX5_remove_52 : decode cX5_remove 52 = .ok (.aload_n 0, 1) := by decide +kernel
theorem dX5_remove_53 : decode cX5_remove 53 = .ok (.getfield 15, 3) := by decide +kernel
theorem dX5_remove_56 : decode cX5_remove 56 = .ok (.iload_n 2, 1) := by decide +kernel
theorem dX5_remove_57 : decode cX5_remove 57 = .ok (.iconst 1, 1) := by decide +kernel
theorem dX5_remove_58 : decode cX5_remove 58 = .ok (.iadd, 1) := by decide +kernel
theorem dX5_remove_59 : decode cX5_remove 59 = .ok (.iaload, 1) := by decide +kernel
theorem dX5_remove_60 : decode cX5_remove 60 = .ok (.iastore, 1) := by decide +kernel
theorem dX5_remove_61 : decode cX5_remove 61 = .ok (.iinc 2 1, 3) := by decide +kernel
theorem dX5_remove_64 : decode cX5_remove 64 = .ok (.goto (-39), 3) := by decide +kernel
theorem dX5_remove_67 : decode cX5_remove 67 = .ok (.return_, 1) := by decide +kernel
theorem dX5_setRoad_0 : decode cX5_setRoad 0 = .ok (.iload_n 3, 1) := by decide +kernel
theorem dX5_setRoad_1 : decode cX5_setRoad 1 = .ok (.ifCond .eq 30, 3) := by decide +kernel
theorem dX5_setRoad_4 : decode cX5_setRoad 4 = .ok (.aload_n 0, 1) := by decide +kernel
theorem dX5_setRoad_5 : decode cX5_setRoad 5 = .ok (.getfield 22, 3) := by decide +kernel
theorem dX5_setRoad_8 : decode cX5_setRoad 8 = .ok (.iload_n 1, 1) := by decide +kernel
theorem dX5_setRoad_9 : decode cX5_setRoad 9 = .ok (.dup2, 1) := by decide +kernel
theorem dX5_setRoad_10 : decode cX5_setRoad 10 = .ok (.iaload, 1) := by decide +kernel
theorem dX5_setRoad_11 : decode cX5_setRoad 11 = .ok (.iconst 1, 1) := by decide +kernel
theorem dX5_setRoad_12 : decode cX5_setRoad 12 = .ok (.iload_n 2, 1) := by decide +kernel
theorem dX5_setRoad_13 : decode cX5_setRoad 13 = .ok (.ishl, 1) := by decide +kernel
theorem dX5_setRoad_14 : decode cX5_setRoad 14 = .ok (.ior, 1) := by decide +kernel
theorem dX5_setRoad_15 : decode cX5_setRoad 15 = .ok (.iastore, 1) := by decide +kernel
theorem dX5_setRoad_16 : decode cX5_setRoad 16 = .ok (.aload_n 0, 1) := by decide +kernel
theorem dX5_setRoad_17 : decode cX5_setRoad 17 = .ok (.getfield 22, 3) := by decide +kernel
theorem dX5_setRoad_20 : decode cX5_setRoad 20 = .ok (.iload_n 2, 1) := by decide +kernel
theorem dX5_setRoad_21 : decode cX5_setRoad 21 = .ok (.dup2, 1) := by decide +kernel
theorem dX5_setRoad_22 : decode cX5_setRoad 22 = .ok (.iaload, 1) := by decide +kernel
theorem dX5_setRoad_23 : decode cX5_setRoad 23 = .ok (.iconst 1, 1) := by decide +kernel
theorem dX5_setRoad_24 : decode cX5_setRoad 24 = .ok (.iload_n 1, 1) := by decide +kernel
theorem dX5_setRoad_25 : decode cX5_setRoad 25 = .ok (.ishl, 1) := by decide +kernel
theorem dX5_setRoad_26 : decode cX5_setRoad 26 = .ok (.ior, 1) := by decide +kernel
theorem dX5_setRoad_27 : decode cX5_setRoad 27 = .ok (.iastore, 1) := by decide +kernel
theorem dX5_setRoad_28 : decode cX5_setRoad 28 = .ok (.goto 31, 3) := by decide +kernel
theorem dX5_setRoad_31 : decode cX5_setRoad 31 = .ok (.aload_n 0, 1) := by decide +kernel
theorem dX5_setRoad_32 : decode cX5_setRoad 32 = .ok (.getfield 22, 3) := by decide +kernel
theorem dX5_setRoad_35 : decode cX5_setRoad 35 = .ok (.iload_n 1, 1) := by decide +kernel
theorem dX5_setRoad_36 : decode cX5_setRoad 36 = .ok (.dup2, 1) := by decide +kernel
theorem dX5_setRoad_37 : decode cX5_setRoad 37 = .ok (.iaload, 1) := by decide +kernel
theorem dX5_setRoad_38 : decode cX5_setRoad 38 = .ok (.iconst 1, 1) := by decide +kernel
theorem dX5_setRoad_39 : decode cX5_setRoad 39 = .ok (.iload_n 2, 1) := by decide +kernel
theorem dX5_setRoad_40 : decode cX5_setRoad 40 = .ok (.ishl, 1) := by decide +kernel
theorem dX5_setRoad_41 : decode cX5_setRoad 41 = .ok (.iconst (-1), 1) := by decide +kernel
theorem dX5_setRoad_42 : decode cX5_setRoad 42 = .ok (.ixor, 1) := by decide +kernel
theorem dX5_setRoad_43 : decode cX5_setRoad 43 = .ok (.iand, 1) := by decide +kernel
theorem dX5_setRoad_44 : decode cX5_setRoad 44 = .ok (.iastore, 1) := by decide +kernel
theorem dX5_setRoad_45 : decode cX5_setRoad 45 = .ok (.aload_n 0, 1) := by decide +kernel
theorem dX5_setRoad_46 : decode cX5_setRoad 46 = .ok (.getfield 22, 3) := by decide +kernel
theorem dX5_setRoad_49 : decode cX5_setRoad 49 = .ok (.iload_n 2, 1) := by decide +kernel
theorem dX5_setRoad_50 : decode cX5_setRoad 50 = .ok (.dup2, 1) := by decide +kernel
theorem dX5_setRoad_51 : decode cX5_setRoad 51 = .ok (.iaload, 1) := by decide +kernel
theorem dX5_setRoad_52 : decode cX5_setRoad 52 = .ok (.iconst 1, 1) := by decide +kernel
theorem dX5_setRoad_53 : decode cX5_setRoad 53 = .ok (.iload_n 1, 1) := by decide +kernel
theorem dX5_setRoad_54 : decode cX5_setRoad 54 = .ok (.ishl, 1) := by decide +kernel
theorem dX5_setRoad_55 : decode cX5_setRoad 55 = .ok (.iconst (-1), 1) := by decide +kernel
theorem dX5_setRoad_56 : decode cX5_setRoad 56 = .ok (.ixor, 1) := by decide +kernel
theorem dX5_setRoad_57 : decode cX5_setRoad 57 = .ok (.iand, 1) := by decide +kernel
theorem dX5_setRoad_58 : decode cX5_setRoad 58 = .ok (.iastore, 1) := by decide +kernel
theorem dX5_setRoad_59 : decode cX5_setRoad 59 = .ok (.return_, 1) := by decide +kernel
theorem dX5_countRoads_0 : decode cX5_countRoads 0 = .ok (.iconst 0, 1) := by decide +kernel
theorem dX5_countRoads_1 : decode cX5_countRoads 1 = .ok (.istore_n 1, 1) := by decide +kernel
theorem dX5_countRoads_2 : decode cX5_countRoads 2 = .ok (.iconst 0, 1) := by decide +kernel
theorem dX5_countRoads_3 : decode cX5_countRoads 3 = .ok (.istore_n 2, 1) := by decide +kernel
theorem dX5_countRoads_4 : decode cX5_countRoads 4 = .ok (.iload_n 2, 1) := by decide +kernel
theorem dX5_countRoads_5 : decode cX5_countRoads 5 = .ok (.bipush 8, 2) := by decide +kernel
theorem dX5_countRoads_7 : decode cX5_countRoads 7 = .ok (.if_icmp .ge 21, 3) := by decide +kernel
theorem dX5_countRoads_10 : decode cX5_countRoads 10 = .ok (.iload_n 1, 1) := by decide +kernel
theorem dX5_countRoads_11 : decode cX5_countRoads 11 = .ok (.aload_n 0, 1) := by decide +kernel
theorem dX5_countRoads_12 : decode cX5_countRoads 12 = .ok (.getfield 22, 3) := by decide +kernel
theorem dX5_countRoads_15 : decode cX5_countRoads 15 = .ok (.iload_n 2, 1) := by decide +kernel
theorem dX5_countRoads_16 : decode cX5_countRoads 16 = .ok (.iaload, 1) := by decide +kernel
theorem dX5_countRoads_17 : decode cX5_countRoads 17 = .ok (.invokestatic 38, 3) := by decide +kernel
theorem dX5_countRoads_20 : decode cX5_countRoads 20 = .ok (.iadd, 1) := by decide +kernel
theorem dX5_countRoads_21 : decode cX5_countRoads 21 = .ok (.istore_n 1, 1) := by decide +kernel
theorem dX5_countRoads_22 : decode cX5_countRoads 22 = .ok (.iinc 2 1, 3) := by decide +kernel
theorem dX5_countRoads_25 : decode cX5_countRoads 25 = .ok (.goto (-21), 3) := by decide +kernel
theorem dX5_countRoads_28 : decode cX5_countRoads 28 = .ok (.iload_n 1, 1) := by decide +kernel
theorem dX5_countRoads_29 : decode cX5_countRoads 29 = .ok (.iconst 2, 1) := by decide +kernel
theorem dX5_countRoads_30 : decode cX5_countRoads 30 = .ok (.idiv, 1) := by decide +kernel
theorem dX5_countRoads_31 : decode cX5_countRoads 31 = .ok (.ireturn, 1) := by decide +kernel
theorem dX5_motifsOfAll_0 : decode cX5_motifsOfAll 0 = .ok (.sipush 255, 3) := by decide +kernel
theorem dX5_motifsOfAll_3 : decode cX5_motifsOfAll 3 = .ok (.istore_n 2, 1) := by decide +kernel
theorem dX5_motifsOfAll_4 : decode cX5_motifsOfAll 4 = .ok (.iconst 0, 1) := by decide +kernel
theorem dX5_motifsOfAll_5 : decode cX5_motifsOfAll 5 = .ok (.istore_n 3, 1) := by decide +kernel
theorem dX5_motifsOfAll_6 : decode cX5_motifsOfAll 6 = .ok (.iload_n 3, 1) := by decide +kernel
theorem dX5_motifsOfAll_7 : decode cX5_motifsOfAll 7 = .ok (.aload_n 0, 1) := by decide +kernel
theorem dX5_motifsOfAll_8 : decode cX5_motifsOfAll 8 = .ok (.getfield 25, 3) := by decide +kernel
theorem dX5_motifsOfAll_11 : decode cX5_motifsOfAll 11 = .ok (.if_icmp .ge 30, 3) := by decide +kernel
theorem dX5_motifsOfAll_14 : decode cX5_motifsOfAll 14 = .ok (.iload_n 1, 1) := by decide +kernel
theorem dX5_motifsOfAll_15 : decode cX5_motifsOfAll 15 = .ok (.iload_n 3, 1) := by decide +kernel
theorem dX5_motifsOfAll_16 : decode cX5_motifsOfAll 16 = .ok (.ishr, 1) := by decide +kernel
theorem dX5_motifsOfAll_17 : decode cX5_motifsOfAll 17 = .ok (.iconst 1, 1) := by decide +kernel
theorem dX5_motifsOfAll_18 : decode cX5_motifsOfAll 18 = .ok (.iand, 1) := by decide +kernel
theorem dX5_motifsOfAll_19 : decode cX5_motifsOfAll 19 = .ok (.iconst 1, 1) := by decide +kernel
theorem dX5_motifsOfAll_20 : decode cX5_motifsOfAll 20 = .ok (.if_icmp .ne 15, 3) := by decide +kernel
theorem dX5_motifsOfAll_23 : decode cX5_motifsOfAll 23 = .ok (.iload_n 2, 1) := by decide +kernel
theorem dX5_motifsOfAll_24 : decode cX5_motifsOfAll 24 = .ok (.aload_n 0, 1) := by decide +kernel
theorem dX5_motifsOfAll_25 : decode cX5_motifsOfAll 25 = .ok (.getfield 9, 3) := by decide +kernel
theorem dX5_motifsOfAll_28 : decode cX5_motifsOfAll 28 = .ok (.iload_n 3, 1) := by decide +kernel
theorem dX5_motifsOfAll_29 : decode cX5_motifsOfAll 29 = .ok (.laload, 1) := by decide +kernel
theorem dX5_motifsOfAll_30 : decode cX5_motifsOfAll 30 = .ok (.invokestatic 44, 3) := by decide +kernel
theorem dX5_motifsOfAll_33 : decode cX5_motifsOfAll 33 = .ok (.iand, 1) := by decide +kernel
theorem dX5_motifsOfAll_34 : decode cX5_motifsOfAll 34 = .ok (.istore_n 2, 1) := by decide +kernel
theorem dX5_motifsOfAll_35 : decode cX5_motifsOfAll 35 = .ok (.iinc 3 1, 3) := by decide +kernel
theorem dX5_motifsOfAll_38 : decode cX5_motifsOfAll 38 = .ok (.goto (-32), 3) := by decide +kernel
theorem dX5_motifsOfAll_41 : decode cX5_motifsOfAll 41 = .ok (.iload_n 2, 1) := by decide +kernel
theorem dX5_motifsOfAll_42 : decode cX5_motifsOfAll 42 = .ok (.ireturn, 1) := by decide +kernel
theorem dX6_init_0 : decode cX6_init 0 = .ok (.aload_n 0, 1) := by decide +kernel
theorem dX6_init_1 : decode cX6_init 1 = .ok (.invokespecial 3, 3) := by decide +kernel
theorem dX6_init_4 : decode cX6_init 4 = .ok (.aload_n 0, 1) := by decide +kernel
theorem dX6_init_5 : decode cX6_init 5 = .ok (.bipush 8, 2) := by decide +kernel
theorem dX6_init_7 : decode cX6_init 7 = .ok (.newarray .int, 2) := by decide +kernel
theorem dX6_init_9 : decode cX6_init 9 = .ok (.putfield 9, 3) := by decide +kernel
theorem dX6_init_12 : decode cX6_init 12 = .ok (.aload_n 0, 1) := by decide +kernel
theorem dX6_init_13 : decode cX6_init 13 = .ok (.bipush 8, 2) := by decide +kernel
theorem dX6_init_15 : decode cX6_init 15 = .ok (.newarray .int, 2) := by decide +kernel
theorem dX6_init_17 : decode cX6_init 17 = .ok (.putfield 15, 3) := by decide +kernel
theorem dX6_init_20 : decode cX6_init 20 = .ok (.aload_n 0, 1) := by decide +kernel
theorem dX6_init_21 : decode cX6_init 21 = .ok (.bipush 8, 2) := by decide +kernel
theorem dX6_init_23 : decode cX6_init 23 = .ok (.newarray .int, 2) := by decide +kernel
theorem dX6_init_25 : decode cX6_init 25 = .ok (.putfield 18, 3) := by decide +kernel
theorem dX6_init_28 : decode cX6_init 28 = .ok (.aload_n 0, 1) := by decide +kernel
theorem dX6_init_29 : decode cX6_init 29 = .ok (.bipush 8, 2) := by decide +kernel
theorem dX6_init_31 : decode cX6_init 31 = .ok (.newarray .int, 2) := by decide +kernel
theorem dX6_init_33 : decode cX6_init 33 = .ok (.putfield 21, 3) := by decide +kernel
theorem dX6_init_36 : decode cX6_init 36 = .ok (.aload_n 0, 1) := by decide +kernel
theorem dX6_init_37 : decode cX6_init 37 = .ok (.iconst 0, 1) := by decide +kernel
theorem dX6_init_38 : decode cX6_init 38 = .ok (.putfield 24, 3) := by decide +kernel
theorem dX6_init_41 : decode cX6_init 41 = .ok (.aload_n 0, 1) := by decide +kernel
theorem dX6_init_42 : decode cX6_init 42 = .ok (.iconst 0, 1) := by decide +kernel
theorem dX6_init_43 : decode cX6_init 43 = .ok (.putfield 28, 3) := by decide +kernel
theorem dX6_init_46 : decode cX6_init 46 = .ok (.aload_n 0, 1) := by decide +kernel
theorem dX6_init_47 : decode cX6_init 47 = .ok (.iconst 1, 1) := by decide +kernel
theorem dX6_init_48 : decode cX6_init 48 = .ok (.putfield 31, 3) := by decide +kernel
theorem dX6_init_51 : decode cX6_init 51 = .ok (.aload_n 0, 1) := by decide +kernel
theorem dX6_init_52 : decode cX6_init 52 = .ok (.iconst 0, 1) := by decide +kernel
theorem dX6_init_53 : decode cX6_init 53 = .ok (.putfield 34, 3) := by decide +kernel
theorem dX6_init_56 : decode cX6_init 56 = .ok (.aload_n 0, 1) := by decide +kernel
theorem dX6_init_57 : decode cX6_init 57 = .ok (.iconst 1, 1) := by decide +kernel
theorem dX6_init_58 : decode cX6_init 58 = .ok (.putfield 37, 3) := by decide +kernel
theorem dX6_init_61 : decode cX6_init 61 = .ok (.aload_n 0, 1) := by decide +kernel
theorem dX6_init_62 : decode cX6_init 62 = .ok (.iconst 0, 1) := by decide +kernel
theorem dX6_init_63 : decode cX6_init 63 = .ok (.putfield 40, 3) := by decide +kernel
theorem dX6_init_66 : decode cX6_init 66 = .ok (.aload_n 0, 1) := by decide +kernel
theorem dX6_init_67 : decode cX6_init 67 = .ok (.iconst 0, 1) := by decide +kernel
theorem dX6_init_68 : decode cX6_init 68 = .ok (.putfield 43, 3) := by decide +kernel
theorem dX6_init_71 : decode cX6_init 71 = .ok (.return_, 1) := by decide +kernel
theorem dX6_grow_0 : decode cX6_grow 0 = .ok (.aload_n 0, 1) := by decide +kernel
theorem dX6_grow_1 : decode cX6_grow 1 = .ok (.iconst 0, 1) := by decide +kernel
theorem dX6_grow_2 : decode cX6_grow 2 = .ok (.putfield 24, 3) := by decide +kernel
theorem dX6_grow_5 : decode cX6_grow 5 = .ok (.iconst 0, 1) := by decide +kernel
theorem dX6_grow_6 : decode cX6_grow 6 = .ok (.istore 4, 2) := by decide +kernel
theorem dX6_grow_8 : decode cX6_grow 8 = .ok (.iload 4, 2) := by decide +kernel
theorem dX6_grow_10 : decode cX6_grow 10 = .ok (.iload_n 2, 1) := by decide +kernel
theorem dX6_grow_11 : decode cX6_grow 11 = .ok (.if_icmp .ge 27, 3) := by decide +kernel
theorem dX6_grow_14 : decode cX6_grow 14 = .ok (.iload 4, 2) := by decide +kernel
theorem dX6_grow_16 : decode cX6_grow 16 = .ok (.bipush 8, 2) := by decide +kernel
theorem dX6_grow_18 : decode cX6_grow 18 = .ok (.if_icmp .ge 20, 3) := by decide +kernel
theorem dX6_grow_21 : decode cX6_grow 21 = .ok (.aload_n 0, 1) := by decide +kernel
theorem dX6_grow_22 : decode cX6_grow 22 = .ok (.getfield 21, 3) := by decide +kernel
theorem dX6_grow_25 : decode cX6_grow 25 = .ok (.iload 4, 2) := by decide +kernel
theorem dX6_grow_27 : decode cX6_grow 27 = .ok (.iconst 1, 1) := by decide +kernel
theorem dX6_grow_28 : decode cX6_grow 28 = .ok (.iload 4, 2) := by decide +kernel
theorem dX6_grow_30 : decode cX6_grow 30 = .ok (.ishl, 1) := by decide +kernel
theorem dX6_grow_31 : decode cX6_grow 31 = .ok (.iastore, 1) := by decide +kernel
theorem dX6_grow_32 : decode cX6_grow 32 = .ok (.iinc 4 1, 3) := by decide +kernel
theorem dX6_grow_35 : decode cX6_grow 35 = .ok (.goto (-27), 3) := by decide +kernel
theorem dX6_grow_38 : decode cX6_grow 38 = .ok (.iload_n 2, 1) := by decide +kernel
theorem dX6_grow_39 : decode cX6_grow 39 = .ok (.istore 4, 2) := by decide +kernel
theorem dX6_grow_41 : decode cX6_grow 41 = .ok (.iload 4, 2) := by decide +kernel
theorem dX6_grow_43 : decode cX6_grow 43 = .ok (.iconst 1, 1) := by decide +kernel
theorem dX6_grow_44 : decode cX6_grow 44 = .ok (.if_icmp .le 23, 3) := by decide +kernel
theorem dX6_grow_47 : decode cX6_grow 47 = .ok (.aload_n 0, 1) := by decide +kernel
theorem dX6_grow_48 : decode cX6_grow 48 = .ok (.aload_n 1, 1) := by decide +kernel
theorem dX6_grow_49 : decode cX6_grow 49 = .ok (.iload 4, 2) := by decide +kernel
theorem dX6_grow_51 : decode cX6_grow 51 = .ok (.iload_n 3, 1) := by decide +kernel
theorem dX6_grow_52 : decode cX6_grow 52 = .ok (.invokevirtual 46, 3) := by decide +kernel
theorem dX6_grow_55 : decode cX6_grow 55 = .ok (.aload_n 0, 1) := by decide +kernel
theorem dX6_grow_56 : decode cX6_grow 56 = .ok (.iload 4, 2) := by decide +kernel
theorem dX6_grow_58 : decode cX6_grow 58 = .ok (.invokevirtual 50, 3) := by decide +kernel
theorem dX6_grow_61 : decode cX6_grow 61 = .ok (.iinc 4 (-1), 3) := by decide +kernel
theorem dX6_grow_64 : decode cX6_grow 64 = .ok (.goto (-23), 3) := by decide +kernel
theorem dX6_grow_67 : decode cX6_grow 67 = .ok (.return_, 1) := by decide +kernel
theorem dX6_nodesUpTo_0 : decode cX6_nodesUpTo 0 = .ok (.iconst 0, 1) := by decide +kernel
theorem dX6_nodesUpTo_1 : decode cX6_nodesUpTo 1 = .ok (.istore_n 2, 1) := by decide +kernel
theorem dX6_nodesUpTo_2 : decode cX6_nodesUpTo 2 = .ok (.iload_n 2, 1) := by decide +kernel
theorem dX6_nodesUpTo_3 : decode cX6_nodesUpTo 3 = .ok (.aload_n 0, 1) := by decide +kernel
theorem dX6_nodesUpTo_4 : decode cX6_nodesUpTo 4 = .ok (.getfield 24, 3) := by decide +kernel
theorem dX6_nodesUpTo_7 : decode cX6_nodesUpTo 7 = .ok (.if_icmp .ge 19, 3) := by decide +kernel
theorem dX6_nodesUpTo_10 : decode cX6_nodesUpTo 10 = .ok (.aload_n 0, 1) := by decide +kernel
theorem dX6_nodesUpTo_11 : decode cX6_nodesUpTo 11 = .ok (.getfield 9, 3) := by decide +kernel
theorem dX6_nodesUpTo_14 : decode cX6_nodesUpTo 14 = .ok (.iload_n 2, 1) := by decide +kernel
theorem dX6_nodesUpTo_15 : decode cX6_nodesUpTo 15 = .ok (.iaload, 1) := by decide +kernel
theorem dX6_nodesUpTo_16 : decode cX6_nodesUpTo 16 = .ok (.iload_n 1, 1) := by decide +kernel
theorem dX6_nodesUpTo_17 : decode cX6_nodesUpTo 17 = .ok (.if_icmp .gt 9, 3) := by decide +kernel
theorem dX6_nodesUpTo_20 : decode cX6_nodesUpTo 20 = .ok (.iinc 2 1, 3) := by decide +kernel
theorem dX6_nodesUpTo_23 : decode cX6_nodesUpTo 23 = .ok (.goto (-21), 3) := by decide +kernel
theorem dX6_nodesUpTo_26 : decode cX6_nodesUpTo 26 = .ok (.iload_n 2, 1) := by decide +kernel
theorem dX6_nodesUpTo_27 : decode cX6_nodesUpTo 27 = .ok (.ireturn, 1) := by decide +kernel
theorem dX6_typeOf_0 : decode cX6_typeOf 0 = .ok (.iconst 1, 1) := by decide +kernel
theorem dX6_typeOf_1 : decode cX6_typeOf 1 = .ok (.iload_n 1, 1) := by decide +kernel
theorem dX6_typeOf_2 : decode cX6_typeOf 2 = .ok (.ishl, 1) := by decide +kernel
theorem dX6_typeOf_3 : decode cX6_typeOf 3 = .ok (.istore_n 3, 1) := by decide +kernel
theorem dX6_typeOf_4 : decode cX6_typeOf 4 = .ok (.aload_n 0, 1) := by decide +kernel
theorem dX6_typeOf_5 : decode cX6_typeOf 5 = .ok (.iload_n 2, 1) := by decide +kernel
theorem dX6_typeOf_6 : decode cX6_typeOf 6 = .ok (.invokevirtual 54, 3) := by decide +kernel
theorem dX6_typeOf_9 : decode cX6_typeOf 9 = .ok (.istore 4, 2) := by decide +kernel
theorem dX6_typeOf_11 : decode cX6_typeOf 11 = .ok (.iconst 0, 1) := by decide +kernel
theorem dX6_typeOf_12 : decode cX6_typeOf 12 = .ok (.istore 5, 2) := by decide +kernel
theorem dX6_typeOf_14 : decode cX6_typeOf 14 = .ok (.iload 5, 2) := by decide +kernel
theorem dX6_typeOf_16 : decode cX6_typeOf 16 = .ok (.iload 4, 2) := by decide +kernel
theorem dX6_typeOf_18 : decode cX6_typeOf 18 = .ok (.if_icmp .ge 32, 3) := by decide +kernel
theorem dX6_typeOf_21 : decode cX6_typeOf 21 = .ok (.aload_n 0, 1) := by decide +kernel
theorem dX6_typeOf_22 : decode cX6_typeOf 22 = .ok (.getfield 15, 3) := by decide +kernel
theorem dX6_typeOf_25 : decode cX6_typeOf 25 = .ok (.iload 5, 2) := by decide +kernel
theorem dX6_typeOf_27 : decode cX6_typeOf 27 = .ok (.iaload, 1) := by decide +kernel
theorem dX6_typeOf_28 : decode cX6_typeOf 28 = .ok (.iload_n 1, 1) := by decide +kernel
theorem dX6_typeOf_29 : decode cX6_typeOf 29 = .ok (.ishr, 1) := by decide +kernel
theorem dX6_typeOf_30 : decode cX6_typeOf 30 = .ok (.iconst 1, 1) := by decide +kernel
theorem dX6_typeOf_31 : decode cX6_typeOf 31 = .ok (.iand, 1) := by decide +kernel
theorem dX6_typeOf_32 : decode cX6_typeOf 32 = .ok (.iconst 1, 1) := by decide +kernel
theorem dX6_typeOf_33 : decode cX6_typeOf 33 = .ok (.if_icmp .ne 11, 3) := by decide +kernel
theorem dX6_typeOf_36 : decode cX6_typeOf 36 = .ok (.aload_n 0, 1) := by decide +kernel
theorem dX6_typeOf_37 : decode cX6_typeOf 37 = .ok (.getfield 15, 3) := by decide +kernel
theorem dX6_typeOf_40 : decode cX6_typeOf 40 = .ok (.iload 5, 2) := by decide +kernel
theorem dX6_typeOf_42 : decode cX6_typeOf 42 = .ok (.iaload, 1) := by decide +kernel
theorem dX6_typeOf_43 : decode cX6_typeOf 43 = .ok (.istore_n 3, 1) := by decide +kernel
theorem dX6_typeOf_44 : decode cX6_typeOf 44 = .ok (.iinc 5 1, 3) := by decide +kernel
theorem dX6_typeOf_47 : decode cX6_typeOf 47 = .ok (.goto (-33), 3) := by decide +kernel
theorem dX6_typeOf_50 : decode cX6_typeOf 50 = .ok (.iload_n 3, 1) := by decide +kernel
theorem dX6_typeOf_51 : decode cX6_typeOf 51 = .ok (.ireturn, 1) := by decide +kernel
theorem dX6_findNearest_0 : decode cX6_findNearest 0 = .ok (.iconst 0, 1) := by decide +kernel
theorem dX6_findNearest_1 : decode cX6_findNearest 1 = .ok (.istore 4, 2) := by decide +kernel
theorem dX6_findNearest_3 : decode cX6_findNearest 3 = .ok (.iconst 0, 1) := by decide +kernel
theorem dX6_findNearest_4 : decode cX6_findNearest 4 = .ok (.istore 5, 2) := by decide +kernel
theorem dX6_findNearest_6 : decode cX6_findNearest 6 = .ok (.iload 5, 2) := by decide +kernel
theorem dX6_findNearest_8 : decode cX6_findNearest 8 = .ok (.iload_n 2, 1) := by decide +kernel
theorem dX6_findNearest_9 : decode cX6_findNearest 9 = .ok (.if_icmp .ge 104, 3) := by decide +kernel
theorem dX6_findNearest_12 : decode cX6_findNearest 12 = .ok (.iload 5, 2) := by decide +kernel
theorem dX6_findNearest_14 : decode cX6_findNearest 14 = .ok (.iconst 1, 1) := by decide +kernel
theorem dX6_findNearest_15 : decode cX6_findNearest 15 = .ok (.iadd, 1) := by decide +kernel
theorem dX6_findNearest_16 : decode cX6_findNearest 16 = .ok (.istore 6, 2) := by decide +kernel
theorem dX6_findNearest_18 : decode cX6_findNearest 18 = .ok (.iload 6, 2) := by decide +kernel
theorem dX6_findNearest_20 : decode cX6_findNearest 20 = .ok (.iload_n 2, 1) := by decide +kernel
theorem dX6_findNearest_21 : decode cX6_findNearest 21 = .ok (.if_icmp .ge 86, 3) := by decide +kernel
theorem dX6_findNearest_24 : decode cX6_findNearest 24 = .ok (.aload_n 0, 1) := by decide +kernel
theorem dX6_findNearest_25 : decode cX6_findNearest 25 = .ok (.aload_n 1, 1) := by decide +kernel
theorem dX6_findNearest_26 : decode cX6_findNearest 26 = .ok (.aload_n 0, 1) := by decide +kernel
theorem dX6_findNearest_27 : decode cX6_findNearest 27 = .ok (.getfield 21, 3) := by decide +kernel
theorem dX6_findNearest_30 : decode cX6_findNearest 30 = .ok (.iload 5, 2) := by decide +kernel
theorem dX6_findNearest_32 : decode cX6_findNearest 32 = .ok (.iaload, 1) := by decide +kernel
theorem dX6_findNearest_33 : decode cX6_findNearest 33 = .ok (.aload_n 0, 1) := by decide +kernel
theorem dX6_findNearest_34 : decode cX6_findNearest 34 = .ok (.getfield 21, 3) := by decide +kernel
theorem dX6_findNearest_37 : decode cX6_findNearest 37 = .ok (.iload 6, 2) := by decide +kernel
theorem dX6_findNearest_39 : decode cX6_findNearest 39 = .ok (.iaload, 1) := by decide +kernel
theorem dX6_findNearest_40 : decode cX6_findNearest 40 = .ok (.iload_n 3, 1) := by decide +kernel
theorem dX6_findNearest_41 : decode cX6_findNearest 41 = .ok (.invokevirtual 58, 3) := by decide +kernel
theorem dX6_findNearest_44 : decode cX6_findNearest 44 = .ok (.iload 4, 2) := by decide +kernel
theorem dX6_findNearest_46 : decode cX6_findNearest 46 = .ok (.ifCond .eq 24, 3) := by decide +kernel
theorem dX6_findNearest_49 : decode cX6_findNearest 49 = .ok (.aload_n 0, 1) := by decide +kernel
theorem dX6_findNearest_50 : decode cX6_findNearest 50 = .ok (.getfield 28, 3) := by decide +kernel
theorem dX6_findNearest_53 : decode cX6_findNearest 53 = .ok (.aload_n 0, 1) := by decide +kernel
theorem dX6_findNearest_54 : decode cX6_findNearest 54 = .ok (.getfield 37, 3) := by decide +kernel
theorem dX6_findNearest_57 : decode cX6_findNearest 57 = .ok (.imul, 1) := by decide +kernel
theorem dX6_findNearest_58 : decode cX6_findNearest 58 = .ok (.aload_n 0, 1) := by decide +kernel
theorem dX6_findNearest_59 : decode cX6_findNearest 59 = .ok (.getfield 34, 3) := by decide +kernel
theorem dX6_findNearest_62 : decode cX6_findNearest 62 = .ok (.aload_n 0, 1) := by decide +kernel
theorem dX6_findNearest_63 : decode cX6_findNearest 63 = .ok (.getfield 31, 3) := by decide +kernel
theorem dX6_findNearest_66 : decode cX6_findNearest 66 = .ok (.imul, 1) := by decide +kernel
theorem dX6_findNearest_67 : decode cX6_findNearest 67 = .ok (.if_icmp .ge 34, 3) := by decide +kernel
theorem dX6_findNearest_70 : decode cX6_findNearest 70 = .ok (.iconst 1, 1) := by decide +kernel
theorem dX6_findNearest_71 : decode cX6_findNearest 71 = .ok (.istore 4, 2) := by decide +kernel
theorem dX6_findNearest_73 : decode cX6_findNearest 73 = .ok (.aload_n 0, 1) := by decide +kernel
theorem dX6_findNearest_74 : decode cX6_findNearest 74 = .ok (.aload_n 0, 1) := by decide +kernel
theorem dX6_findNearest_75 : decode cX6_findNearest 75 = .ok (.getfield 28, 3) := by decide +kernel
theorem dX6_findNearest_78 : decode cX6_findNearest 78 = .ok (.putfield 34, 3) := by decide +kernel
theorem dX6_findNearest_81 : decode cX6_findNearest 81 = .ok (.aload_n 0, 1) := by decide +kernel
theorem dX6_findNearest_82 : decode cX6_findNearest 82 = .ok (.aload_n 0, 1) := by decide +kernel
theorem dX6_findNearest_83 : decode cX6_findNearest 83 = .ok (.getfield 31, 3) := by decide +kernel
theorem dX6_findNearest_86 : decode cX6_findNearest 86 = .ok (.putfield 37, 3) := by decide +kernel
theorem dX6_findNearest_89 : decode cX6_findNearest 89 = .ok (.aload_n 0, 1) := by decide +kernel
theorem dX6_findNearest_90 : decode cX6_findNearest 90 = .ok (.iload 5, 2) := by decide +kernel
theorem dX6_findNearest_92 : decode cX6_findNearest 92 = .ok (.putfield 40, 3) := by decide +kernel
theorem dX6_findNearest_95 : decode cX6_findNearest 95 = .ok (.aload_n 0, 1) := by decide +kernel
theorem dX6_findNearest_96 : decode cX6_findNearest 96 = .ok (.iload 6, 2) := by decide +kernel
theorem dX6_findNearest_98 : decode cX6_findNearest 98 = .ok (.putfield 43, 3) := by decide +kernel
theorem dX6_findNearest_101 : decode cX6_findNearest 101 = .ok (.iinc 6 1, 3) := by decide +kernel
theorem dX6_findNearest_104 : decode cX6_findNearest 104 = .ok (.goto (-86), 3) := by decide +kernel
theorem dX6_findNearest_107 : decode cX6_findNearest 107 = .ok (.iinc 5 1, 3) := by decide +kernel
theorem dX6_findNearest_110 : decode cX6_findNearest 110 = .ok (.goto (-104), 3) := by decide +kernel
theorem dX6_findNearest_113 : decode cX6_findNearest 113 = .ok (.return_, 1) := by decide +kernel
theorem dX6_compareTypes_0 : decode cX6_compareTypes 0 = .ok (.ldc 62, 2) := by decide +kernel
theorem dX6_compareTypes_2 : decode cX6_compareTypes 2 = .ok (.istore 5, 2) := by decide +kernel
theorem dX6_compareTypes_4 : decode cX6_compareTypes 4 = .ok (.iconst 0, 1) := by decide +kernel
theorem dX6_compareTypes_5 : decode cX6_compareTypes 5 = .ok (.istore 6, 2) := by decide +kernel
theorem dX6_compareTypes_7 : decode cX6_compareTypes 7 = .ok (.iconst 0, 1) := by decide +kernel
theorem dX6_compareTypes_8 : decode cX6_compareTypes 8 = .ok (.istore 7, 2) := by decide +kernel
theorem dX6_compareTypes_10 : decode cX6_compareTypes 10 = .ok (.iconst 0, 1) := by decide +kernel
theorem dX6_compareTypes_11 : decode cX6_compareTypes 11 = .ok (.istore 8, 2) := by decide +kernel
theorem dX6_compareTypes_13 : decode cX6_compareTypes 13 = .ok (.iload 8, 2) := by decide +kernel
theorem dX6_compareTypes_15 : decode cX6_compareTypes 15 = .ok (.bipush 8, 2) := by decide +kernel
theorem dX6_compareTypes_17 : decode cX6_compareTypes 17 = .ok (.if_icmp .ge 82, 3) := by decide +kernel
theorem dX6_compareTypes_20 : decode cX6_compareTypes 20 = .ok (.iload_n 2, 1) := by decide +kernel
theorem dX6_compareTypes_21 : decode cX6_compareTypes 21 = .ok (.iload 8, 2) := by decide +kernel
theorem dX6_compareTypes_23 : decode cX6_compareTypes 23 = .ok (.ishr, 1) := by decide +kernel
theorem dX6_compareTypes_24 : decode cX6_compareTypes 24 = .ok (.iconst 1, 1) := by decide +kernel
theorem dX6_compareTypes_25 : decode cX6_compareTypes 25 = .ok (.iand, 1) := by decide +kernel
theorem dX6_compareTypes_26 : decode cX6_compareTypes 26 = .ok (.ifCond .ne 6, 3) := by decide +kernel
theorem dX6_compareTypes_29 : decode cX6_compareTypes 29 = .ok (.goto 64, 3) := by decide +kernel
theorem dX6_compareTypes_32 : decode cX6_compareTypes 32 = .ok (.iconst 0, 1) := by decide +kernel
theorem dX6_compareTypes_33 : decode cX6_compareTypes 33 = .ok (.istore 9, 2) := by decide +kernel
theorem dX6_compareTypes_35 : decode cX6_compareTypes 35 = .ok (.iload 9, 2) := by decide +kernel
theorem dX6_compareTypes_37 : decode cX6_compareTypes 37 = .ok (.bipush 8, 2) := by decide +kernel
theorem dX6_compareTypes_39 : decode cX6_compareTypes 39 = .ok (.if_icmp .ge 54, 3) := by decide +kernel
theorem dX6_compareTypes_42 : decode cX6_compareTypes 42 = .ok (.iload_n 3, 1) := by decide +kernel
theorem dX6_compareTypes_43 : decode cX6_compareTypes 43 = .ok (.iload 9, 2) := by decide +kernel
theorem dX6_compareTypes_45 : decode cX6_compareTypes 45 = .ok (.ishr, 1) := by decide +kernel
theorem dX6_compareTypes_46 : decode cX6_compareTypes 46 = .ok (.iconst 1, 1) := by decide +kernel
theorem dX6_compareTypes_47 : decode cX6_compareTypes 47 = .ok (.iand, 1) := by decide +kernel
theorem dX6_compareTypes_48 : decode cX6_compareTypes 48 = .ok (.iconst 1, 1) := by decide +kernel
theorem dX6_compareTypes_49 : decode cX6_compareTypes 49 = .ok (.if_icmp .ne 38, 3) := by decide +kernel
theorem dX6_compareTypes_52 : decode cX6_compareTypes 52 = .ok (.aload_n 1, 1) := by decide +kernel
theorem dX6_compareTypes_53 : decode cX6_compareTypes 53 = .ok (.iload 8, 2) := by decide +kernel
theorem dX6_compareTypes_55 : decode cX6_compareTypes 55 = .ok (.iload 9, 2) := by decide +kernel
theorem dX6_compareTypes_57 : decode cX6_compareTypes 57 = .ok (.invokevirtual 63, 3) := by decide +kernel
theorem dX6_compareTypes_60 : decode cX6_compareTypes 60 = .ok (.istore 10, 2) := by decide +kernel
theorem dX6_compareTypes_62 : decode cX6_compareTypes 62 = .ok (.iload 5, 2) := by decide +kernel
theorem dX6_compareTypes_64 : decode cX6_compareTypes 64 = .ok (.iload 10, 2) := by decide +kernel
theorem dX6_compareTypes_66 : decode cX6_compareTypes 66 = .ok (.invokestatic 69, 3) := by decide +kernel
theorem dX6_compareTypes_69 : decode cX6_compareTypes 69 = .ok (.istore 5, 2) := by decide +kernel
theorem dX6_compareTypes_71 : decode cX6_compareTypes 71 = .ok (.iload 6, 2) := by decide +kernel
theorem dX6_compareTypes_73 : decode cX6_compareTypes 73 = .ok (.iload 10, 2) := by decide +kernel
theorem dX6_compareTypes_75 : decode cX6_compareTypes 75 = .ok (.invokestatic 74, 3) := by decide +kernel
theorem dX6_compareTypes_78 : decode cX6_compareTypes 78 = .ok (.istore 6, 2) := by decide +kernel
theorem dX6_compareTypes_80 : decode cX6_compareTypes 80 = .ok (.iload 7, 2) := by decide +kernel
theorem dX6_compareTypes_82 : decode cX6_compareTypes 82 = .ok (.iload 10, 2) := by decide +kernel
theorem dX6_compareTypes_84 : decode cX6_compareTypes 84 = .ok (.iadd, 1) := by decide +kernel
theorem dX6_compareTypes_85 : decode cX6_compareTypes 85 = .ok (.istore 7, 2) := by decide +kernel
theorem dX6_compareTypes_87 : decode cX6_compareTypes 87 = .ok (.iinc 9 1, 3) := by decide +kernel
theorem dX6_compareTypes_90 : decode cX6_compareTypes 90 = .ok (.goto (-55), 3) := by decide +kernel
theorem dX6_compareTypes_93 : decode cX6_compareTypes 93 = .ok (.iinc 8 1, 3) := by decide +kernel
theorem dX6_compareTypes_96 : decode cX6_compareTypes 96 = .ok (.goto (-83), 3) := by decide +kernel
theorem dX6_compareTypes_99 : decode cX6_compareTypes 99 = .ok (.aload_n 0, 1) := by decide +kernel
theorem dX6_compareTypes_100 : decode cX6_compareTypes 100 = .ok (.iconst 1, 1) := by decide +kernel
theorem dX6_compareTypes_101 : decode cX6_compareTypes 101 = .ok (.putfield 31, 3) := by decide +kernel
theorem dX6_compareTypes_104 : decode cX6_compareTypes 104 = .ok (.iload 4, 2) := by decide +kernel
theorem dX6_compareTypes_106 : decode cX6_compareTypes 106 = .ok (.ifCond .ne 12, 3) := by decide +kernel
theorem dX6_compareTypes_109 : decode cX6_compareTypes 109 = .ok (.aload_n 0, 1) := by decide +kernel
theorem dX6_compareTypes_110 : decode cX6_compareTypes 110 = .ok (.iload 5, 2) := by decide +kernel
theorem dX6_compareTypes_112 : decode cX6_compareTypes 112 = .ok (.putfield 28, 3) := by decide +kernel
theorem dX6_compareTypes_115 : decode cX6_compareTypes 115 = .ok (.goto 37, 3) := by decide +kernel
theorem dX6_compareTypes_118 : decode cX6_compareTypes 118 = .ok (.iload 4, 2) := by decide +kernel
theorem dX6_compareTypes_120 : decode cX6_compareTypes 120 = .ok (.iconst 1, 1) := by decide +kernel
theorem dX6_compareTypes_121 : decode cX6_compareTypes 121 = .ok (.if_icmp .ne 12, 3) := by decide +kernel
theorem dX6_compareTypes_124 : decode cX6_compareTypes 124 = .ok (.aload_n 0, 1) := by decide +kernel
theorem dX6_compareTypes_125 : decode cX6_compareTypes 125 = .ok (.iload 6, 2) := by decide +kernel
theorem dX6_compareTypes_127 : decode cX6_compareTypes 127 = .ok (.putfield 28, 3) := by decide +kernel
theorem dX6_compareTypes_130 : decode cX6_compareTypes 130 = .ok (.goto 22, 3) := by decide +kernel
theorem dX6_compareTypes_133 : decode cX6_compareTypes 133 = .ok (.aload_n 0, 1) := by decide +kernel
theorem dX6_compareTypes_134 : decode cX6_compareTypes 134 = .ok (.iload 7, 2) := by decide +kernel
theorem dX6_compareTypes_136 : decode cX6_compareTypes 136 = .ok (.putfield 28, 3) := by decide +kernel
theorem dX6_compareTypes_139 : decode cX6_compareTypes 139 = .ok (.aload_n 0, 1) := by decide +kernel
theorem dX6_compareTypes_140 : decode cX6_compareTypes 140 = .ok (.iload_n 2, 1) := by decide +kernel
theorem dX6_compareTypes_141 : decode cX6_compareTypes 141 = .ok (.invokestatic 77, 3) := by decide +kernel
theorem dX6_compareTypes_144 : decode cX6_compareTypes 144 = .ok (.iload_n 3, 1) := by decide +kernel
theorem dX6_compareTypes_145 : decode cX6_compareTypes 145 = .ok (.invokestatic 77, 3) := by decide +kernel
theorem dX6_compareTypes_148 : decode cX6_compareTypes 148 = .ok (.imul, 1) := by decide +kernel
theorem dX6_compareTypes_149 : decode cX6_compareTypes 149 = .ok (.putfield 31, 3) := by decide +kernel
theorem dX6_compareTypes_152 : decode cX6_compareTypes 152 = .ok (.return_, 1) := by decide +kernel
theorem dX6_joinNearest_0 : decode cX6_joinNearest 0 = .ok (.aload_n 0, 1) := by decide +kernel
theorem dX6_joinNearest_1 : decode cX6_joinNearest 1 = .ok (.getfield 9, 3) := by decide +kernel
theorem dX6_joinNearest_4 : decode cX6_joinNearest 4 = .ok (.aload_n 0, 1) := by decide +kernel
theorem dX6_joinNearest_5 : decode cX6_joinNearest 5 = .ok (.getfield 24, 3) := by decide +kernel
theorem dX6_joinNearest_8 : decode cX6_joinNearest 8 = .ok (.aload_n 0, 1) := by decide +kernel
theorem dX6_joinNearest_9 : decode cX6_joinNearest 9 = .ok (.getfield 37, 3) := by decide +kernel
theorem dX6_joinNearest_12 : decode cX6_joinNearest 12 = .ok (.ifCond .le 15, 3) := by decide +kernel
theorem dX6_joinNearest_15 : decode cX6_joinNearest 15 = .ok (.aload_n 0, 1) := by decide +kernel
theorem dX6_joinNearest_16 : decode cX6_joinNearest 16 = .ok (.getfield 34, 3) := by decide +kernel
theorem dX6_joinNearest_19 : decode cX6_joinNearest 19 = .ok (.aload_n 0, 1) := by decide +kernel
theorem dX6_joinNearest_20 : decode cX6_joinNearest 20 = .ok (.getfield 37, 3) := by decide +kernel
theorem dX6_joinNearest_23 : decode cX6_joinNearest 23 = .ok (.idiv, 1) := by decide +kernel
theorem dX6_joinNearest_24 : decode cX6_joinNearest 24 = .ok (.goto 4, 3) := by decide +kernel
theorem dX6_joinNearest_27 : decode cX6_joinNearest 27 = .ok (.iconst 0, 1) := by decide +kernel
theorem dX6_joinNearest_28 : decode cX6_joinNearest 28 = .ok (.iastore, 1) := by decide +kernel
theorem dX6_joinNearest_29 : decode cX6_joinNearest 29 = .ok (.aload_n 0, 1) := by decide +kernel
theorem dX6_joinNearest_30 : decode cX6_joinNearest 30 = .ok (.getfield 18, 3) := by decide +kernel
theorem dX6_joinNearest_33 : decode cX6_joinNearest 33 = .ok (.aload_n 0, 1) := by decide +kernel
theorem dX6_joinNearest_34 : decode cX6_joinNearest 34 = .ok (.getfield 24, 3) := by decide +kernel
theorem dX6_joinNearest_37 : decode cX6_joinNearest 37 = .ok (.aload_n 0, 1) := by decide +kernel
theorem dX6_joinNearest_38 : decode cX6_joinNearest 38 = .ok (.getfield 21, 3) := by decide +kernel
theorem dX6_joinNearest_41 : decode cX6_joinNearest 41 = .ok (.aload_n 0, 1) := by decide +kernel
theorem dX6_joinNearest_42 : decode cX6_joinNearest 42 = .ok (.getfield 40, 3) := by decide +kernel
theorem dX6_joinNearest_45 : decode cX6_joinNearest 45 = .ok (.iaload, 1) := by decide +kernel
theorem dX6_joinNearest_46 : decode cX6_joinNearest 46 = .ok (.iastore, 1) := by decide +kernel
theorem dX6_joinNearest_47 : decode cX6_joinNearest 47 = .ok (.aload_n 0, 1) := by decide +kernel
theorem dX6_joinNearest_48 : decode cX6_joinNearest 48 = .ok (.getfield 21, 3) := by decide +kernel
theorem dX6_joinNearest_51 : decode cX6_joinNearest 51 = .ok (.aload_n 0, 1) := by decide +kernel
theorem dX6_joinNearest_52 : decode cX6_joinNearest 52 = .ok (.getfield 40, 3) := by decide +kernel
theorem dX6_joinNearest_55 : decode cX6_joinNearest 55 = .ok (.dup2, 1) := by decide +kernel
theorem dX6_joinNearest_56 : decode cX6_joinNearest 56 = .ok (.iaload, 1) := by decide +kernel
theorem dX6_joinNearest_57 : decode cX6_joinNearest 57 = .ok (.aload_n 0, 1) := by decide +kernel
theorem dX6_joinNearest_58 : decode cX6_joinNearest 58 = .ok (.getfield 21, 3) := by decide +kernel
theorem dX6_joinNearest_61 : decode cX6_joinNearest 61 = .ok (.aload_n 0, 1) := by decide +kernel
theorem dX6_joinNearest_62 : decode cX6_joinNearest 62 = .ok (.getfield 43, 3) := by decide +kernel
theorem dX6_joinNearest_65 : decode cX6_joinNearest 65 = .ok (.iaload, 1) := by decide +kernel
theorem dX6_joinNearest_66 : decode cX6_joinNearest 66 = .ok (.ior, 1) := by decide +kernel
theorem dX6_joinNearest_67 : decode cX6_joinNearest 67 = .ok (.iastore, 1) := by decide +kernel
theorem dX6_joinNearest_68 : decode cX6_joinNearest 68 = .ok (.aload_n 0, 1) := by decide +kernel
theorem dX6_joinNearest_69 : decode cX6_joinNearest 69 = .ok (.getfield 15, 3) := by decide +kernel
theorem dX6_joinNearest_72 : decode cX6_joinNearest 72 = .ok (.aload_n 0, 1) := by decide +kernel
theorem dX6_joinNearest_73 : decode cX6_joinNearest 73 = .ok (.getfield 24, 3) := by decide +kernel
theorem dX6_joinNearest_76 : decode cX6_joinNearest 76 = .ok (.aload_n 0, 1) := by decide +kernel
theorem dX6_joinNearest_77 : decode cX6_joinNearest 77 = .ok (.getfield 21, 3) := by decide +kernel
theorem dX6_joinNearest_80 : decode cX6_joinNearest 80 = .ok (.aload_n 0, 1) := by decide +kernel
theorem dX6_joinNearest_81 : decode cX6_joinNearest 81 = .ok (.getfield 40, 3) := by decide +kernel
theorem dX6_joinNearest_84 : decode cX6_joinNearest 84 = .ok (.iaload, 1) := by decide +kernel
theorem dX6_joinNearest_85 : decode cX6_joinNearest 85 = .ok (.iastore, 1) := by decide +kernel
theorem dX6_joinNearest_86 : decode cX6_joinNearest 86 = .ok (.aload_n 0, 1) := by decide +kernel
theorem dX6_joinNearest_87 : decode cX6_joinNearest 87 = .ok (.dup, 1) := by decide +kernel
theorem dX6_joinNearest_88 : decode cX6_joinNearest 88 = .ok (.getfield 24, 3) := by decide +kernel
theorem dX6_joinNearest_91 : decode cX6_joinNearest 91 = .ok (.iconst 1, 1) := by decide +kernel
theorem dX6_joinNearest_92 : decode cX6_joinNearest 92 = .ok (.iadd, 1) := by decide +kernel
theorem dX6_joinNearest_93 : decode cX6_joinNearest 93 = .ok (.putfield 24, 3) := by decide +kernel
theorem dX6_joinNearest_96 : decode cX6_joinNearest 96 = .ok (.aload_n 0, 1) := by decide +kernel
theorem dX6_joinNearest_97 : decode cX6_joinNearest 97 = .ok (.getfield 43, 3) := by decide +kernel
theorem dX6_joinNearest_100 : decode cX6_joinNearest 100 = .ok (.istore_n 2, 1) := by decide +kernel
end
section
theorem dX6_joinNearest_101 : decode cX6_joinNearest 101 = .ok (.iload_n 2, 1) := by decide +kernel
theorem dX6_joinNearest_102 : decode cX6_joinNearest 102 = .ok (.iload_n 1, 1) := by decide +kernel
theorem dX6_joinNearest_103 : decode cX6_joinNearest 103 = .ok (.iconst 1, 1) := by decide +kernel
theorem dX6_joinNearest_104 : decode cX6_joinNearest 104 = .ok (.isub, 1) := by decide +kernel
theorem dX6_joinNearest_105 : decode cX6_joinNearest 105 = .ok (.if_icmp .ge 23, 3) := by decide +kernel
theorem dX6_joinNearest_108 : decode cX6_joinNearest 108 = .ok (.aload_n 0, 1) := by decide +kernel
theorem dX6_joinNearest_109 : decode cX6_joinNearest 109 = .ok (.getfield 21, 3) := by decide +kernel
theorem dX6_joinNearest_112 : decode cX6_joinNearest 112 = .ok (.iload_n 2, 1) := by decide +kernel
theorem dX6_joinNearest_113 : decode cX6_joinNearest 113 = .ok (.aload_n 0, 1) := by decide +kernel
theorem dX6_joinNearest_114 : decode cX6_joinNearest 114 = .ok (.getfield 21, 3) := by decide +kernel
theorem dX6_joinNearest_117 : decode cX6_joinNearest 117 = .ok (.iload_n 2, 1) := by decide +kernel
theorem dX6_joinNearest_118 : decode cX6_joinNearest 118 = .ok (.iconst 1, 1) := by decide +kernel
theorem dX6_joinNearest_119 : decode cX6_joinNearest 119 = .ok (.iadd, 1) := by decide +kernel
theorem dX6_joinNearest_120 : decode cX6_joinNearest 120 = .ok (.iaload, 1) := by decide +kernel
theorem dX6_joinNearest_121 : decode cX6_joinNearest 121 = .ok (.iastore, 1) := by decide +kernel
theorem dX6_joinNearest_122 : decode cX6_joinNearest 122 = .ok (.iinc 2 1, 3) := by decide +kernel
theorem dX6_joinNearest_125 : decode cX6_joinNearest 125 = .ok (.goto (-24), 3) := by decide +kernel
theorem dX6_joinNearest_128 : decode cX6_joinNearest 128 = .ok (.return_, 1) := by decide +kernel
theorem dX7_init_0 : decode cX7_init 0 = .ok (.aload_n 0, 1) := by decide +kernel
theorem dX7_init_1 : decode cX7_init 1 = .ok (.invokespecial 1, 3) := by decide +kernel
theorem dX7_init_4 : decode cX7_init 4 = .ok (.aload_n 0, 1) := by decide +kernel
theorem dX7_init_5 : decode cX7_init 5 = .ok (.new 7, 3) := by decide +kernel
theorem dX7_init_8 : decode cX7_init 8 = .ok (.dup, 1) := by decide +kernel
theorem dX7_init_9 : decode cX7_init 9 = .ok (.invokespecial 9, 3) := by decide +kernel
theorem dX7_init_12 : decode cX7_init 12 = .ok (.putfield 10, 3) := by decide +kernel
theorem dX7_init_15 : decode cX7_init 15 = .ok (.aload_n 0, 1) := by decide +kernel
theorem dX7_init_16 : decode cX7_init 16 = .ok (.new 16, 3) := by decide +kernel
theorem dX7_init_19 : decode cX7_init 19 = .ok (.dup, 1) := by decide +kernel
theorem dX7_init_20 : decode cX7_init 20 = .ok (.invokespecial 18, 3) := by decide +kernel
theorem dX7_init_23 : decode cX7_init 23 = .ok (.putfield 19, 3) := by decide +kernel
theorem dX7_init_26 : decode cX7_init 26 = .ok (.aload_n 0, 1) := by decide +kernel
theorem dX7_init_27 : decode cX7_init 27 = .ok (.new 23, 3) := by decide +kernel
theorem dX7_init_30 : decode cX7_init 30 = .ok (.dup, 1) := by decide +kernel
theorem dX7_init_31 : decode cX7_init 31 = .ok (.invokespecial 25, 3) := by decide +kernel
theorem dX7_init_34 : decode cX7_init 34 = .ok (.putfield 26, 3) := by decide +kernel
theorem dX7_init_37 : decode cX7_init 37 = .ok (.aload_n 0, 1) := by decide +kernel
theorem dX7_init_38 : decode cX7_init 38 = .ok (.new 30, 3) := by decide +kernel
theorem dX7_init_41 : decode cX7_init 41 = .ok (.dup, 1) := by decide +kernel
theorem dX7_init_42 : decode cX7_init 42 = .ok (.invokespecial 32, 3) := by decide +kernel
theorem dX7_init_45 : decode cX7_init 45 = .ok (.putfield 33, 3) := by decide +kernel
theorem dX7_init_48 : decode cX7_init 48 = .ok (.aload_n 0, 1) := by decide +kernel
theorem dX7_init_49 : decode cX7_init 49 = .ok (.new 37, 3) := by decide +kernel
theorem dX7_init_52 : decode cX7_init 52 = .ok (.dup, 1) := by decide +kernel
theorem dX7_init_53 : decode cX7_init 53 = .ok (.invokespecial 39, 3) := by decide +kernel
theorem dX7_init_56 : decode cX7_init 56 = .ok (.putfield 40, 3) := by decide +kernel
theorem dX7_init_59 : decode cX7_init 59 = .ok (.aload_n 0, 1) := by decide +kernel
theorem dX7_init_60 : decode cX7_init 60 = .ok (.new 44, 3) := by decide +kernel
theorem dX7_init_63 : decode cX7_init 63 = .ok (.dup, 1) := by decide +kernel
theorem dX7_init_64 : decode cX7_init 64 = .ok (.invokespecial 46, 3) := by decide +kernel
theorem dX7_init_67 : decode cX7_init 67 = .ok (.putfield 47, 3) := by decide +kernel
theorem dX7_init_70 : decode cX7_init 70 = .ok (.aload_n 0, 1) := by decide +kernel
theorem dX7_init_71 : decode cX7_init 71 = .ok (.iconst 2, 1) := by decide +kernel
theorem dX7_init_72 : decode cX7_init 72 = .ok (.anewarray 51, 3) := by decide +kernel
theorem dX7_init_75 : decode cX7_init 75 = .ok (.putfield 53, 3) := by decide +kernel
theorem dX7_init_78 : decode cX7_init 78 = .ok (.aload_n 0, 1) := by decide +kernel
theorem dX7_init_79 : decode cX7_init 79 = .ok (.lconst 0, 1) := by decide +kernel
theorem dX7_init_80 : decode cX7_init 80 = .ok (.putfield 57, 3) := by decide +kernel
theorem dX7_init_83 : decode cX7_init 83 = .ok (.aload_n 0, 1) := by decide +kernel
theorem dX7_init_84 : decode cX7_init 84 = .ok (.iconst 0, 1) := by decide +kernel
theorem dX7_init_85 : decode cX7_init 85 = .ok (.putfield 61, 3) := by decide +kernel
theorem dX7_init_88 : decode cX7_init 88 = .ok (.aload_n 0, 1) := by decide +kernel
theorem dX7_init_89 : decode cX7_init 89 = .ok (.iconst 0, 1) := by decide +kernel
theorem dX7_init_90 : decode cX7_init 90 = .ok (.putfield 65, 3) := by decide +kernel
theorem dX7_init_93 : decode cX7_init 93 = .ok (.iconst 0, 1) := by decide +kernel
theorem dX7_init_94 : decode cX7_init 94 = .ok (.istore_n 1, 1) := by decide +kernel
theorem dX7_init_95 : decode cX7_init 95 = .ok (.iload_n 1, 1) := by decide +kernel
theorem dX7_init_96 : decode cX7_init 96 = .ok (.iconst 2, 1) := by decide +kernel
theorem dX7_init_97 : decode cX7_init 97 = .ok (.if_icmp .ge 22, 3) := by decide +kernel
theorem dX7_init_100 : decode cX7_init 100 = .ok (.aload_n 0, 1) := by decide +kernel
theorem dX7_init_101 : decode cX7_init 101 = .ok (.getfield 53, 3) := by decide +kernel
theorem dX7_init_104 : decode cX7_init 104 = .ok (.iload_n 1, 1) := by decide +kernel
theorem dX7_init_105 : decode cX7_init 105 = .ok (.new 51, 3) := by decide +kernel
theorem dX7_init_108 : decode cX7_init 108 = .ok (.dup, 1) := by decide +kernel
theorem dX7_init_109 : decode cX7_init 109 = .ok (.invokespecial 69, 3) := by decide +kernel
theorem dX7_init_112 : decode cX7_init 112 = .ok (.aastore, 1) := by decide +kernel
theorem dX7_init_113 : decode cX7_init 113 = .ok (.iinc 1 1, 3) := by decide +kernel
theorem dX7_init_116 : decode cX7_init 116 = .ok (.goto (-21), 3) := by decide +kernel
theorem dX7_init_119 : decode cX7_init 119 = .ok (.return_, 1) := by decide +kernel
theorem dX7_feed_0 : decode cX7_feed 0 = .ok (.iload_n 1, 1) := by decide +kernel
theorem dX7_feed_1 : decode cX7_feed 1 = .ok (.bipush 97, 2) := by decide +kernel
theorem dX7_feed_3 : decode cX7_feed 3 = .ok (.if_icmp .lt 9, 3) := by decide +kernel
theorem dX7_feed_6 : decode cX7_feed 6 = .ok (.iload_n 1, 1) := by decide +kernel
theorem dX7_feed_7 : decode cX7_feed 7 = .ok (.bipush 104, 2) := by decide +kernel
theorem dX7_feed_9 : decode cX7_feed 9 = .ok (.if_icmp .le 6, 3) := by decide +kernel
theorem dX7_feed_12 : decode cX7_feed 12 = .ok (.ldc 70, 2) := by decide +kernel
theorem dX7_feed_14 : decode cX7_feed 14 = .ok (.ireturn, 1) := by decide +kernel
theorem dX7_feed_15 : decode cX7_feed 15 = .ok (.aload_n 0, 1) := by decide +kernel
theorem dX7_feed_16 : decode cX7_feed 16 = .ok (.getfield 57, 3) := by decide +kernel
theorem dX7_feed_19 : decode cX7_feed 19 = .ok (.invokestatic 71, 3) := by decide +kernel
theorem dX7_feed_22 : decode cX7_feed 22 = .ok (.bipush 10, 2) := by decide +kernel
theorem dX7_feed_24 : decode cX7_feed 24 = .ok (.if_icmp .lt 6, 3) := by decide +kernel
theorem dX7_feed_27 : decode cX7_feed 27 = .ok (.ldc 75, 2) := by decide +kernel
theorem dX7_feed_29 : decode cX7_feed 29 = .ok (.ireturn, 1) := by decide +kernel
theorem dX7_feed_30 : decode cX7_feed 30 = .ok (.aload_n 0, 1) := by decide +kernel
theorem dX7_feed_31 : decode cX7_feed 31 = .ok (.aload_n 0, 1) := by decide +kernel
theorem dX7_feed_32 : decode cX7_feed 32 = .ok (.getfield 57, 3) := by decide +kernel
theorem dX7_feed_35 : decode cX7_feed 35 = .ok (.iload_n 1, 1) := by decide +kernel
theorem dX7_feed_36 : decode cX7_feed 36 = .ok (.bipush 97, 2) := by decide +kernel
theorem dX7_feed_38 : decode cX7_feed 38 = .ok (.isub, 1) := by decide +kernel
theorem dX7_feed_39 : decode cX7_feed 39 = .ok (.invokestatic 76, 3) := by decide +kernel
theorem dX7_feed_42 : decode cX7_feed 42 = .ok (.putfield 57, 3) := by decide +kernel
theorem dX7_feed_45 : decode cX7_feed 45 = .ok (.aload_n 0, 1) := by decide +kernel
theorem dX7_feed_46 : decode cX7_feed 46 = .ok (.getfield 57, 3) := by decide +kernel
theorem dX7_feed_49 : decode cX7_feed 49 = .ok (.invokestatic 71, 3) := by decide +kernel
theorem dX7_feed_52 : decode cX7_feed 52 = .ok (.ireturn, 1) := by decide +kernel
theorem dX7_tale_0 : decode cX7_tale 0 = .ok (.aload_n 0, 1) := by decide +kernel
theorem dX7_tale_1 : decode cX7_tale 1 = .ok (.getfield 10, 3) := by decide +kernel
theorem dX7_tale_4 : decode cX7_tale 4 = .ok (.getfield 80, 3) := by decide +kernel
theorem dX7_tale_7 : decode cX7_tale 7 = .ok (.bipush 8, 2) := by decide +kernel
theorem dX7_tale_9 : decode cX7_tale 9 = .ok (.if_icmp .lt 6, 3) := by decide +kernel
theorem dX7_tale_12 : decode cX7_tale 12 = .ok (.ldc 75, 2) := by decide +kernel
theorem dX7_tale_14 : decode cX7_tale 14 = .ok (.ireturn, 1) := by decide +kernel
theorem dX7_tale_15 : decode cX7_tale 15 = .ok (.aload_n 0, 1) := by decide +kernel
theorem dX7_tale_16 : decode cX7_tale 16 = .ok (.getfield 57, 3) := by decide +kernel
theorem dX7_tale_19 : decode cX7_tale 19 = .ok (.invokestatic 71, 3) := by decide +kernel
theorem dX7_tale_22 : decode cX7_tale 22 = .ok (.ifCond .ne 6, 3) := by decide +kernel
theorem dX7_tale_25 : decode cX7_tale 25 = .ok (.ldc 83, 2) := by decide +kernel
theorem dX7_tale_27 : decode cX7_tale 27 = .ok (.ireturn, 1) := by decide +kernel
theorem dX7_tale_28 : decode cX7_tale 28 = .ok (.aload_n 0, 1) := by decide +kernel
theorem dX7_tale_29 : decode cX7_tale 29 = .ok (.invokevirtual 84, 3) := by decide +kernel
theorem dX7_tale_32 : decode cX7_tale 32 = .ok (.aload_n 0, 1) := by decide +kernel
theorem dX7_tale_33 : decode cX7_tale 33 = .ok (.getfield 10, 3) := by decide +kernel
theorem dX7_tale_36 : decode cX7_tale 36 = .ok (.aload_n 0, 1) := by decide +kernel
theorem dX7_tale_37 : decode cX7_tale 37 = .ok (.getfield 57, 3) := by decide +kernel
theorem dX7_tale_40 : decode cX7_tale 40 = .ok (.iconst 0, 1) := by decide +kernel
theorem dX7_tale_41 : decode cX7_tale 41 = .ok (.invokevirtual 87, 3) := by decide +kernel
theorem dX7_tale_44 : decode cX7_tale 44 = .ok (.aload_n 0, 1) := by decide +kernel
theorem dX7_tale_45 : decode cX7_tale 45 = .ok (.lconst 0, 1) := by decide +kernel
theorem dX7_tale_46 : decode cX7_tale 46 = .ok (.putfield 57, 3) := by decide +kernel
theorem dX7_tale_49 : decode cX7_tale 49 = .ok (.aload_n 0, 1) := by decide +kernel
theorem dX7_tale_50 : decode cX7_tale 50 = .ok (.getfield 10, 3) := by decide +kernel
theorem dX7_tale_53 : decode cX7_tale 53 = .ok (.getfield 80, 3) := by decide +kernel
theorem dX7_tale_56 : decode cX7_tale 56 = .ok (.iconst 1, 1) := by decide +kernel
theorem dX7_tale_57 : decode cX7_tale 57 = .ok (.isub, 1) := by decide +kernel
theorem dX7_tale_58 : decode cX7_tale 58 = .ok (.ireturn, 1) := by decide +kernel
theorem dX7_told_0 : decode cX7_told 0 = .ok (.iload_n 1, 1) := by decide +kernel
theorem dX7_told_1 : decode cX7_told 1 = .ok (.tableswitch 136 0 8 #[51, 59, 67, 75, 80, 85, 97, 105, 128], 51) := by decide +kernel
theorem dX7_told_52 : decode cX7_told 52 = .ok (.aload_n 0, 1) := by decide +kernel
theorem dX7_told_53 : decode cX7_told 53 = .ok (.getfield 10, 3) := by decide +kernel
theorem dX7_told_56 : decode cX7_told 56 = .ok (.getfield 80, 3) := by decide +kernel
theorem dX7_told_59 : decode cX7_told 59 = .ok (.ireturn, 1) := by decide +kernel
theorem dX7_told_60 : decode cX7_told 60 = .ok (.aload_n 0, 1) := by decide +kernel
theorem dX7_told_61 : decode cX7_told 61 = .ok (.getfield 57, 3) := by decide +kernel
theorem dX7_told_64 : decode cX7_told 64 = .ok (.invokestatic 71, 3) := by decide +kernel
theorem dX7_told_67 : decode cX7_told 67 = .ok (.ireturn, 1) := by decide +kernel
theorem dX7_told_68 : decode cX7_told 68 = .ok (.aload_n 0, 1) := by decide +kernel
theorem dX7_told_69 : decode cX7_told 69 = .ok (.getfield 10, 3) := by decide +kernel
theorem dX7_told_72 : decode cX7_told 72 = .ok (.getfield 91, 3) := by decide +kernel
theorem dX7_told_75 : decode cX7_told 75 = .ok (.ireturn, 1) := by decide +kernel
theorem dX7_told_76 : decode cX7_told 76 = .ok (.aload_n 0, 1) := by decide +kernel
theorem dX7_told_77 : decode cX7_told 77 = .ok (.invokevirtual 94, 3) := by decide +kernel
theorem dX7_told_80 : decode cX7_told 80 = .ok (.ireturn, 1) := by decide +kernel
theorem dX7_told_81 : decode cX7_told 81 = .ok (.aload_n 0, 1) := by decide +kernel
theorem dX7_told_82 : decode cX7_told 82 = .ok (.invokevirtual 98, 3) := by decide +kernel
theorem dX7_told_85 : decode cX7_told 85 = .ok (.ireturn, 1) := by decide +kernel
theorem dX7_told_86 : decode cX7_told 86 = .ok (.aload_n 0, 1) := by decide +kernel
theorem dX7_told_87 : decode cX7_told 87 = .ok (.getfield 10, 3) := by decide +kernel
theorem dX7_told_90 : decode cX7_told 90 = .ok (.aload_n 0, 1) := by decide +kernel
theorem dX7_told_91 : decode cX7_told 91 = .ok (.invokevirtual 101, 3) := by decide +kernel
theorem dX7_told_94 : decode cX7_told 94 = .ok (.invokevirtual 104, 3) := by decide +kernel
theorem dX7_told_97 : decode cX7_told 97 = .ok (.ireturn, 1) := by decide +kernel
theorem dX7_told_98 : decode cX7_told 98 = .ok (.aload_n 0, 1) := by decide +kernel
theorem dX7_told_99 : decode cX7_told 99 = .ok (.getfield 26, 3) := by decide +kernel
theorem dX7_told_102 : decode cX7_told 102 = .ok (.getfield 108, 3) := by decide +kernel
theorem dX7_told_105 : decode cX7_told 105 = .ok (.ireturn, 1) := by decide +kernel
theorem dX7_told_106 : decode cX7_told 106 = .ok (.aload_n 0, 1) := by decide +kernel
theorem dX7_told_107 : decode cX7_told 107 = .ok (.invokevirtual 111, 3) := by decide +kernel
theorem dX7_told_110 : decode cX7_told 110 = .ok (.aload_n 0, 1) := by decide +kernel
theorem dX7_told_111 : decode cX7_told 111 = .ok (.getfield 26, 3) := by decide +kernel
theorem dX7_told_114 : decode cX7_told 114 = .ok (.aload_n 0, 1) := by decide +kernel
theorem dX7_told_115 : decode cX7_told 115 = .ok (.getfield 40, 3) := by decide +kernel
theorem dX7_told_118 : decode cX7_told 118 = .ok (.aload_n 0, 1) := by decide +kernel
theorem dX7_told_119 : decode cX7_told 119 = .ok (.getfield 10, 3) := by decide +kernel
theorem dX7_told_122 : decode cX7_told 122 = .ok (.getfield 80, 3) := by decide +kernel
theorem dX7_told_125 : decode cX7_told 125 = .ok (.invokevirtual 114, 3) := by decide +kernel
theorem dX7_told_128 : decode cX7_told 128 = .ok (.ireturn, 1) := by decide +kernel
theorem dX7_told_129 : decode cX7_told 129 = .ok (.aload_n 0, 1) := by decide +kernel
theorem dX7_told_130 : decode cX7_told 130 = .ok (.getfield 19, 3) := by decide +kernel
theorem dX7_told_133 : decode cX7_told 133 = .ok (.getfield 118, 3) := by decide +kernel
theorem dX7_told_136 : decode cX7_told 136 = .ok (.ireturn, 1) := by decide +kernel
theorem dX7_told_137 : decode cX7_told 137 = .ok (.ldc 70, 2) := by decide +kernel
theorem dX7_told_139 : decode cX7_told 139 = .ok (.ireturn, 1) := by decide +kernel
theorem dX7_taleAt_0 : decode cX7_taleAt 0 = .ok (.aload_n 0, 1) := by decide +kernel
theorem dX7_taleAt_1 : decode cX7_taleAt 1 = .ok (.iload_n 1, 1) := by decide +kernel
theorem dX7_taleAt_2 : decode cX7_taleAt 2 = .ok (.invokevirtual 119, 3) := by decide +kernel
theorem dX7_taleAt_5 : decode cX7_taleAt 5 = .ok (.ifCond .ne 6, 3) := by decide +kernel
theorem dX7_taleAt_8 : decode cX7_taleAt 8 = .ok (.ldc 123, 2) := by decide +kernel
theorem dX7_taleAt_10 : decode cX7_taleAt 10 = .ok (.ireturn, 1) := by decide +kernel
theorem dX7_taleAt_11 : decode cX7_taleAt 11 = .ok (.iload_n 2, 1) := by decide +kernel
theorem dX7_taleAt_12 : decode cX7_taleAt 12 = .ok (.tableswitch 98 0 3 #[32, 45, 55, 78], 32) := by decide +kernel
theorem dX7_taleAt_44 : decode cX7_taleAt 44 = .ok (.aload_n 0, 1) := by decide +kernel
theorem dX7_taleAt_45 : decode cX7_taleAt 45 = .ok (.getfield 10, 3) := by decide +kernel
theorem dX7_taleAt_48 : decode cX7_taleAt 48 = .ok (.getfield 124, 3) := by decide +kernel
theorem dX7_taleAt_51 : decode cX7_taleAt 51 = .ok (.iload_n 1, 1) := by decide +kernel
theorem dX7_taleAt_52 : decode cX7_taleAt 52 = .ok (.laload, 1) := by decide +kernel
theorem dX7_taleAt_53 : decode cX7_taleAt 53 = .ok (.invokestatic 71, 3) := by decide +kernel
theorem dX7_taleAt_56 : decode cX7_taleAt 56 = .ok (.ireturn, 1) := by decide +kernel
theorem dX7_taleAt_57 : decode cX7_taleAt 57 = .ok (.aload_n 0, 1) := by decide +kernel
theorem dX7_taleAt_58 : decode cX7_taleAt 58 = .ok (.getfield 10, 3) := by decide +kernel
theorem dX7_taleAt_61 : decode cX7_taleAt 61 = .ok (.getfield 128, 3) := by decide +kernel
theorem dX7_taleAt_64 : decode cX7_taleAt 64 = .ok (.iload_n 1, 1) := by decide +kernel
theorem dX7_taleAt_65 : decode cX7_taleAt 65 = .ok (.iaload, 1) := by decide +kernel
theorem dX7_taleAt_66 : decode cX7_taleAt 66 = .ok (.ireturn, 1) := by decide +kernel
theorem dX7_taleAt_67 : decode cX7_taleAt 67 = .ok (.aload_n 0, 1) := by decide +kernel
theorem dX7_taleAt_68 : decode cX7_taleAt 68 = .ok (.getfield 10, 3) := by decide +kernel
theorem dX7_taleAt_71 : decode cX7_taleAt 71 = .ok (.getfield 128, 3) := by decide +kernel
theorem dX7_taleAt_74 : decode cX7_taleAt 74 = .ok (.iload_n 1, 1) := by decide +kernel
theorem dX7_taleAt_75 : decode cX7_taleAt 75 = .ok (.iaload, 1) := by decide +kernel
theorem dX7_taleAt_76 : decode cX7_taleAt 76 = .ok (.aload_n 0, 1) := by decide +kernel
theorem dX7_taleAt_77 : decode cX7_taleAt 77 = .ok (.getfield 10, 3) := by decide +kernel
theorem dX7_taleAt_80 : decode cX7_taleAt 80 = .ok (.getfield 132, 3) := by decide +kernel
theorem dX7_taleAt_83 : decode cX7_taleAt 83 = .ok (.invokestatic 135, 3) := by decide +kernel
theorem dX7_taleAt_86 : decode cX7_taleAt 86 = .ok (.invokestatic 139, 3) := by decide +kernel
theorem dX7_taleAt_89 : decode cX7_taleAt 89 = .ok (.ireturn, 1) := by decide +kernel
theorem dX7_taleAt_90 : decode cX7_taleAt 90 = .ok (.aload_n 0, 1) := by decide +kernel
theorem dX7_taleAt_91 : decode cX7_taleAt 91 = .ok (.getfield 10, 3) := by decide +kernel
theorem dX7_taleAt_94 : decode cX7_taleAt 94 = .ok (.getfield 128, 3) := by decide +kernel
theorem dX7_taleAt_97 : decode cX7_taleAt 97 = .ok (.iload_n 1, 1) := by decide +kernel
theorem dX7_taleAt_98 : decode cX7_taleAt 98 = .ok (.iaload, 1) := by decide +kernel
theorem dX7_taleAt_99 : decode cX7_taleAt 99 = .ok (.aload_n 0, 1) := by decide +kernel
theorem dX7_taleAt_100 : decode cX7_taleAt 100 = .ok (.getfield 10, 3) := by decide +kernel
theorem dX7_taleAt_103 : decode cX7_taleAt 103 = .ok (.getfield 132, 3) := by decide +kernel
theorem dX7_taleAt_106 : decode cX7_taleAt 106 = .ok (.invokestatic 135, 3) := by decide +kernel
theorem dX7_taleAt_109 : decode cX7_taleAt 109 = .ok (.ireturn, 1) := by decide +kernel
theorem dX7_taleAt_110 : decode cX7_taleAt 110 = .ok (.ldc 70, 2) := by decide +kernel
theorem dX7_taleAt_112 : decode cX7_taleAt 112 = .ok (.ireturn, 1) := by decide +kernel
theorem dX7_motif_0 : decode cX7_motif 0 = .ok (.aload_n 0, 1) := by decide +kernel
theorem dX7_motif_1 : decode cX7_motif 1 = .ok (.iload_n 1, 1) := by decide +kernel
theorem dX7_motif_2 : decode cX7_motif 2 = .ok (.invokevirtual 119, 3) := by decide +kernel
theorem dX7_motif_5 : decode cX7_motif 5 = .ok (.ifCond .ne 6, 3) := by decide +kernel
theorem dX7_motif_8 : decode cX7_motif 8 = .ok (.ldc 123, 2) := by decide +kernel
theorem dX7_motif_10 : decode cX7_motif 10 = .ok (.ireturn, 1) := by decide +kernel
theorem dX7_motif_11 : decode cX7_motif 11 = .ok (.iload_n 2, 1) := by decide +kernel
theorem dX7_motif_12 : decode cX7_motif 12 = .ok (.ifCond .lt 19, 3) := by decide +kernel
theorem dX7_motif_15 : decode cX7_motif 15 = .ok (.iload_n 2, 1) := by decide +kernel
theorem dX7_motif_16 : decode cX7_motif 16 = .ok (.aload_n 0, 1) := by decide +kernel
theorem dX7_motif_17 : decode cX7_motif 17 = .ok (.getfield 10, 3) := by decide +kernel
theorem dX7_motif_20 : decode cX7_motif 20 = .ok (.getfield 124, 3) := by decide +kernel
theorem dX7_motif_23 : decode cX7_motif 23 = .ok (.iload_n 1, 1) := by decide +kernel
theorem dX7_motif_24 : decode cX7_motif 24 = .ok (.laload, 1) := by decide +kernel
theorem dX7_motif_25 : decode cX7_motif 25 = .ok (.invokestatic 71, 3) := by decide +kernel
theorem dX7_motif_28 : decode cX7_motif 28 = .ok (.if_icmp .lt 5, 3) := by decide +kernel
theorem dX7_motif_31 : decode cX7_motif 31 = .ok (.iconst (-1), 1) := by decide +kernel
theorem dX7_motif_32 : decode cX7_motif 32 = .ok (.ireturn, 1) := by decide +kernel
theorem dX7_motif_33 : decode cX7_motif 33 = .ok (.aload_n 0, 1) := by decide +kernel
theorem dX7_motif_34 : decode cX7_motif 34 = .ok (.getfield 10, 3) := by decide +kernel
theorem dX7_motif_37 : decode cX7_motif 37 = .ok (.getfield 124, 3) := by decide +kernel
theorem dX7_motif_40 : decode cX7_motif 40 = .ok (.iload_n 1, 1) := by decide +kernel
theorem dX7_motif_41 : decode cX7_motif 41 = .ok (.laload, 1) := by decide +kernel
theorem dX7_motif_42 : decode cX7_motif 42 = .ok (.iload_n 2, 1) := by decide +kernel
theorem dX7_motif_43 : decode cX7_motif 43 = .ok (.invokestatic 142, 3) := by decide +kernel
theorem dX7_motif_46 : decode cX7_motif 46 = .ok (.ireturn, 1) := by decide +kernel
theorem dX7_costAt_0 : decode cX7_costAt 0 = .ok (.iload_n 1, 1) := by decide +kernel
theorem dX7_costAt_1 : decode cX7_costAt 1 = .ok (.ifCond .lt 8, 3) := by decide +kernel
theorem dX7_costAt_4 : decode cX7_costAt 4 = .ok (.iload_n 1, 1) := by decide +kernel
theorem dX7_costAt_5 : decode cX7_costAt 5 = .ok (.iconst 4, 1) := by decide +kernel
theorem dX7_costAt_6 : decode cX7_costAt 6 = .ok (.if_icmp .lt 6, 3) := by decide +kernel
theorem dX7_costAt_9 : decode cX7_costAt 9 = .ok (.ldc 70, 2) := by decide +kernel
theorem dX7_costAt_11 : decode cX7_costAt 11 = .ok (.ireturn, 1) := by decide +kernel
theorem dX7_costAt_12 : decode cX7_costAt 12 = .ok (.aload_n 0, 1) := by decide +kernel
theorem dX7_costAt_13 : decode cX7_costAt 13 = .ok (.getfield 10, 3) := by decide +kernel
theorem dX7_costAt_16 : decode cX7_costAt 16 = .ok (.getfield 146, 3) := by decide +kernel
theorem dX7_costAt_19 : decode cX7_costAt 19 = .ok (.iload_n 1, 1) := by decide +kernel
theorem dX7_costAt_20 : decode cX7_costAt 20 = .ok (.iaload, 1) := by decide +kernel
theorem dX7_costAt_21 : decode cX7_costAt 21 = .ok (.ireturn, 1) := by decide +kernel
theorem dX7_pair_0 : decode cX7_pair 0 = .ok (.aload_n 0, 1) := by decide +kernel
theorem dX7_pair_1 : decode cX7_pair 1 = .ok (.iload_n 1, 1) := by decide +kernel
theorem dX7_pair_2 : decode cX7_pair 2 = .ok (.invokevirtual 119, 3) := by decide +kernel
theorem dX7_pair_5 : decode cX7_pair 5 = .ok (.ifCond .eq 11, 3) := by decide +kernel
theorem dX7_pair_8 : decode cX7_pair 8 = .ok (.aload_n 0, 1) := by decide +kernel
theorem dX7_pair_9 : decode cX7_pair 9 = .ok (.iload_n 2, 1) := by decide +kernel
theorem dX7_pair_10 : decode cX7_pair 10 = .ok (.invokevirtual 119, 3) := by decide +kernel
theorem dX7_pair_13 : decode cX7_pair 13 = .ok (.ifCond .ne 6, 3) := by decide +kernel
theorem dX7_pair_16 : decode cX7_pair 16 = .ok (.ldc 123, 2) := by decide +kernel
theorem dX7_pair_18 : decode cX7_pair 18 = .ok (.ireturn, 1) := by decide +kernel
theorem dX7_pair_19 : decode cX7_pair 19 = .ok (.iload_n 3, 1) := by decide +kernel
theorem dX7_pair_20 : decode cX7_pair 20 = .ok (.ifCond .lt 8, 3) := by decide +kernel
theorem dX7_pair_23 : decode cX7_pair 23 = .ok (.iload_n 3, 1) := by decide +kernel
theorem dX7_pair_24 : decode cX7_pair 24 = .ok (.iconst 3, 1) := by decide +kernel
theorem dX7_pair_25 : decode cX7_pair 25 = .ok (.if_icmp .le 6, 3) := by decide +kernel
theorem dX7_pair_28 : decode cX7_pair 28 = .ok (.ldc 70, 2) := by decide +kernel
theorem dX7_pair_30 : decode cX7_pair 30 = .ok (.ireturn, 1) := by decide +kernel
theorem dX7_pair_31 : decode cX7_pair 31 = .ok (.aload_n 0, 1) := by decide +kernel
theorem dX7_pair_32 : decode cX7_pair 32 = .ok (.getfield 33, 3) := by decide +kernel
theorem dX7_pair_35 : decode cX7_pair 35 = .ok (.aload_n 0, 1) := by decide +kernel
theorem dX7_pair_36 : decode cX7_pair 36 = .ok (.getfield 10, 3) := by decide +kernel
theorem dX7_pair_39 : decode cX7_pair 39 = .ok (.getfield 124, 3) := by decide +kernel
theorem dX7_pair_42 : decode cX7_pair 42 = .ok (.iload_n 1, 1) := by decide +kernel
theorem dX7_pair_43 : decode cX7_pair 43 = .ok (.laload, 1) := by decide +kernel
theorem dX7_pair_44 : decode cX7_pair 44 = .ok (.aload_n 0, 1) := by decide +kernel
theorem dX7_pair_45 : decode cX7_pair 45 = .ok (.getfield 10, 3) := by decide +kernel
theorem dX7_pair_48 : decode cX7_pair 48 = .ok (.getfield 124, 3) := by decide +kernel
theorem dX7_pair_51 : decode cX7_pair 51 = .ok (.iload_n 2, 1) := by decide +kernel
theorem dX7_pair_52 : decode cX7_pair 52 = .ok (.laload, 1) := by decide +kernel
theorem dX7_pair_53 : decode cX7_pair 53 = .ok (.aload_n 0, 1) := by decide +kernel
theorem dX7_pair_54 : decode cX7_pair 54 = .ok (.getfield 10, 3) := by decide +kernel
theorem dX7_pair_57 : decode cX7_pair 57 = .ok (.getfield 146, 3) := by decide +kernel
theorem dX7_pair_60 : decode cX7_pair 60 = .ok (.invokevirtual 149, 3) := by decide +kernel
theorem dX7_pair_63 : decode cX7_pair 63 = .ok (.iload_n 3, 1) := by decide +kernel
theorem dX7_pair_64 : decode cX7_pair 64 = .ok (.tableswitch 52 0 2 #[28, 36, 44], 28) := by decide +kernel
theorem dX7_pair_92 : decode cX7_pair 92 = .ok (.aload_n 0, 1) := by decide +kernel
theorem dX7_pair_93 : decode cX7_pair 93 = .ok (.getfield 33, 3) := by decide +kernel
theorem dX7_pair_96 : decode cX7_pair 96 = .ok (.invokevirtual 153, 3) := by decide +kernel
theorem dX7_pair_99 : decode cX7_pair 99 = .ok (.ireturn, 1) := by decide +kernel
theorem dX7_pair_100 : decode cX7_pair 100 = .ok (.aload_n 0, 1) := by decide +kernel
theorem dX7_pair_101 : decode cX7_pair 101 = .ok (.getfield 33, 3) := by decide +kernel
theorem dX7_pair_104 : decode cX7_pair 104 = .ok (.invokevirtual 156, 3) := by decide +kernel
theorem dX7_pair_107 : decode cX7_pair 107 = .ok (.ireturn, 1) := by decide +kernel
theorem dX7_pair_108 : decode cX7_pair 108 = .ok (.aload_n 0, 1) := by decide +kernel
theorem dX7_pair_109 : decode cX7_pair 109 = .ok (.getfield 33, 3) := by decide +kernel
theorem dX7_pair_112 : decode cX7_pair 112 = .ok (.invokevirtual 159, 3) := by decide +kernel
theorem dX7_pair_115 : decode cX7_pair 115 = .ok (.ireturn, 1) := by decide +kernel
theorem dX7_pair_116 : decode cX7_pair 116 = .ok (.aload_n 0, 1) := by decide +kernel
theorem dX7_pair_117 : decode cX7_pair 117 = .ok (.getfield 33, 3) := by decide +kernel
theorem dX7_pair_120 : decode cX7_pair 120 = .ok (.invokevirtual 162, 3) := by decide +kernel
theorem dX7_pair_123 : decode cX7_pair 123 = .ok (.ireturn, 1) := by decide +kernel
theorem dX7_step_0 : decode cX7_step 0 = .ok (.aload_n 0, 1) := by decide +kernel
theorem dX7_step_1 : decode cX7_step 1 = .ok (.iload_n 1, 1) := by decide +kernel
theorem dX7_step_2 : decode cX7_step 2 = .ok (.invokevirtual 119, 3) := by decide +kernel
theorem dX7_step_5 : decode cX7_step 5 = .ok (.ifCond .eq 11, 3) := by decide +kernel
theorem dX7_step_8 : decode cX7_step 8 = .ok (.aload_n 0, 1) := by decide +kernel
theorem dX7_step_9 : decode cX7_step 9 = .ok (.iload_n 2, 1) := by decide +kernel
theorem dX7_step_10 : decode cX7_step 10 = .ok (.invokevirtual 119, 3) := by decide +kernel
theorem dX7_step_13 : decode cX7_step 13 = .ok (.ifCond .ne 6, 3) := by decide +kernel
theorem dX7_step_16 : decode cX7_step 16 = .ok (.ldc 123, 2) := by decide +kernel
theorem dX7_step_18 : decode cX7_step 18 = .ok (.ireturn, 1) := by decide +kernel
theorem dX7_step_19 : decode cX7_step 19 = .ok (.aload_n 0, 1) := by decide +kernel
theorem dX7_step_20 : decode cX7_step 20 = .ok (.getfield 33, 3) := by decide +kernel
theorem dX7_step_23 : decode cX7_step 23 = .ok (.aload_n 0, 1) := by decide +kernel
theorem dX7_step_24 : decode cX7_step 24 = .ok (.getfield 10, 3) := by decide +kernel
theorem dX7_step_27 : decode cX7_step 27 = .ok (.getfield 124, 3) := by decide +kernel
theorem dX7_step_30 : decode cX7_step 30 = .ok (.iload_n 1, 1) := by decide +kernel
theorem dX7_step_31 : decode cX7_step 31 = .ok (.laload, 1) := by decide +kernel
theorem dX7_step_32 : decode cX7_step 32 = .ok (.aload_n 0, 1) := by decide +kernel
theorem dX7_step_33 : decode cX7_step 33 = .ok (.getfield 10, 3) := by decide +kernel
theorem dX7_step_36 : decode cX7_step 36 = .ok (.getfield 124, 3) := by decide +kernel
theorem dX7_step_39 : decode cX7_step 39 = .ok (.iload_n 2, 1) := by decide +kernel
theorem dX7_step_40 : decode cX7_step 40 = .ok (.laload, 1) := by decide +kernel
theorem dX7_step_41 : decode cX7_step 41 = .ok (.aload_n 0, 1) := by decide +kernel
theorem dX7_step_42 : decode cX7_step 42 = .ok (.getfield 10, 3) := by decide +kernel
theorem dX7_step_45 : decode cX7_step 45 = .ok (.getfield 146, 3) := by decide +kernel
theorem dX7_step_48 : decode cX7_step 48 = .ok (.invokevirtual 149, 3) := by decide +kernel
theorem dX7_step_51 : decode cX7_step 51 = .ok (.aload_n 0, 1) := by decide +kernel
theorem dX7_step_52 : decode cX7_step 52 = .ok (.getfield 33, 3) := by decide +kernel
theorem dX7_step_55 : decode cX7_step 55 = .ok (.iload_n 3, 1) := by decide +kernel
theorem dX7_step_56 : decode cX7_step 56 = .ok (.invokevirtual 165, 3) := by decide +kernel
theorem dX7_step_59 : decode cX7_step 59 = .ok (.ireturn, 1) := by decide +kernel
theorem dX7_node_0 : decode cX7_node 0 = .ok (.iload_n 1, 1) := by decide +kernel
theorem dX7_node_1 : decode cX7_node 1 = .ok (.ifCond .lt 11, 3) := by decide +kernel
theorem dX7_node_4 : decode cX7_node 4 = .ok (.iload_n 1, 1) := by decide +kernel
theorem dX7_node_5 : decode cX7_node 5 = .ok (.aload_n 0, 1) := by decide +kernel
theorem dX7_node_6 : decode cX7_node 6 = .ok (.invokevirtual 94, 3) := by decide +kernel
theorem dX7_node_9 : decode cX7_node 9 = .ok (.if_icmp .lt 6, 3) := by decide +kernel
theorem dX7_node_12 : decode cX7_node 12 = .ok (.ldc 123, 2) := by decide +kernel
theorem dX7_node_14 : decode cX7_node 14 = .ok (.ireturn, 1) := by decide +kernel
theorem dX7_node_15 : decode cX7_node 15 = .ok (.aload_n 0, 1) := by decide +kernel
theorem dX7_node_16 : decode cX7_node 16 = .ok (.invokevirtual 111, 3) := by decide +kernel
theorem dX7_node_19 : decode cX7_node 19 = .ok (.iload_n 2, 1) := by decide +kernel
theorem dX7_node_20 : decode cX7_node 20 = .ok (.tableswitch 79 0 3 #[32, 42, 52, 62], 32) := by decide +kernel
theorem dX7_node_52 : decode cX7_node 52 = .ok (.aload_n 0, 1) := by decide +kernel
theorem dX7_node_53 : decode cX7_node 53 = .ok (.getfield 47, 3) := by decide +kernel
theorem dX7_node_56 : decode cX7_node 56 = .ok (.getfield 168, 3) := by decide +kernel
theorem dX7_node_59 : decode cX7_node 59 = .ok (.iload_n 1, 1) := by decide +kernel
theorem dX7_node_60 : decode cX7_node 60 = .ok (.iaload, 1) := by decide +kernel
theorem dX7_node_61 : decode cX7_node 61 = .ok (.ireturn, 1) := by decide +kernel
theorem dX7_node_62 : decode cX7_node 62 = .ok (.aload_n 0, 1) := by decide +kernel
theorem dX7_node_63 : decode cX7_node 63 = .ok (.getfield 47, 3) := by decide +kernel
theorem dX7_node_66 : decode cX7_node 66 = .ok (.getfield 171, 3) := by decide +kernel
theorem dX7_node_69 : decode cX7_node 69 = .ok (.iload_n 1, 1) := by decide +kernel
theorem dX7_node_70 : decode cX7_node 70 = .ok (.iaload, 1) := by decide +kernel
theorem dX7_node_71 : decode cX7_node 71 = .ok (.ireturn, 1) := by decide +kernel
theorem dX7_node_72 : decode cX7_node 72 = .ok (.aload_n 0, 1) := by decide +kernel
theorem dX7_node_73 : decode cX7_node 73 = .ok (.getfield 47, 3) := by decide +kernel
theorem dX7_node_76 : decode cX7_node 76 = .ok (.getfield 174, 3) := by decide +kernel
theorem dX7_node_79 : decode cX7_node 79 = .ok (.iload_n 1, 1) := by decide +kernel
theorem dX7_node_80 : decode cX7_node 80 = .ok (.iaload, 1) := by decide +kernel
theorem dX7_node_81 : decode cX7_node 81 = .ok (.ireturn, 1) := by decide +kernel
theorem dX7_node_82 : decode cX7_node 82 = .ok (.aload_n 0, 1) := by decide +kernel
theorem dX7_node_83 : decode cX7_node 83 = .ok (.getfield 40, 3) := by decide +kernel
theorem dX7_node_86 : decode cX7_node 86 = .ok (.aload_n 0, 1) := by decide +kernel
theorem dX7_node_87 : decode cX7_node 87 = .ok (.getfield 47, 3) := by decide +kernel
theorem dX7_node_90 : decode cX7_node 90 = .ok (.getfield 171, 3) := by decide +kernel
theorem dX7_node_93 : decode cX7_node 93 = .ok (.iload_n 1, 1) := by decide +kernel
theorem dX7_node_94 : decode cX7_node 94 = .ok (.iaload, 1) := by decide +kernel
theorem dX7_node_95 : decode cX7_node 95 = .ok (.invokevirtual 177, 3) := by decide +kernel
theorem dX7_node_98 : decode cX7_node 98 = .ok (.ireturn, 1) := by decide +kernel
theorem dX7_node_99 : decode cX7_node 99 = .ok (.ldc 70, 2) := by decide +kernel
theorem dX7_node_101 : decode cX7_node 101 = .ok (.ireturn, 1) := by decide +kernel
theorem dX7_types_0 : decode cX7_types 0 = .ok (.iload_n 2, 1) := by decide +kernel
theorem dX7_types_1 : decode cX7_types 1 = .ok (.ifCond .lt 14, 3) := by decide +kernel
theorem dX7_types_4 : decode cX7_types 4 = .ok (.iload_n 2, 1) := by decide +kernel
theorem dX7_types_5 : decode cX7_types 5 = .ok (.aload_n 0, 1) := by decide +kernel
theorem dX7_types_6 : decode cX7_types 6 = .ok (.getfield 10, 3) := by decide +kernel
theorem dX7_types_9 : decode cX7_types 9 = .ok (.getfield 80, 3) := by decide +kernel
theorem dX7_types_12 : decode cX7_types 12 = .ok (.if_icmp .le 6, 3) := by decide +kernel
theorem dX7_types_15 : decode cX7_types 15 = .ok (.ldc 123, 2) := by decide +kernel
theorem dX7_types_17 : decode cX7_types 17 = .ok (.ireturn, 1) := by decide +kernel
theorem dX7_types_18 : decode cX7_types 18 = .ok (.iload_n 1, 1) := by decide +kernel
theorem dX7_types_19 : decode cX7_types 19 = .ok (.ifCond .lt 10, 3) := by decide +kernel
theorem dX7_types_22 : decode cX7_types 22 = .ok (.iload_n 1, 1) := by decide +kernel
theorem dX7_types_23 : decode cX7_types 23 = .ok (.sipush 999, 3) := by decide +kernel
theorem dX7_types_26 : decode cX7_types 26 = .ok (.if_icmp .le 6, 3) := by decide +kernel
theorem dX7_types_29 : decode cX7_types 29 = .ok (.ldc 70, 2) := by decide +kernel
theorem dX7_types_31 : decode cX7_types 31 = .ok (.ireturn, 1) := by decide +kernel
theorem dX7_types_32 : decode cX7_types 32 = .ok (.aload_n 0, 1) := by decide +kernel
theorem dX7_types_33 : decode cX7_types 33 = .ok (.invokevirtual 111, 3) := by decide +kernel
theorem dX7_types_36 : decode cX7_types 36 = .ok (.iload_n 2, 1) := by decide +kernel
theorem dX7_types_37 : decode cX7_types 37 = .ok (.ifCond .ne 20, 3) := by decide +kernel
theorem dX7_types_40 : decode cX7_types 40 = .ok (.aload_n 0, 1) := by decide +kernel
theorem dX7_types_41 : decode cX7_types 41 = .ok (.getfield 10, 3) := by decide +kernel
theorem dX7_types_44 : decode cX7_types 44 = .ok (.getfield 80, 3) := by decide +kernel
theorem dX7_types_47 : decode cX7_types 47 = .ok (.aload_n 0, 1) := by decide +kernel
theorem dX7_types_48 : decode cX7_types 48 = .ok (.getfield 47, 3) := by decide +kernel
theorem dX7_types_51 : decode cX7_types 51 = .ok (.iload_n 1, 1) := by decide +kernel
theorem dX7_types_52 : decode cX7_types 52 = .ok (.invokevirtual 180, 3) := by decide +kernel
theorem dX7_types_55 : decode cX7_types 55 = .ok (.isub, 1) := by decide +kernel
theorem dX7_types_56 : decode cX7_types 56 = .ok (.ireturn, 1) := by decide +kernel
theorem dX7_types_57 : decode cX7_types 57 = .ok (.aload_n 0, 1) := by decide +kernel
theorem dX7_types_58 : decode cX7_types 58 = .ok (.getfield 47, 3) := by decide +kernel
theorem dX7_types_61 : decode cX7_types 61 = .ok (.iload_n 2, 1) := by decide +kernel
theorem dX7_types_62 : decode cX7_types 62 = .ok (.iconst 1, 1) := by decide +kernel
theorem dX7_types_63 : decode cX7_types 63 = .ok (.isub, 1) := by decide +kernel
theorem dX7_types_64 : decode cX7_types 64 = .ok (.iload_n 1, 1) := by decide +kernel
theorem dX7_types_65 : decode cX7_types 65 = .ok (.invokevirtual 183, 3) := by decide +kernel
theorem dX7_types_68 : decode cX7_types 68 = .ok (.ireturn, 1) := by decide +kernel
theorem dX7_middle_0 : decode cX7_middle 0 = .ok (.aload_n 0, 1) := by decide +kernel
theorem dX7_middle_1 : decode cX7_middle 1 = .ok (.iload_n 1, 1) := by decide +kernel
theorem dX7_middle_2 : decode cX7_middle 2 = .ok (.invokevirtual 187, 3) := by decide +kernel
theorem dX7_middle_5 : decode cX7_middle 5 = .ok (.ifCond .ne 6, 3) := by decide +kernel
theorem dX7_middle_8 : decode cX7_middle 8 = .ok (.ldc 123, 2) := by decide +kernel
theorem dX7_middle_10 : decode cX7_middle 10 = .ok (.ireturn, 1) := by decide +kernel
theorem dX7_middle_11 : decode cX7_middle 11 = .ok (.aload_n 0, 1) := by decide +kernel
theorem dX7_middle_12 : decode cX7_middle 12 = .ok (.invokevirtual 111, 3) := by decide +kernel
theorem dX7_middle_15 : decode cX7_middle 15 = .ok (.aload_n 0, 1) := by decide +kernel
theorem dX7_middle_16 : decode cX7_middle 16 = .ok (.getfield 40, 3) := by decide +kernel
theorem dX7_middle_19 : decode cX7_middle 19 = .ok (.iload_n 1, 1) := by decide +kernel
theorem dX7_middle_20 : decode cX7_middle 20 = .ok (.invokevirtual 177, 3) := by decide +kernel
theorem dX7_middle_23 : decode cX7_middle 23 = .ok (.ireturn, 1) := by decide +kernel
theorem dX7_common_0 : decode cX7_common 0 = .ok (.aload_n 0, 1) := by decide +kernel
theorem dX7_common_1 : decode cX7_common 1 = .ok (.iload_n 1, 1) := by decide +kernel
theorem dX7_common_2 : decode cX7_common 2 = .ok (.invokevirtual 187, 3) := by decide +kernel
theorem dX7_common_5 : decode cX7_common 5 = .ok (.ifCond .ne 6, 3) := by decide +kernel
theorem dX7_common_8 : decode cX7_common 8 = .ok (.ldc 123, 2) := by decide +kernel
theorem dX7_common_10 : decode cX7_common 10 = .ok (.ireturn, 1) := by decide +kernel
theorem dX7_common_11 : decode cX7_common 11 = .ok (.aload_n 0, 1) := by decide +kernel
theorem dX7_common_12 : decode cX7_common 12 = .ok (.getfield 10, 3) := by decide +kernel
theorem dX7_common_15 : decode cX7_common 15 = .ok (.iload_n 1, 1) := by decide +kernel
theorem dX7_common_16 : decode cX7_common 16 = .ok (.invokevirtual 104, 3) := by decide +kernel
theorem dX7_common_19 : decode cX7_common 19 = .ok (.ireturn, 1) := by decide +kernel
theorem dX7_wandered_0 : decode cX7_wandered 0 = .ok (.iload_n 1, 1) := by decide +kernel
theorem dX7_wandered_1 : decode cX7_wandered 1 = .ok (.invokestatic 190, 3) := by decide +kernel
theorem dX7_wandered_4 : decode cX7_wandered 4 = .ok (.ifCond .ne 6, 3) := by decide +kernel
theorem dX7_wandered_7 : decode cX7_wandered 7 = .ok (.ldc 123, 2) := by decide +kernel
theorem dX7_wandered_9 : decode cX7_wandered 9 = .ok (.ireturn, 1) := by decide +kernel
theorem dX7_wandered_10 : decode cX7_wandered 10 = .ok (.iload_n 2, 1) := by decide +kernel
theorem dX7_wandered_11 : decode cX7_wandered 11 = .ok (.lookupswitch 52 #[(0, 25), (1, 40)], 25) := by decide +kernel
theorem dX7_wandered_36 : decode cX7_wandered 36 = .ok (.iload_n 1, 1) := by decide +kernel
theorem dX7_wandered_37 : decode cX7_wandered 37 = .ok (.aload_n 0, 1) := by decide +kernel
theorem dX7_wandered_38 : decode cX7_wandered 38 = .ok (.getfield 10, 3) := by decide +kernel
theorem dX7_wandered_41 : decode cX7_wandered 41 = .ok (.getfield 132, 3) := by decide +kernel
theorem dX7_wandered_44 : decode cX7_wandered 44 = .ok (.invokestatic 135, 3) := by decide +kernel
theorem dX7_wandered_47 : decode cX7_wandered 47 = .ok (.invokestatic 139, 3) := by decide +kernel
theorem dX7_wandered_50 : decode cX7_wandered 50 = .ok (.ireturn, 1) := by decide +kernel
theorem dX7_wandered_51 : decode cX7_wandered 51 = .ok (.iload_n 1, 1) := by decide +kernel
theorem dX7_wandered_52 : decode cX7_wandered 52 = .ok (.aload_n 0, 1) := by decide +kernel
theorem dX7_wandered_53 : decode cX7_wandered 53 = .ok (.getfield 10, 3) := by decide +kernel
theorem dX7_wandered_56 : decode cX7_wandered 56 = .ok (.getfield 132, 3) := by decide +kernel
theorem dX7_wandered_59 : decode cX7_wandered 59 = .ok (.invokestatic 135, 3) := by decide +kernel
theorem dX7_wandered_62 : decode cX7_wandered 62 = .ok (.ireturn, 1) := by decide +kernel
theorem dX7_wandered_63 : decode cX7_wandered 63 = .ok (.ldc 70, 2) := by decide +kernel
theorem dX7_wandered_65 : decode cX7_wandered 65 = .ok (.ireturn, 1) := by decide +kernel
theorem dX7_take_0 : decode cX7_take 0 = .ok (.aload_n 0, 1) := by decide +kernel
theorem dX7_take_1 : decode cX7_take 1 = .ok (.iload_n 1, 1) := by decide +kernel
theorem dX7_take_2 : decode cX7_take 2 = .ok (.invokevirtual 119, 3) := by decide +kernel
theorem dX7_take_5 : decode cX7_take 5 = .ok (.ifCond .ne 6, 3) := by decide +kernel
theorem dX7_take_8 : decode cX7_take 8 = .ok (.ldc 123, 2) := by decide +kernel
theorem dX7_take_10 : decode cX7_take 10 = .ok (.ireturn, 1) := by decide +kernel
theorem dX7_take_11 : decode cX7_take 11 = .ok (.aload_n 0, 1) := by decide +kernel
theorem dX7_take_12 : decode cX7_take 12 = .ok (.invokevirtual 84, 3) := by decide +kernel
theorem dX7_take_15 : decode cX7_take 15 = .ok (.aload_n 0, 1) := by decide +kernel
theorem dX7_take_16 : decode cX7_take 16 = .ok (.getfield 10, 3) := by decide +kernel
theorem dX7_take_19 : decode cX7_take 19 = .ok (.iload_n 1, 1) := by decide +kernel
theorem dX7_take_20 : decode cX7_take 20 = .ok (.invokevirtual 193, 3) := by decide +kernel
theorem dX7_take_23 : decode cX7_take 23 = .ok (.aload_n 0, 1) := by decide +kernel
theorem dX7_take_24 : decode cX7_take 24 = .ok (.getfield 10, 3) := by decide +kernel
theorem dX7_take_27 : decode cX7_take 27 = .ok (.getfield 80, 3) := by decide +kernel
theorem dX7_take_30 : decode cX7_take 30 = .ok (.ireturn, 1) := by decide +kernel
theorem dX7_cost_0 : decode cX7_cost 0 = .ok (.iload_n 1, 1) := by decide +kernel
theorem dX7_cost_1 : decode cX7_cost 1 = .ok (.ifCond .lt 8, 3) := by decide +kernel
theorem dX7_cost_4 : decode cX7_cost 4 = .ok (.iload_n 1, 1) := by decide +kernel
theorem dX7_cost_5 : decode cX7_cost 5 = .ok (.iconst 4, 1) := by decide +kernel
theorem dX7_cost_6 : decode cX7_cost 6 = .ok (.if_icmp .lt 6, 3) := by decide +kernel
theorem dX7_cost_9 : decode cX7_cost 9 = .ok (.ldc 70, 2) := by decide +kernel
theorem dX7_cost_11 : decode cX7_cost 11 = .ok (.ireturn, 1) := by decide +kernel
theorem dX7_cost_12 : decode cX7_cost 12 = .ok (.iload_n 1, 1) := by decide +kernel
theorem dX7_cost_13 : decode cX7_cost 13 = .ok (.iconst 2, 1) := by decide +kernel
theorem dX7_cost_14 : decode cX7_cost 14 = .ok (.if_icmp .ne 7, 3) := by decide +kernel
theorem dX7_cost_17 : decode cX7_cost 17 = .ok (.iconst 0, 1) := by decide +kernel
theorem dX7_cost_18 : decode cX7_cost 18 = .ok (.goto 4, 3) := by decide +kernel
theorem dX7_cost_21 : decode cX7_cost 21 = .ok (.iconst 1, 1) := by decide +kernel
theorem dX7_cost_22 : decode cX7_cost 22 = .ok (.istore_n 3, 1) := by decide +kernel
theorem dX7_cost_23 : decode cX7_cost 23 = .ok (.iload_n 2, 1) := by decide +kernel
theorem dX7_cost_24 : decode cX7_cost 24 = .ok (.iload_n 3, 1) := by decide +kernel
theorem dX7_cost_25 : decode cX7_cost 25 = .ok (.if_icmp .lt 9, 3) := by decide +kernel
theorem dX7_cost_28 : decode cX7_cost 28 = .ok (.iload_n 2, 1) := by decide +kernel
theorem dX7_cost_29 : decode cX7_cost 29 = .ok (.bipush 9, 2) := by decide +kernel
theorem dX7_cost_31 : decode cX7_cost 31 = .ok (.if_icmp .le 6, 3) := by decide +kernel
theorem dX7_cost_34 : decode cX7_cost 34 = .ok (.ldc 70, 2) := by decide +kernel
theorem dX7_cost_36 : decode cX7_cost 36 = .ok (.ireturn, 1) := by decide +kernel
theorem dX7_cost_37 : decode cX7_cost 37 = .ok (.aload_n 0, 1) := by decide +kernel
theorem dX7_cost_38 : decode cX7_cost 38 = .ok (.invokevirtual 84, 3) := by decide +kernel
theorem dX7_cost_41 : decode cX7_cost 41 = .ok (.aload_n 0, 1) := by decide +kernel
theorem dX7_cost_42 : decode cX7_cost 42 = .ok (.getfield 10, 3) := by decide +kernel
theorem dX7_cost_45 : decode cX7_cost 45 = .ok (.getfield 146, 3) := by decide +kernel
theorem dX7_cost_48 : decode cX7_cost 48 = .ok (.iload_n 1, 1) := by decide +kernel
theorem dX7_cost_49 : decode cX7_cost 49 = .ok (.iaload, 1) := by decide +kernel
theorem dX7_cost_50 : decode cX7_cost 50 = .ok (.istore 4, 2) := by decide +kernel
theorem dX7_cost_52 : decode cX7_cost 52 = .ok (.aload_n 0, 1) := by decide +kernel
theorem dX7_cost_53 : decode cX7_cost 53 = .ok (.getfield 10, 3) := by decide +kernel
theorem dX7_cost_56 : decode cX7_cost 56 = .ok (.getfield 146, 3) := by decide +kernel
theorem dX7_cost_59 : decode cX7_cost 59 = .ok (.iload_n 1, 1) := by decide +kernel
theorem dX7_cost_60 : decode cX7_cost 60 = .ok (.iload_n 2, 1) := by decide +kernel
theorem dX7_cost_61 : decode cX7_cost 61 = .ok (.iastore, 1) := by decide +kernel
theorem dX7_cost_62 : decode cX7_cost 62 = .ok (.iload 4, 2) := by decide +kernel
theorem dX7_cost_64 : decode cX7_cost 64 = .ok (.ireturn, 1) := by decide +kernel
theorem dX7_kind_0 : decode cX7_kind 0 = .ok (.iload_n 1, 1) := by decide +kernel
theorem dX7_kind_1 : decode cX7_kind 1 = .ok (.ifCond .lt 8, 3) := by decide +kernel
theorem dX7_kind_4 : decode cX7_kind 4 = .ok (.iload_n 1, 1) := by decide +kernel
theorem dX7_kind_5 : decode cX7_kind 5 = .ok (.iconst 2, 1) := by decide +kernel
theorem dX7_kind_6 : decode cX7_kind 6 = .ok (.if_icmp .le 6, 3) := by decide +kernel
theorem dX7_kind_9 : decode cX7_kind 9 = .ok (.ldc 70, 2) := by decide +kernel
theorem dX7_kind_11 : decode cX7_kind 11 = .ok (.ireturn, 1) := by decide +kernel
theorem dX7_kind_12 : decode cX7_kind 12 = .ok (.aload_n 0, 1) := by decide +kernel
theorem dX7_kind_13 : decode cX7_kind 13 = .ok (.invokevirtual 84, 3) := by decide +kernel
theorem dX7_kind_16 : decode cX7_kind 16 = .ok (.aload_n 0, 1) := by decide +kernel
theorem dX7_kind_17 : decode cX7_kind 17 = .ok (.getfield 10, 3) := by decide +kernel
theorem dX7_kind_20 : decode cX7_kind 20 = .ok (.getfield 91, 3) := by decide +kernel
theorem dX7_kind_23 : decode cX7_kind 23 = .ok (.istore_n 2, 1) := by decide +kernel
theorem dX7_kind_24 : decode cX7_kind 24 = .ok (.aload_n 0, 1) := by decide +kernel
theorem dX7_kind_25 : decode cX7_kind 25 = .ok (.getfield 10, 3) := by decide +kernel
theorem dX7_kind_28 : decode cX7_kind 28 = .ok (.iload_n 1, 1) := by decide +kernel
theorem dX7_kind_29 : decode cX7_kind 29 = .ok (.putfield 91, 3) := by decide +kernel
theorem dX7_kind_32 : decode cX7_kind 32 = .ok (.iload_n 2, 1) := by decide +kernel
theorem dX7_kind_33 : decode cX7_kind 33 = .ok (.ireturn, 1) := by decide +kernel
theorem dX7_road_0 : decode cX7_road 0 = .ok (.iload_n 1, 1) := by decide +kernel
theorem dX7_road_1 : decode cX7_road 1 = .ok (.invokestatic 197, 3) := by decide +kernel
theorem dX7_road_4 : decode cX7_road 4 = .ok (.ifCond .eq 15, 3) := by decide +kernel
theorem dX7_road_7 : decode cX7_road 7 = .ok (.iload_n 2, 1) := by decide +kernel
theorem dX7_road_8 : decode cX7_road 8 = .ok (.invokestatic 197, 3) := by decide +kernel
theorem dX7_road_11 : decode cX7_road 11 = .ok (.ifCond .eq 8, 3) := by decide +kernel
theorem dX7_road_14 : decode cX7_road 14 = .ok (.iload_n 1, 1) := by decide +kernel
theorem dX7_road_15 : decode cX7_road 15 = .ok (.iload_n 2, 1) := by decide +kernel
theorem dX7_road_16 : decode cX7_road 16 = .ok (.if_icmp .ne 6, 3) := by decide +kernel
theorem dX7_road_19 : decode cX7_road 19 = .ok (.ldc 123, 2) := by decide +kernel
theorem dX7_road_21 : decode cX7_road 21 = .ok (.ireturn, 1) := by decide +kernel
theorem dX7_road_22 : decode cX7_road 22 = .ok (.aload_n 0, 1) := by decide +kernel
theorem dX7_road_23 : decode cX7_road 23 = .ok (.invokevirtual 84, 3) := by decide +kernel
theorem dX7_road_26 : decode cX7_road 26 = .ok (.aload_n 0, 1) := by decide +kernel
theorem dX7_road_27 : decode cX7_road 27 = .ok (.getfield 10, 3) := by decide +kernel
theorem dX7_road_30 : decode cX7_road 30 = .ok (.iload_n 1, 1) := by decide +kernel
theorem dX7_road_31 : decode cX7_road 31 = .ok (.iload_n 2, 1) := by decide +kernel
theorem dX7_road_32 : decode cX7_road 32 = .ok (.iload_n 3, 1) := by decide +kernel
theorem dX7_road_33 : decode cX7_road 33 = .ok (.invokevirtual 200, 3) := by decide +kernel
theorem dX7_road_36 : decode cX7_road 36 = .ok (.aload_n 0, 1) := by decide +kernel
theorem dX7_road_37 : decode cX7_road 37 = .ok (.getfield 10, 3) := by decide +kernel
theorem dX7_road_40 : decode cX7_road 40 = .ok (.invokevirtual 204, 3) := by decide +kernel
theorem dX7_road_43 : decode cX7_road 43 = .ok (.ireturn, 1) := by decide +kernel
theorem dX7_at_0 : decode cX7_at 0 = .ok (.aload_n 0, 1) := by decide +kernel
theorem dX7_at_1 : decode cX7_at 1 = .ok (.iload_n 1, 1) := by decide +kernel
theorem dX7_at_2 : decode cX7_at 2 = .ok (.invokevirtual 119, 3) := by decide +kernel
theorem dX7_at_5 : decode cX7_at 5 = .ok (.ifCond .ne 6, 3) := by decide +kernel
theorem dX7_at_8 : decode cX7_at 8 = .ok (.ldc 123, 2) := by decide +kernel
theorem dX7_at_10 : decode cX7_at 10 = .ok (.ireturn, 1) := by decide +kernel
theorem dX7_at_11 : decode cX7_at 11 = .ok (.iload_n 2, 1) := by decide +kernel
theorem dX7_at_12 : decode cX7_at 12 = .ok (.invokestatic 190, 3) := by decide +kernel
theorem dX7_at_15 : decode cX7_at 15 = .ok (.ifCond .ne 6, 3) := by decide +kernel
theorem dX7_at_18 : decode cX7_at 18 = .ok (.ldc 70, 2) := by decide +kernel
theorem dX7_at_20 : decode cX7_at 20 = .ok (.ireturn, 1) := by decide +kernel
theorem dX7_at_21 : decode cX7_at 21 = .ok (.aload_n 0, 1) := by decide +kernel
theorem dX7_at_22 : decode cX7_at 22 = .ok (.invokevirtual 84, 3) := by decide +kernel
theorem dX7_at_25 : decode cX7_at 25 = .ok (.aload_n 0, 1) := by decide +kernel
theorem dX7_at_26 : decode cX7_at 26 = .ok (.getfield 10, 3) := by decide +kernel
theorem dX7_at_29 : decode cX7_at 29 = .ok (.getfield 128, 3) := by decide +kernel
theorem dX7_at_32 : decode cX7_at 32 = .ok (.iload_n 1, 1) := by decide +kernel
theorem dX7_at_33 : decode cX7_at 33 = .ok (.iload_n 2, 1) := by decide +kernel
theorem dX7_at_34 : decode cX7_at 34 = .ok (.iastore, 1) := by decide +kernel
theorem dX7_at_35 : decode cX7_at 35 = .ok (.iload_n 2, 1) := by decide +kernel
theorem dX7_at_36 : decode cX7_at 36 = .ok (.aload_n 0, 1) := by decide +kernel
theorem dX7_at_37 : decode cX7_at 37 = .ok (.getfield 10, 3) := by decide +kernel
theorem dX7_at_40 : decode cX7_at 40 = .ok (.getfield 132, 3) := by decide +kernel
theorem dX7_at_43 : decode cX7_at 43 = .ok (.invokestatic 135, 3) := by decide +kernel
theorem dX7_at_46 : decode cX7_at 46 = .ok (.invokestatic 139, 3) := by decide +kernel
theorem dX7_at_49 : decode cX7_at 49 = .ok (.ireturn, 1) := by decide +kernel
theorem dX7_drift_0 : decode cX7_drift 0 = .ok (.iload_n 1, 1) := by decide +kernel
theorem dX7_drift_1 : decode cX7_drift 1 = .ok (.iconst 1, 1) := by decide +kernel
theorem dX7_drift_2 : decode cX7_drift 2 = .ok (.if_icmp .lt 9, 3) := by decide +kernel
theorem dX7_drift_5 : decode cX7_drift 5 = .ok (.iload_n 1, 1) := by decide +kernel
theorem dX7_drift_6 : decode cX7_drift 6 = .ok (.bipush 8, 2) := by decide +kernel
theorem dX7_drift_8 : decode cX7_drift 8 = .ok (.if_icmp .le 6, 3) := by decide +kernel
theorem dX7_drift_11 : decode cX7_drift 11 = .ok (.ldc 70, 2) := by decide +kernel
theorem dX7_drift_13 : decode cX7_drift 13 = .ok (.ireturn, 1) := by decide +kernel
theorem dX7_drift_14 : decode cX7_drift 14 = .ok (.iconst 0, 1) := by decide +kernel
theorem dX7_drift_15 : decode cX7_drift 15 = .ok (.istore_n 2, 1) := by decide +kernel
theorem dX7_drift_16 : decode cX7_drift 16 = .ok (.iload_n 2, 1) := by decide +kernel
theorem dX7_drift_17 : decode cX7_drift 17 = .ok (.iload_n 1, 1) := by decide +kernel
theorem dX7_drift_18 : decode cX7_drift 18 = .ok (.if_icmp .ge 29, 3) := by decide +kernel
theorem dX7_drift_21 : decode cX7_drift 21 = .ok (.aload_n 0, 1) := by decide +kernel
theorem dX7_drift_22 : decode cX7_drift 22 = .ok (.getfield 10, 3) := by decide +kernel
theorem dX7_drift_25 : decode cX7_drift 25 = .ok (.getfield 80, 3) := by decide +kernel
theorem dX7_drift_28 : decode cX7_drift 28 = .ok (.bipush 8, 2) := by decide +kernel
theorem dX7_drift_30 : decode cX7_drift 30 = .ok (.if_icmp .ge 17, 3) := by decide +kernel
theorem dX7_drift_33 : decode cX7_drift 33 = .ok (.aload_n 0, 1) := by decide +kernel
theorem dX7_drift_34 : decode cX7_drift 34 = .ok (.invokevirtual 84, 3) := by decide +kernel
theorem dX7_drift_37 : decode cX7_drift 37 = .ok (.aload_n 0, 1) := by decide +kernel
theorem dX7_drift_38 : decode cX7_drift 38 = .ok (.invokevirtual 207, 3) := by decide +kernel
theorem dX7_drift_41 : decode cX7_drift 41 = .ok (.iinc 2 1, 3) := by decide +kernel
theorem dX7_drift_44 : decode cX7_drift 44 = .ok (.goto (-28), 3) := by decide +kernel
theorem dX7_drift_47 : decode cX7_drift 47 = .ok (.aload_n 0, 1) := by decide +kernel
theorem dX7_drift_48 : decode cX7_drift 48 = .ok (.getfield 10, 3) := by decide +kernel
theorem dX7_drift_51 : decode cX7_drift 51 = .ok (.getfield 80, 3) := by decide +kernel
theorem dX7_drift_54 : decode cX7_drift 54 = .ok (.ireturn, 1) := by decide +kernel
theorem dX7_undo_0 : decode cX7_undo 0 = .ok (.iload_n 1, 1) := by decide +kernel
theorem dX7_undo_1 : decode cX7_undo 1 = .ok (.iconst 1, 1) := by decide +kernel
theorem dX7_undo_2 : decode cX7_undo 2 = .ok (.if_icmp .lt 9, 3) := by decide +kernel
theorem dX7_undo_5 : decode cX7_undo 5 = .ok (.iload_n 1, 1) := by decide +kernel
theorem dX7_undo_6 : decode cX7_undo 6 = .ok (.bipush 16, 2) := by decide +kernel
theorem dX7_undo_8 : decode cX7_undo 8 = .ok (.if_icmp .le 6, 3) := by decide +kernel
theorem dX7_undo_11 : decode cX7_undo 11 = .ok (.ldc 70, 2) := by decide +kernel
theorem dX7_undo_13 : decode cX7_undo 13 = .ok (.ireturn, 1) := by decide +kernel
theorem dX7_undo_14 : decode cX7_undo 14 = .ok (.iload_n 1, 1) := by decide +kernel
theorem dX7_undo_15 : decode cX7_undo 15 = .ok (.aload_n 0, 1) := by decide +kernel
theorem dX7_undo_16 : decode cX7_undo 16 = .ok (.getfield 19, 3) := by decide +kernel
theorem dX7_undo_19 : decode cX7_undo 19 = .ok (.getfield 118, 3) := by decide +kernel
theorem dX7_undo_22 : decode cX7_undo 22 = .ok (.if_icmp .le 6, 3) := by decide +kernel
theorem dX7_undo_25 : decode cX7_undo 25 = .ok (.ldc 83, 2) := by decide +kernel
theorem dX7_undo_27 : decode cX7_undo 27 = .ok (.ireturn, 1) := by decide +kernel
theorem dX7_undo_28 : decode cX7_undo 28 = .ok (.aload_n 0, 1) := by decide +kernel
theorem dX7_undo_29 : decode cX7_undo 29 = .ok (.getfield 19, 3) := by decide +kernel
theorem dX7_undo_32 : decode cX7_undo 32 = .ok (.iload_n 1, 1) := by decide +kernel
theorem dX7_undo_33 : decode cX7_undo 33 = .ok (.aload_n 0, 1) := by decide +kernel
theorem dX7_undo_34 : decode cX7_undo 34 = .ok (.getfield 10, 3) := by decide +kernel
theorem dX7_undo_37 : decode cX7_undo 37 = .ok (.invokevirtual 210, 3) := by decide +kernel
theorem dX7_undo_40 : decode cX7_undo 40 = .ok (.aload_n 0, 1) := by decide +kernel
theorem dX7_undo_41 : decode cX7_undo 41 = .ok (.iconst 0, 1) := by decide +kernel
theorem dX7_undo_42 : decode cX7_undo 42 = .ok (.putfield 65, 3) := by decide +kernel
theorem dX7_undo_45 : decode cX7_undo 45 = .ok (.aload_n 0, 1) := by decide +kernel
theorem dX7_undo_46 : decode cX7_undo 46 = .ok (.getfield 10, 3) := by decide +kernel
theorem dX7_undo_49 : decode cX7_undo 49 = .ok (.getfield 80, 3) := by decide +kernel
theorem dX7_undo_52 : decode cX7_undo 52 = .ok (.ireturn, 1) := by decide +kernel
theorem dX7_write_0 : decode cX7_write 0 = .ok (.aload_n 0, 1) := by decide +kernel
theorem dX7_write_1 : decode cX7_write 1 = .ok (.iload_n 1, 1) := by decide +kernel
theorem dX7_write_2 : decode cX7_write 2 = .ok (.invokevirtual 119, 3) := by decide +kernel
theorem dX7_write_5 : decode cX7_write 5 = .ok (.ifCond .eq 11, 3) := by decide +kernel
theorem dX7_write_8 : decode cX7_write 8 = .ok (.aload_n 0, 1) := by decide +kernel
theorem dX7_write_9 : decode cX7_write 9 = .ok (.iload_n 2, 1) := by decide +kernel
theorem dX7_write_10 : decode cX7_write 10 = .ok (.invokevirtual 119, 3) := by decide +kernel
theorem dX7_write_13 : decode cX7_write 13 = .ok (.ifCond .ne 6, 3) := by decide +kernel
theorem dX7_write_16 : decode cX7_write 16 = .ok (.ldc 123, 2) := by decide +kernel
theorem dX7_write_18 : decode cX7_write 18 = .ok (.ireturn, 1) := by decide +kernel
theorem dX7_write_19 : decode cX7_write 19 = .ok (.aload_n 0, 1) := by decide +kernel
theorem dX7_write_20 : decode cX7_write 20 = .ok (.getfield 26, 3) := by decide +kernel
theorem dX7_write_23 : decode cX7_write 23 = .ok (.getfield 108, 3) := by decide +kernel
theorem dX7_write_26 : decode cX7_write 26 = .ok (.bipush 20, 2) := by decide +kernel
theorem dX7_write_28 : decode cX7_write 28 = .ok (.if_icmp .lt 6, 3) := by decide +kernel
theorem dX7_write_31 : decode cX7_write 31 = .ok (.ldc 75, 2) := by decide +kernel
theorem dX7_write_33 : decode cX7_write 33 = .ok (.ireturn, 1) := by decide +kernel
theorem dX7_write_34 : decode cX7_write 34 = .ok (.aload_n 0, 1) := by decide +kernel
theorem dX7_write_35 : decode cX7_write 35 = .ok (.getfield 26, 3) := by decide +kernel
theorem dX7_write_38 : decode cX7_write 38 = .ok (.iload_n 1, 1) := by decide +kernel
theorem dX7_write_39 : decode cX7_write 39 = .ok (.iload_n 2, 1) := by decide +kernel
theorem dX7_write_40 : decode cX7_write 40 = .ok (.iload_n 3, 1) := by decide +kernel
theorem dX7_write_41 : decode cX7_write 41 = .ok (.invokevirtual 214, 3) := by decide +kernel
theorem dX7_write_44 : decode cX7_write 44 = .ok (.aload_n 0, 1) := by decide +kernel
theorem dX7_write_45 : decode cX7_write 45 = .ok (.getfield 26, 3) := by decide +kernel
theorem dX7_write_48 : decode cX7_write 48 = .ok (.getfield 108, 3) := by decide +kernel
theorem dX7_write_51 : decode cX7_write 51 = .ok (.ireturn, 1) := by decide +kernel
theorem dX7_tear_0 : decode cX7_tear 0 = .ok (.aload_n 0, 1) := by decide +kernel
theorem dX7_tear_1 : decode cX7_tear 1 = .ok (.getfield 26, 3) := by decide +kernel
theorem dX7_tear_4 : decode cX7_tear 4 = .ok (.getfield 108, 3) := by decide +kernel
theorem dX7_tear_7 : decode cX7_tear 7 = .ok (.istore_n 1, 1) := by decide +kernel
theorem dX7_tear_8 : decode cX7_tear 8 = .ok (.aload_n 0, 1) := by decide +kernel
theorem dX7_tear_9 : decode cX7_tear 9 = .ok (.getfield 26, 3) := by decide +kernel
theorem dX7_tear_12 : decode cX7_tear 12 = .ok (.iconst 0, 1) := by decide +kernel
theorem dX7_tear_13 : decode cX7_tear 13 = .ok (.putfield 108, 3) := by decide +kernel
theorem dX7_tear_16 : decode cX7_tear 16 = .ok (.iload_n 1, 1) := by decide +kernel
theorem dX7_tear_17 : decode cX7_tear 17 = .ok (.ireturn, 1) := by decide +kernel
theorem dX7_seed_0 : decode cX7_seed 0 = .ok (.iload_n 1, 1) := by decide +kernel
theorem dX7_seed_1 : decode cX7_seed 1 = .ok (.ifCond .ge 6, 3) := by decide +kernel
theorem dX7_seed_4 : decode cX7_seed 4 = .ok (.ldc 70, 2) := by decide +kernel
theorem dX7_seed_6 : decode cX7_seed 6 = .ok (.ireturn, 1) := by decide +kernel
theorem dX7_seed_7 : decode cX7_seed 7 = .ok (.aload_n 0, 1) := by decide +kernel
theorem dX7_seed_8 : decode cX7_seed 8 = .ok (.getfield 61, 3) := by decide +kernel
theorem dX7_seed_11 : decode cX7_seed 11 = .ok (.istore_n 2, 1) := by decide +kernel
theorem dX7_seed_12 : decode cX7_seed 12 = .ok (.aload_n 0, 1) := by decide +kernel
theorem dX7_seed_13 : decode cX7_seed 13 = .ok (.iload_n 1, 1) := by decide +kernel
theorem dX7_seed_14 : decode cX7_seed 14 = .ok (.putfield 61, 3) := by decide +kernel
theorem dX7_seed_17 : decode cX7_seed 17 = .ok (.iload_n 2, 1) := by decide +kernel
theorem dX7_seed_18 : decode cX7_seed 18 = .ok (.ireturn, 1) := by decide +kernel
theorem dX7_keep_0 : decode cX7_keep 0 = .ok (.iload_n 1, 1) := by decide +kernel
theorem dX7_keep_1 : decode cX7_keep 1 = .ok (.ifCond .lt 8, 3) := by decide +kernel
theorem dX7_keep_4 : decode cX7_keep 4 = .ok (.iload_n 1, 1) := by decide +kernel
theorem dX7_keep_5 : decode cX7_keep 5 = .ok (.iconst 2, 1) := by decide +kernel
theorem dX7_keep_6 : decode cX7_keep 6 = .ok (.if_icmp .lt 6, 3) := by decide +kernel
theorem dX7_keep_9 : decode cX7_keep 9 = .ok (.ldc 123, 2) := by decide +kernel
theorem dX7_keep_11 : decode cX7_keep 11 = .ok (.ireturn, 1) := by decide +kernel
theorem dX7_keep_12 : decode cX7_keep 12 = .ok (.aload_n 0, 1) := by decide +kernel
theorem dX7_keep_13 : decode cX7_keep 13 = .ok (.getfield 53, 3) := by decide +kernel
theorem dX7_keep_16 : decode cX7_keep 16 = .ok (.iload_n 1, 1) := by decide +kernel
theorem dX7_keep_17 : decode cX7_keep 17 = .ok (.aaload, 1) := by decide +kernel
theorem dX7_keep_18 : decode cX7_keep 18 = .ok (.astore_n 2, 1) := by decide +kernel
theorem dX7_keep_19 : decode cX7_keep 19 = .ok (.aload_n 2, 1) := by decide +kernel
theorem dX7_keep_20 : decode cX7_keep 20 = .ok (.getfield 217, 3) := by decide +kernel
theorem dX7_keep_23 : decode cX7_keep 23 = .ok (.aload_n 0, 1) := by decide +kernel
theorem dX7_keep_24 : decode cX7_keep 24 = .ok (.getfield 10, 3) := by decide +kernel
theorem dX7_keep_27 : decode cX7_keep 27 = .ok (.invokevirtual 220, 3) := by decide +kernel
theorem dX7_keep_30 : decode cX7_keep 30 = .ok (.aload_n 2, 1) := by decide +kernel
theorem dX7_keep_31 : decode cX7_keep 31 = .ok (.aload_n 0, 1) := by decide +kernel
theorem dX7_keep_32 : decode cX7_keep 32 = .ok (.getfield 61, 3) := by decide +kernel
theorem dX7_keep_35 : decode cX7_keep 35 = .ok (.putfield 224, 3) := by decide +kernel
theorem dX7_keep_38 : decode cX7_keep 38 = .ok (.aload_n 2, 1) := by decide +kernel
theorem dX7_keep_39 : decode cX7_keep 39 = .ok (.iconst 1, 1) := by decide +kernel
theorem dX7_keep_40 : decode cX7_keep 40 = .ok (.putfield 227, 3) := by decide +kernel
theorem dX7_keep_43 : decode cX7_keep 43 = .ok (.aload_n 0, 1) := by decide +kernel
theorem dX7_keep_44 : decode cX7_keep 44 = .ok (.getfield 19, 3) := by decide +kernel
theorem dX7_keep_47 : decode cX7_keep 47 = .ok (.iconst 0, 1) := by decide +kernel
theorem dX7_keep_48 : decode cX7_keep 48 = .ok (.putfield 118, 3) := by decide +kernel
theorem dX7_keep_51 : decode cX7_keep 51 = .ok (.iconst 1, 1) := by decide +kernel
theorem dX7_keep_52 : decode cX7_keep 52 = .ok (.ireturn, 1) := by decide +kernel
theorem dX7_goBack_0 : decode cX7_goBack 0 = .ok (.iload_n 1, 1) := by decide +kernel
theorem dX7_goBack_1 : decode cX7_goBack 1 = .ok (.ifCond .lt 8, 3) := by decide +kernel
theorem dX7_goBack_4 : decode cX7_goBack 4 = .ok (.iload_n 1, 1) := by decide +kernel
theorem dX7_goBack_5 : decode cX7_goBack 5 = .ok (.iconst 2, 1) := by decide +kernel
theorem dX7_goBack_6 : decode cX7_goBack 6 = .ok (.if_icmp .lt 6, 3) := by decide +kernel
theorem dX7_goBack_9 : decode cX7_goBack 9 = .ok (.ldc 123, 2) := by decide +kernel
theorem dX7_goBack_11 : decode cX7_goBack 11 = .ok (.ireturn, 1) := by decide +kernel
theorem dX7_goBack_12 : decode cX7_goBack 12 = .ok (.aload_n 0, 1) := by decide +kernel
theorem dX7_goBack_13 : decode cX7_goBack 13 = .ok (.getfield 53, 3) := by decide +kernel
theorem dX7_goBack_16 : decode cX7_goBack 16 = .ok (.iload_n 1, 1) := by decide +kernel
theorem dX7_goBack_17 : decode cX7_goBack 17 = .ok (.aaload, 1) := by decide +kernel
theorem dX7_goBack_18 : decode cX7_goBack 18 = .ok (.astore_n 2, 1) := by decide +kernel
theorem dX7_goBack_19 : decode cX7_goBack 19 = .ok (.aload_n 2, 1) := by decide +kernel
theorem dX7_goBack_20 : decode cX7_goBack 20 = .ok (.getfield 227, 3) := by decide +kernel
theorem dX7_goBack_23 : decode cX7_goBack 23 = .ok (.ifCond .ne 6, 3) := by decide +kernel
theorem dX7_goBack_26 : decode cX7_goBack 26 = .ok (.ldc 83, 2) := by decide +kernel
theorem dX7_goBack_28 : decode cX7_goBack 28 = .ok (.ireturn, 1) := by decide +kernel
theorem dX7_goBack_29 : decode cX7_goBack 29 = .ok (.aload_n 0, 1) := by decide +kernel
theorem dX7_goBack_30 : decode cX7_goBack 30 = .ok (.getfield 10, 3) := by decide +kernel
theorem dX7_goBack_33 : decode cX7_goBack 33 = .ok (.aload_n 2, 1) := by decide +kernel
theorem dX7_goBack_34 : decode cX7_goBack 34 = .ok (.getfield 217, 3) := by decide +kernel
theorem dX7_goBack_37 : decode cX7_goBack 37 = .ok (.invokevirtual 220, 3) := by decide +kernel
theorem dX7_goBack_40 : decode cX7_goBack 40 = .ok (.aload_n 0, 1) := by decide +kernel
theorem dX7_goBack_41 : decode cX7_goBack 41 = .ok (.aload_n 2, 1) := by decide +kernel
theorem dX7_goBack_42 : decode cX7_goBack 42 = .ok (.getfield 224, 3) := by decide +kernel
theorem dX7_goBack_45 : decode cX7_goBack 45 = .ok (.putfield 61, 3) := by decide +kernel
theorem dX7_goBack_48 : decode cX7_goBack 48 = .ok (.aload_n 0, 1) := by decide +kernel
theorem dX7_goBack_49 : decode cX7_goBack 49 = .ok (.getfield 19, 3) := by decide +kernel
theorem dX7_goBack_52 : decode cX7_goBack 52 = .ok (.iconst 0, 1) := by decide +kernel
theorem dX7_goBack_53 : decode cX7_goBack 53 = .ok (.putfield 118, 3) := by decide +kernel
theorem dX7_goBack_56 : decode cX7_goBack 56 = .ok (.aload_n 0, 1) := by decide +kernel
theorem dX7_goBack_57 : decode cX7_goBack 57 = .ok (.iconst 0, 1) := by decide +kernel
theorem dX7_goBack_58 : decode cX7_goBack 58 = .ok (.putfield 65, 3) := by decide +kernel
theorem dX7_goBack_61 : decode cX7_goBack 61 = .ok (.iconst 1, 1) := by decide +kernel
theorem dX7_goBack_62 : decode cX7_goBack 62 = .ok (.ireturn, 1) := by decide +kernel
theorem dX7_isTale_0 : decode cX7_isTale 0 = .ok (.iload_n 1, 1) := by decide +kernel
theorem dX7_isTale_1 : decode cX7_isTale 1 = .ok (.ifCond .lt 18, 3) := by decide +kernel
theorem dX7_isTale_4 : decode cX7_isTale 4 = .ok (.iload_n 1, 1) := by decide +kernel
theorem dX7_isTale_5 : decode cX7_isTale 5 = .ok (.aload_n 0, 1) := by decide +kernel
theorem dX7_isTale_6 : decode cX7_isTale 6 = .ok (.getfield 10, 3) := by decide +kernel
theorem dX7_isTale_9 : decode cX7_isTale 9 = .ok (.getfield 80, 3) := by decide +kernel
theorem dX7_isTale_12 : decode cX7_isTale 12 = .ok (.if_icmp .ge 7, 3) := by decide +kernel
theorem dX7_isTale_15 : decode cX7_isTale 15 = .ok (.iconst 1, 1) := by decide +kernel
theorem dX7_isTale_16 : decode cX7_isTale 16 = .ok (.goto 4, 3) := by decide +kernel
theorem dX7_isTale_19 : decode cX7_isTale 19 = .ok (.iconst 0, 1) := by decide +kernel
theorem dX7_isTale_20 : decode cX7_isTale 20 = .ok (.ireturn, 1) := by decide +kernel
theorem dX7_allTales_0 : decode cX7_allTales 0 = .ok (.iconst 1, 1) := by decide +kernel
theorem dX7_allTales_1 : decode cX7_allTales 1 = .ok (.aload_n 0, 1) := by decide +kernel
theorem dX7_allTales_2 : decode cX7_allTales 2 = .ok (.getfield 10, 3) := by decide +kernel
theorem dX7_allTales_5 : decode cX7_allTales 5 = .ok (.getfield 80, 3) := by decide +kernel
theorem dX7_allTales_8 : decode cX7_allTales 8 = .ok (.ishl, 1) := by decide +kernel
theorem dX7_allTales_9 : decode cX7_allTales 9 = .ok (.iconst 1, 1) := by decide +kernel
theorem dX7_allTales_10 : decode cX7_allTales 10 = .ok (.isub, 1) := by decide +kernel
theorem dX7_allTales_11 : decode cX7_allTales 11 = .ok (.ireturn, 1) := by decide +kernel
theorem dX7_areTales_0 : decode cX7_areTales 0 = .ok (.iload_n 1, 1) := by decide +kernel
theorem dX7_areTales_1 : decode cX7_areTales 1 = .ok (.aload_n 0, 1) := by decide +kernel
theorem dX7_areTales_2 : decode cX7_areTales 2 = .ok (.invokevirtual 101, 3) := by decide +kernel
theorem dX7_areTales_5 : decode cX7_areTales 5 = .ok (.iconst (-1), 1) := by decide +kernel
theorem dX7_areTales_6 : decode cX7_areTales 6 = .ok (.ixor, 1) := by decide +kernel
theorem dX7_areTales_7 : decode cX7_areTales 7 = .ok (.iand, 1) := by decide +kernel
theorem dX7_areTales_8 : decode cX7_areTales 8 = .ok (.ifCond .ne 7, 3) := by decide +kernel
theorem dX7_areTales_11 : decode cX7_areTales 11 = .ok (.iconst 1, 1) := by decide +kernel
theorem dX7_areTales_12 : decode cX7_areTales 12 = .ok (.goto 4, 3) := by decide +kernel
theorem dX7_areTales_15 : decode cX7_areTales 15 = .ok (.iconst 0, 1) := by decide +kernel
theorem dX7_areTales_16 : decode cX7_areTales 16 = .ok (.ireturn, 1) := by decide +kernel
theorem dX7_nodeCount_0 : decode cX7_nodeCount 0 = .ok (.aload_n 0, 1) := by decide +kernel
theorem dX7_nodeCount_1 : decode cX7_nodeCount 1 = .ok (.getfield 10, 3) := by decide +kernel
theorem dX7_nodeCount_4 : decode cX7_nodeCount 4 = .ok (.getfield 80, 3) := by decide +kernel
theorem dX7_nodeCount_7 : decode cX7_nodeCount 7 = .ok (.ifCond .le 15, 3) := by decide +kernel
theorem dX7_nodeCount_10 : decode cX7_nodeCount 10 = .ok (.aload_n 0, 1) := by decide +kernel
theorem dX7_nodeCount_11 : decode cX7_nodeCount 11 = .ok (.getfield 10, 3) := by decide +kernel
theorem dX7_nodeCount_14 : decode cX7_nodeCount 14 = .ok (.getfield 80, 3) := by decide +kernel
theorem dX7_nodeCount_17 : decode cX7_nodeCount 17 = .ok (.iconst 1, 1) := by decide +kernel
theorem dX7_nodeCount_18 : decode cX7_nodeCount 18 = .ok (.isub, 1) := by decide +kernel
theorem dX7_nodeCount_19 : decode cX7_nodeCount 19 = .ok (.goto 4, 3) := by decide +kernel
theorem dX7_nodeCount_22 : decode cX7_nodeCount 22 = .ok (.iconst 0, 1) := by decide +kernel
theorem dX7_nodeCount_23 : decode cX7_nodeCount 23 = .ok (.ireturn, 1) := by decide +kernel
theorem dX7_isPlace_0 : decode cX7_isPlace 0 = .ok (.iload_n 0, 1) := by decide +kernel
theorem dX7_isPlace_1 : decode cX7_isPlace 1 = .ok (.ifCond .lt 13, 3) := by decide +kernel
theorem dX7_isPlace_4 : decode cX7_isPlace 4 = .ok (.iload_n 0, 1) := by decide +kernel
theorem dX7_isPlace_5 : decode cX7_isPlace 5 = .ok (.bipush 8, 2) := by decide +kernel
theorem dX7_isPlace_7 : decode cX7_isPlace 7 = .ok (.if_icmp .ge 7, 3) := by decide +kernel
theorem dX7_isPlace_10 : decode cX7_isPlace 10 = .ok (.iconst 1, 1) := by decide +kernel
theorem dX7_isPlace_11 : decode cX7_isPlace 11 = .ok (.goto 4, 3) := by decide +kernel
theorem dX7_isPlace_14 : decode cX7_isPlace 14 = .ok (.iconst 0, 1) := by decide +kernel
theorem dX7_isPlace_15 : decode cX7_isPlace 15 = .ok (.ireturn, 1) := by decide +kernel
theorem dX7_arePlaces_0 : decode cX7_arePlaces 0 = .ok (.iload_n 0, 1) := by decide +kernel
theorem dX7_arePlaces_1 : decode cX7_arePlaces 1 = .ok (.ifCond .lt 14, 3) := by decide +kernel
theorem dX7_arePlaces_4 : decode cX7_arePlaces 4 = .ok (.iload_n 0, 1) := by decide +kernel
theorem dX7_arePlaces_5 : decode cX7_arePlaces 5 = .ok (.sipush 255, 3) := by decide +kernel
theorem dX7_arePlaces_8 : decode cX7_arePlaces 8 = .ok (.if_icmp .gt 7, 3) := by decide +kernel
theorem dX7_arePlaces_11 : decode cX7_arePlaces 11 = .ok (.iconst 1, 1) := by decide +kernel
theorem dX7_arePlaces_12 : decode cX7_arePlaces 12 = .ok (.goto 4, 3) := by decide +kernel
theorem dX7_arePlaces_15 : decode cX7_arePlaces 15 = .ok (.iconst 0, 1) := by decide +kernel
theorem dX7_arePlaces_16 : decode cX7_arePlaces 16 = .ok (.ireturn, 1) := by decide +kernel
theorem dX7_beginDeed_0 : decode cX7_beginDeed 0 = .ok (.aload_n 0, 1) := by decide +kernel
theorem dX7_beginDeed_1 : decode cX7_beginDeed 1 = .ok (.getfield 19, 3) := by decide +kernel
theorem dX7_beginDeed_4 : decode cX7_beginDeed 4 = .ok (.aload_n 0, 1) := by decide +kernel
theorem dX7_beginDeed_5 : decode cX7_beginDeed 5 = .ok (.getfield 10, 3) := by decide +kernel
theorem dX7_beginDeed_8 : decode cX7_beginDeed 8 = .ok (.invokevirtual 230, 3) := by decide +kernel
theorem dX7_beginDeed_11 : decode cX7_beginDeed 11 = .ok (.aload_n 0, 1) := by decide +kernel
theorem dX7_beginDeed_12 : decode cX7_beginDeed 12 = .ok (.iconst 0, 1) := by decide +kernel
theorem dX7_beginDeed_13 : decode cX7_beginDeed 13 = .ok (.putfield 65, 3) := by decide +kernel
theorem dX7_beginDeed_16 : decode cX7_beginDeed 16 = .ok (.return_, 1) := by decide +kernel
theorem dX7_measureAnew_0 : decode cX7_measureAnew 0 = .ok (.aload_n 0, 1) := by decide +kernel
theorem dX7_measureAnew_1 : decode cX7_measureAnew 1 = .ok (.getfield 65, 3) := by decide +kernel
theorem dX7_measureAnew_4 : decode cX7_measureAnew 4 = .ok (.ifCond .eq 4, 3) := by decide +kernel
theorem dX7_measureAnew_7 : decode cX7_measureAnew 7 = .ok (.return_, 1) := by decide +kernel
theorem dX7_measureAnew_8 : decode cX7_measureAnew 8 = .ok (.aload_n 0, 1) := by decide +kernel
theorem dX7_measureAnew_9 : decode cX7_measureAnew 9 = .ok (.getfield 40, 3) := by decide +kernel
theorem dX7_measureAnew_12 : decode cX7_measureAnew 12 = .ok (.aload_n 0, 1) := by decide +kernel
theorem dX7_measureAnew_13 : decode cX7_measureAnew 13 = .ok (.getfield 10, 3) := by decide +kernel
theorem dX7_measureAnew_16 : decode cX7_measureAnew 16 = .ok (.aload_n 0, 1) := by decide +kernel
theorem dX7_measureAnew_17 : decode cX7_measureAnew 17 = .ok (.getfield 33, 3) := by decide +kernel
theorem dX7_measureAnew_20 : decode cX7_measureAnew 20 = .ok (.invokevirtual 233, 3) := by decide +kernel
theorem dX7_measureAnew_23 : decode cX7_measureAnew 23 = .ok (.aload_n 0, 1) := by decide +kernel
theorem dX7_measureAnew_24 : decode cX7_measureAnew 24 = .ok (.getfield 47, 3) := by decide +kernel
theorem dX7_measureAnew_27 : decode cX7_measureAnew 27 = .ok (.aload_n 0, 1) := by decide +kernel
theorem dX7_measureAnew_28 : decode cX7_measureAnew 28 = .ok (.getfield 40, 3) := by decide +kernel
theorem dX7_measureAnew_31 : decode cX7_measureAnew 31 = .ok (.aload_n 0, 1) := by decide +kernel
theorem dX7_measureAnew_32 : decode cX7_measureAnew 32 = .ok (.getfield 10, 3) := by decide +kernel
theorem dX7_measureAnew_35 : decode cX7_measureAnew 35 = .ok (.getfield 80, 3) := by decide +kernel
theorem dX7_measureAnew_38 : decode cX7_measureAnew 38 = .ok (.aload_n 0, 1) := by decide +kernel
theorem dX7_measureAnew_39 : decode cX7_measureAnew 39 = .ok (.getfield 10, 3) := by decide +kernel
theorem dX7_measureAnew_42 : decode cX7_measureAnew 42 = .ok (.getfield 91, 3) := by decide +kernel
theorem dX7_measureAnew_45 : decode cX7_measureAnew 45 = .ok (.invokevirtual 237, 3) := by decide +kernel
theorem dX7_measureAnew_48 : decode cX7_measureAnew 48 = .ok (.aload_n 0, 1) := by decide +kernel
theorem dX7_measureAnew_49 : decode cX7_measureAnew 49 = .ok (.iconst 1, 1) := by decide +kernel
theorem dX7_measureAnew_50 : decode cX7_measureAnew 50 = .ok (.putfield 65, 3) := by decide +kernel
theorem dX7_measureAnew_53 : decode cX7_measureAnew 53 = .ok (.return_, 1) := by decide +kernel
theorem dX7_likeTyped_0 : decode cX7_likeTyped 0 = .ok (.aload_n 0, 1) := by decide +kernel
theorem dX7_likeTyped_1 : decode cX7_likeTyped 1 = .ok (.getfield 57, 3) := by decide +kernel
theorem dX7_likeTyped_4 : decode cX7_likeTyped 4 = .ok (.invokestatic 71, 3) := by decide +kernel
theorem dX7_likeTyped_7 : decode cX7_likeTyped 7 = .ok (.ifCond .ne 5, 3) := by decide +kernel
theorem dX7_likeTyped_10 : decode cX7_likeTyped 10 = .ok (.iconst (-1), 1) := by decide +kernel
theorem dX7_likeTyped_11 : decode cX7_likeTyped 11 = .ok (.ireturn, 1) := by decide +kernel
theorem dX7_likeTyped_12 : decode cX7_likeTyped 12 = .ok (.iconst (-1), 1) := by decide +kernel
theorem dX7_likeTyped_13 : decode cX7_likeTyped 13 = .ok (.istore_n 1, 1) := by decide +kernel
theorem dX7_likeTyped_14 : decode cX7_likeTyped 14 = .ok (.iconst 0, 1) := by decide +kernel
theorem dX7_likeTyped_15 : decode cX7_likeTyped 15 = .ok (.istore_n 2, 1) := by decide +kernel
theorem dX7_likeTyped_16 : decode cX7_likeTyped 16 = .ok (.iconst 0, 1) := by decide +kernel
theorem dX7_likeTyped_17 : decode cX7_likeTyped 17 = .ok (.istore_n 3, 1) := by decide +kernel
theorem dX7_likeTyped_18 : decode cX7_likeTyped 18 = .ok (.iload_n 3, 1) := by decide +kernel
theorem dX7_likeTyped_19 : decode cX7_likeTyped 19 = .ok (.aload_n 0, 1) := by decide +kernel
theorem dX7_likeTyped_20 : decode cX7_likeTyped 20 = .ok (.getfield 10, 3) := by decide +kernel
theorem dX7_likeTyped_23 : decode cX7_likeTyped 23 = .ok (.getfield 80, 3) := by decide +kernel
theorem dX7_likeTyped_26 : decode cX7_likeTyped 26 = .ok (.if_icmp .ge 62, 3) := by decide +kernel
theorem dX7_likeTyped_29 : decode cX7_likeTyped 29 = .ok (.aload_n 0, 1) := by decide +kernel
theorem dX7_likeTyped_30 : decode cX7_likeTyped 30 = .ok (.getfield 33, 3) := by decide +kernel
theorem dX7_likeTyped_33 : decode cX7_likeTyped 33 = .ok (.aload_n 0, 1) := by decide +kernel
theorem dX7_likeTyped_34 : decode cX7_likeTyped 34 = .ok (.getfield 57, 3) := by decide +kernel
theorem dX7_likeTyped_37 : decode cX7_likeTyped 37 = .ok (.aload_n 0, 1) := by decide +kernel
theorem dX7_likeTyped_38 : decode cX7_likeTyped 38 = .ok (.getfield 10, 3) := by decide +kernel
theorem dX7_likeTyped_41 : decode cX7_likeTyped 41 = .ok (.getfield 124, 3) := by decide +kernel
theorem dX7_likeTyped_44 : decode cX7_likeTyped 44 = .ok (.iload_n 3, 1) := by decide +kernel
theorem dX7_likeTyped_45 : decode cX7_likeTyped 45 = .ok (.laload, 1) := by decide +kernel
theorem dX7_likeTyped_46 : decode cX7_likeTyped 46 = .ok (.aload_n 0, 1) := by decide +kernel
theorem dX7_likeTyped_47 : decode cX7_likeTyped 47 = .ok (.getfield 10, 3) := by decide +kernel
theorem dX7_likeTyped_50 : decode cX7_likeTyped 50 = .ok (.getfield 146, 3) := by decide +kernel
theorem dX7_likeTyped_53 : decode cX7_likeTyped 53 = .ok (.invokevirtual 149, 3) := by decide +kernel
theorem dX7_likeTyped_56 : decode cX7_likeTyped 56 = .ok (.iload_n 1, 1) := by decide +kernel
theorem dX7_likeTyped_57 : decode cX7_likeTyped 57 = .ok (.iconst (-1), 1) := by decide +kernel
theorem dX7_likeTyped_58 : decode cX7_likeTyped 58 = .ok (.if_icmp .eq 14, 3) := by decide +kernel
theorem dX7_likeTyped_61 : decode cX7_likeTyped 61 = .ok (.aload_n 0, 1) := by decide +kernel
theorem dX7_likeTyped_62 : decode cX7_likeTyped 62 = .ok (.getfield 33, 3) := by decide +kernel
theorem dX7_likeTyped_65 : decode cX7_likeTyped 65 = .ok (.invokevirtual 153, 3) := by decide +kernel
theorem dX7_likeTyped_68 : decode cX7_likeTyped 68 = .ok (.iload_n 2, 1) := by decide +kernel
theorem dX7_likeTyped_69 : decode cX7_likeTyped 69 = .ok (.if_icmp .ge 13, 3) := by decide +kernel
theorem dX7_likeTyped_72 : decode cX7_likeTyped 72 = .ok (.iload_n 3, 1) := by decide +kernel
theorem dX7_likeTyped_73 : decode cX7_likeTyped 73 = .ok (.istore_n 1, 1) := by decide +kernel
theorem dX7_likeTyped_74 : decode cX7_likeTyped 74 = .ok (.aload_n 0, 1) := by decide +kernel
theorem dX7_likeTyped_75 : decode cX7_likeTyped 75 = .ok (.getfield 33, 3) := by decide +kernel
theorem dX7_likeTyped_78 : decode cX7_likeTyped 78 = .ok (.invokevirtual 153, 3) := by decide +kernel
theorem dX7_likeTyped_81 : decode cX7_likeTyped 81 = .ok (.istore_n 2, 1) := by decide +kernel
theorem dX7_likeTyped_82 : decode cX7_likeTyped 82 = .ok (.iinc 3 1, 3) := by decide +kernel
theorem dX7_likeTyped_85 : decode cX7_likeTyped 85 = .ok (.goto (-67), 3) := by decide +kernel
theorem dX7_likeTyped_88 : decode cX7_likeTyped 88 = .ok (.iload_n 1, 1) := by decide +kernel
theorem dX7_likeTyped_89 : decode cX7_likeTyped 89 = .ok (.ireturn, 1) := by decide +kernel
theorem dX7_addDrawn_0 : decode cX7_addDrawn 0 = .ok (.aload_n 0, 1) := by decide +kernel
theorem dX7_addDrawn_1 : decode cX7_addDrawn 1 = .ok (.bipush 7, 2) := by decide +kernel
theorem dX7_addDrawn_3 : decode cX7_addDrawn 3 = .ok (.invokevirtual 241, 3) := by decide +kernel
theorem dX7_addDrawn_6 : decode cX7_addDrawn 6 = .ok (.iconst 2, 1) := by decide +kernel
theorem dX7_addDrawn_7 : decode cX7_addDrawn 7 = .ok (.iadd, 1) := by decide +kernel
theorem dX7_addDrawn_8 : decode cX7_addDrawn 8 = .ok (.istore_n 1, 1) := by decide +kernel
theorem dX7_addDrawn_9 : decode cX7_addDrawn 9 = .ok (.lconst 0, 1) := by decide +kernel
theorem dX7_addDrawn_10 : decode cX7_addDrawn 10 = .ok (.lstore_n 2, 1) := by decide +kernel
theorem dX7_addDrawn_11 : decode cX7_addDrawn 11 = .ok (.iconst 0, 1) := by decide +kernel
theorem dX7_addDrawn_12 : decode cX7_addDrawn 12 = .ok (.istore 4, 2) := by decide +kernel
theorem dX7_addDrawn_14 : decode cX7_addDrawn 14 = .ok (.iload 4, 2) := by decide +kernel
theorem dX7_addDrawn_16 : decode cX7_addDrawn 16 = .ok (.iload_n 1, 1) := by decide +kernel
theorem dX7_addDrawn_17 : decode cX7_addDrawn 17 = .ok (.if_icmp .ge 19, 3) := by decide +kernel
theorem dX7_addDrawn_20 : decode cX7_addDrawn 20 = .ok (.lload_n 2, 1) := by decide +kernel
theorem dX7_addDrawn_21 : decode cX7_addDrawn 21 = .ok (.aload_n 0, 1) := by decide +kernel
theorem dX7_addDrawn_22 : decode cX7_addDrawn 22 = .ok (.iconst 5, 1) := by decide +kernel
theorem dX7_addDrawn_23 : decode cX7_addDrawn 23 = .ok (.invokevirtual 241, 3) := by decide +kernel
theorem dX7_addDrawn_26 : decode cX7_addDrawn 26 = .ok (.invokestatic 76, 3) := by decide +kernel
theorem dX7_addDrawn_29 : decode cX7_addDrawn 29 = .ok (.lstore_n 2, 1) := by decide +kernel
theorem dX7_addDrawn_30 : decode cX7_addDrawn 30 = .ok (.iinc 4 1, 3) := by decide +kernel
theorem dX7_addDrawn_33 : decode cX7_addDrawn 33 = .ok (.goto (-19), 3) := by decide +kernel
theorem dX7_addDrawn_36 : decode cX7_addDrawn 36 = .ok (.aload_n 0, 1) := by decide +kernel
theorem dX7_addDrawn_37 : decode cX7_addDrawn 37 = .ok (.getfield 10, 3) := by decide +kernel
theorem dX7_addDrawn_40 : decode cX7_addDrawn 40 = .ok (.lload_n 2, 1) := by decide +kernel
theorem dX7_addDrawn_41 : decode cX7_addDrawn 41 = .ok (.aload_n 0, 1) := by decide +kernel
theorem dX7_addDrawn_42 : decode cX7_addDrawn 42 = .ok (.sipush 256, 3) := by decide +kernel
theorem dX7_addDrawn_45 : decode cX7_addDrawn 45 = .ok (.invokevirtual 241, 3) := by decide +kernel
theorem dX7_addDrawn_48 : decode cX7_addDrawn 48 = .ok (.invokevirtual 87, 3) := by decide +kernel
theorem dX7_addDrawn_51 : decode cX7_addDrawn 51 = .ok (.return_, 1) := by decide +kernel
theorem dX7_draw_0 : decode cX7_draw 0 = .ok (.aload_n 0, 1) := by decide +kernel
theorem dX7_draw_1 : decode cX7_draw 1 = .ok (.getfield 61, 3) := by decide +kernel
theorem dX7_draw_4 : decode cX7_draw 4 = .ok (.i2l, 1) := by decide +kernel
theorem dX7_draw_5 : decode cX7_draw 5 = .ok (.ldc2_w 244, 3) := by decide +kernel
theorem dX7_draw_8 : decode cX7_draw 8 = .ok (.lmul, 1) := by decide +kernel
theorem dX7_draw_9 : decode cX7_draw 9 = .ok (.ldc2_w 246, 3) := by decide +kernel
theorem dX7_draw_12 : decode cX7_draw 12 = .ok (.ladd, 1) := by decide +kernel
theorem dX7_draw_13 : decode cX7_draw 13 = .ok (.lstore_n 2, 1) := by decide +kernel
theorem dX7_draw_14 : decode cX7_draw 14 = .ok (.aload_n 0, 1) := by decide +kernel
theorem dX7_draw_15 : decode cX7_draw 15 = .ok (.lload_n 2, 1) := by decide +kernel
theorem dX7_draw_16 : decode cX7_draw 16 = .ok (.ldc2_w 248, 3) := by decide +kernel
theorem dX7_draw_19 : decode cX7_draw 19 = .ok (.land, 1) := by decide +kernel
theorem dX7_draw_20 : decode cX7_draw 20 = .ok (.l2i, 1) := by decide +kernel
theorem dX7_draw_21 : decode cX7_draw 21 = .ok (.putfield 61, 3) := by decide +kernel
theorem dX7_draw_24 : decode cX7_draw 24 = .ok (.iload_n 1, 1) := by decide +kernel
theorem dX7_draw_25 : decode cX7_draw 25 = .ok (.ifCond .le 15, 3) := by decide +kernel
theorem dX7_draw_28 : decode cX7_draw 28 = .ok (.aload_n 0, 1) := by decide +kernel
theorem dX7_draw_29 : decode cX7_draw 29 = .ok (.getfield 61, 3) := by decide +kernel
theorem dX7_draw_32 : decode cX7_draw 32 = .ok (.ldc 250, 2) := by decide +kernel
theorem dX7_draw_34 : decode cX7_draw 34 = .ok (.idiv, 1) := by decide +kernel
theorem dX7_draw_35 : decode cX7_draw 35 = .ok (.iload_n 1, 1) := by decide +kernel
theorem dX7_draw_36 : decode cX7_draw 36 = .ok (.irem, 1) := by decide +kernel
theorem dX7_draw_37 : decode cX7_draw 37 = .ok (.goto 4, 3) := by decide +kernel
theorem dX7_draw_40 : decode cX7_draw 40 = .ok (.iconst 0, 1) := by decide +kernel
theorem dX7_draw_41 : decode cX7_draw 41 = .ok (.ireturn, 1) := by decide +kernel
theorem dX7_lengthOf_0 : decode cX7_lengthOf 0 = .ok (.lload_n 0, 1) := by decide +kernel
theorem dX7_lengthOf_1 : decode cX7_lengthOf 1 = .ok (.bipush 32, 2) := by decide +kernel
theorem dX7_lengthOf_3 : decode cX7_lengthOf 3 = .ok (.lushr, 1) := by decide +kernel
theorem dX7_lengthOf_4 : decode cX7_lengthOf 4 = .ok (.l2i, 1) := by decide +kernel
theorem dX7_lengthOf_5 : decode cX7_lengthOf 5 = .ok (.ireturn, 1) := by decide +kernel
theorem dX7_motifOf_0 : decode cX7_motifOf 0 = .ok (.lload_n 0, 1) := by decide +kernel
theorem dX7_motifOf_1 : decode cX7_motifOf 1 = .ok (.iconst 3, 1) := by decide +kernel
theorem dX7_motifOf_2 : decode cX7_motifOf 2 = .ok (.iload_n 2, 1) := by decide +kernel
theorem dX7_motifOf_3 : decode cX7_motifOf 3 = .ok (.imul, 1) := by decide +kernel
theorem dX7_motifOf_4 : decode cX7_motifOf 4 = .ok (.lushr, 1) := by decide +kernel
theorem dX7_motifOf_5 : decode cX7_motifOf 5 = .ok (.l2i, 1) := by decide +kernel
theorem dX7_motifOf_6 : decode cX7_motifOf 6 = .ok (.bipush 7, 2) := by decide +kernel
theorem dX7_motifOf_8 : decode cX7_motifOf 8 = .ok (.iand, 1) := by decide +kernel
theorem dX7_motifOf_9 : decode cX7_motifOf 9 = .ok (.ireturn, 1) := by decide +kernel
theorem dX7_longer_0 : decode cX7_longer 0 = .ok (.lload_n 0, 1) := by decide +kernel
theorem dX7_longer_1 : decode cX7_longer 1 = .ok (.iload_n 2, 1) := by decide +kernel
theorem dX7_longer_2 : decode cX7_longer 2 = .ok (.i2l, 1) := by decide +kernel
theorem dX7_longer_3 : decode cX7_longer 3 = .ok (.iconst 3, 1) := by decide +kernel
theorem dX7_longer_4 : decode cX7_longer 4 = .ok (.lload_n 0, 1) := by decide +kernel
theorem dX7_longer_5 : decode cX7_longer 5 = .ok (.invokestatic 71, 3) := by decide +kernel
theorem dX7_longer_8 : decode cX7_longer 8 = .ok (.imul, 1) := by decide +kernel
theorem dX7_longer_9 : decode cX7_longer 9 = .ok (.lshl, 1) := by decide +kernel
theorem dX7_longer_10 : decode cX7_longer 10 = .ok (.lor, 1) := by decide +kernel
theorem dX7_longer_11 : decode cX7_longer 11 = .ok (.ldc2_w 251, 3) := by decide +kernel
theorem dX7_longer_14 : decode cX7_longer 14 = .ok (.ladd, 1) := by decide +kernel
theorem dX7_longer_15 : decode cX7_longer 15 = .ok (.lreturn, 1) := by decide +kernel
theorem dX7_motifsOf_0 : decode cX7_motifsOf 0 = .ok (.iconst 0, 1) := by decide +kernel
theorem dX7_motifsOf_1 : decode cX7_motifsOf 1 = .ok (.istore_n 2, 1) := by decide +kernel
theorem dX7_motifsOf_2 : decode cX7_motifsOf 2 = .ok (.iconst 0, 1) := by decide +kernel
theorem dX7_motifsOf_3 : decode cX7_motifsOf 3 = .ok (.istore_n 3, 1) := by decide +kernel
theorem dX7_motifsOf_4 : decode cX7_motifsOf 4 = .ok (.iload_n 3, 1) := by decide +kernel
theorem dX7_motifsOf_5 : decode cX7_motifsOf 5 = .ok (.lload_n 0, 1) := by decide +kernel
theorem dX7_motifsOf_6 : decode cX7_motifsOf 6 = .ok (.invokestatic 71, 3) := by decide +kernel
theorem dX7_motifsOf_9 : decode cX7_motifsOf 9 = .ok (.if_icmp .ge 25, 3) := by decide +kernel
theorem dX7_motifsOf_12 : decode cX7_motifsOf 12 = .ok (.iload_n 3, 1) := by decide +kernel
theorem dX7_motifsOf_13 : decode cX7_motifsOf 13 = .ok (.bipush 10, 2) := by decide +kernel
theorem dX7_motifsOf_15 : decode cX7_motifsOf 15 = .ok (.if_icmp .ge 19, 3) := by decide +kernel
theorem dX7_motifsOf_18 : decode cX7_motifsOf 18 = .ok (.iload_n 2, 1) := by decide +kernel
theorem dX7_motifsOf_19 : decode cX7_motifsOf 19 = .ok (.iconst 1, 1) := by decide +kernel
theorem dX7_motifsOf_20 : decode cX7_motifsOf 20 = .ok (.lload_n 0, 1) := by decide +kernel
theorem dX7_motifsOf_21 : decode cX7_motifsOf 21 = .ok (.iload_n 3, 1) := by decide +kernel
theorem dX7_motifsOf_22 : decode cX7_motifsOf 22 = .ok (.invokestatic 142, 3) := by decide +kernel
theorem dX7_motifsOf_25 : decode cX7_motifsOf 25 = .ok (.ishl, 1) := by decide +kernel
theorem dX7_motifsOf_26 : decode cX7_motifsOf 26 = .ok (.ior, 1) := by decide +kernel
theorem dX7_motifsOf_27 : decode cX7_motifsOf 27 = .ok (.istore_n 2, 1) := by decide +kernel
theorem dX7_motifsOf_28 : decode cX7_motifsOf 28 = .ok (.iinc 3 1, 3) := by decide +kernel
theorem dX7_motifsOf_31 : decode cX7_motifsOf 31 = .ok (.goto (-27), 3) := by decide +kernel
theorem dX7_motifsOf_34 : decode cX7_motifsOf 34 = .ok (.iload_n 2, 1) := by decide +kernel
theorem dX7_motifsOf_35 : decode cX7_motifsOf 35 = .ok (.ireturn, 1) := by decide +kernel
theorem dX7_hull_0 : decode cX7_hull 0 = .ok (.iconst (-1), 1) := by decide +kernel
theorem dX7_hull_1 : decode cX7_hull 1 = .ok (.istore_n 2, 1) := by decide +kernel
theorem dX7_hull_2 : decode cX7_hull 2 = .ok (.iload_n 0, 1) := by decide +kernel
theorem dX7_hull_3 : decode cX7_hull 3 = .ok (.istore_n 3, 1) := by decide +kernel
theorem dX7_hull_4 : decode cX7_hull 4 = .ok (.iload_n 3, 1) := by decide +kernel
theorem dX7_hull_5 : decode cX7_hull 5 = .ok (.sipush 255, 3) := by decide +kernel
theorem dX7_hull_8 : decode cX7_hull 8 = .ok (.if_icmp .gt 54, 3) := by decide +kernel
theorem dX7_hull_11 : decode cX7_hull 11 = .ok (.iload_n 2, 1) := by decide +kernel
theorem dX7_hull_12 : decode cX7_hull 12 = .ok (.iconst (-1), 1) := by decide +kernel
theorem dX7_hull_13 : decode cX7_hull 13 = .ok (.if_icmp .eq 14, 3) := by decide +kernel
theorem dX7_hull_16 : decode cX7_hull 16 = .ok (.iload_n 3, 1) := by decide +kernel
theorem dX7_hull_17 : decode cX7_hull 17 = .ok (.invokestatic 253, 3) := by decide +kernel
theorem dX7_hull_20 : decode cX7_hull 20 = .ok (.iload_n 2, 1) := by decide +kernel
theorem dX7_hull_21 : decode cX7_hull 21 = .ok (.invokestatic 253, 3) := by decide +kernel
theorem dX7_hull_24 : decode cX7_hull 24 = .ok (.if_icmp .ge 7, 3) := by decide +kernel
theorem dX7_hull_27 : decode cX7_hull 27 = .ok (.iconst 1, 1) := by decide +kernel
theorem dX7_hull_28 : decode cX7_hull 28 = .ok (.goto 4, 3) := by decide +kernel
theorem dX7_hull_31 : decode cX7_hull 31 = .ok (.iconst 0, 1) := by decide +kernel
theorem dX7_hull_32 : decode cX7_hull 32 = .ok (.istore 4, 2) := by decide +kernel
theorem dX7_hull_34 : decode cX7_hull 34 = .ok (.iload_n 3, 1) := by decide +kernel
theorem dX7_hull_35 : decode cX7_hull 35 = .ok (.iload_n 0, 1) := by decide +kernel
theorem dX7_hull_36 : decode cX7_hull 36 = .ok (.iand, 1) := by decide +kernel
theorem dX7_hull_37 : decode cX7_hull 37 = .ok (.iload_n 0, 1) := by decide +kernel
theorem dX7_hull_38 : decode cX7_hull 38 = .ok (.if_icmp .ne 18, 3) := by decide +kernel
theorem dX7_hull_41 : decode cX7_hull 41 = .ok (.iload 4, 2) := by decide +kernel
theorem dX7_hull_43 : decode cX7_hull 43 = .ok (.ifCond .eq 13, 3) := by decide +kernel
theorem dX7_hull_46 : decode cX7_hull 46 = .ok (.iload_n 3, 1) := by decide +kernel
theorem dX7_hull_47 : decode cX7_hull 47 = .ok (.aload_n 1, 1) := by decide +kernel
theorem dX7_hull_48 : decode cX7_hull 48 = .ok (.invokestatic 258, 3) := by decide +kernel
theorem dX7_hull_51 : decode cX7_hull 51 = .ok (.ifCond .eq 5, 3) := by decide +kernel
theorem dX7_hull_54 : decode cX7_hull 54 = .ok (.iload_n 3, 1) := by decide +kernel
theorem dX7_hull_55 : decode cX7_hull 55 = .ok (.istore_n 2, 1) := by decide +kernel
theorem dX7_hull_56 : decode cX7_hull 56 = .ok (.iinc 3 1, 3) := by decide +kernel
theorem dX7_hull_59 : decode cX7_hull 59 = .ok (.goto (-55), 3) := by decide +kernel
theorem dX7_hull_62 : decode cX7_hull 62 = .ok (.iload_n 2, 1) := by decide +kernel
theorem dX7_hull_63 : decode cX7_hull 63 = .ok (.ireturn, 1) := by decide +kernel
theorem dX7_hangTogether_0 : decode cX7_hangTogether 0 = .ok (.iload_n 0, 1) := by decide +kernel
theorem dX7_hangTogether_1 : decode cX7_hangTogether 1 = .ok (.iload_n 0, 1) := by decide +kernel
theorem dX7_hangTogether_2 : decode cX7_hangTogether 2 = .ok (.ineg, 1) := by decide +kernel
theorem dX7_hangTogether_3 : decode cX7_hangTogether 3 = .ok (.iand, 1) := by decide +kernel
theorem dX7_hangTogether_4 : decode cX7_hangTogether 4 = .ok (.istore_n 2, 1) := by decide +kernel
theorem dX7_hangTogether_5 : decode cX7_hangTogether 5 = .ok (.iconst 0, 1) := by decide +kernel
theorem dX7_hangTogether_6 : decode cX7_hangTogether 6 = .ok (.istore_n 3, 1) := by decide +kernel
theorem dX7_hangTogether_7 : decode cX7_hangTogether 7 = .ok (.iload_n 3, 1) := by decide +kernel
theorem dX7_hangTogether_8 : decode cX7_hangTogether 8 = .ok (.bipush 8, 2) := by decide +kernel
theorem dX7_hangTogether_10 : decode cX7_hangTogether 10 = .ok (.if_icmp .ge 49, 3) := by decide +kernel
theorem dX7_hangTogether_13 : decode cX7_hangTogether 13 = .ok (.iload_n 2, 1) := by decide +kernel
theorem dX7_hangTogether_14 : decode cX7_hangTogether 14 = .ok (.iload_n 0, 1) := by decide +kernel
theorem dX7_hangTogether_15 : decode cX7_hangTogether 15 = .ok (.if_icmp .eq 44, 3) := by decide +kernel
theorem dX7_hangTogether_18 : decode cX7_hangTogether 18 = .ok (.iconst 0, 1) := by decide +kernel
theorem dX7_hangTogether_19 : decode cX7_hangTogether 19 = .ok (.istore 4, 2) := by decide +kernel
theorem dX7_hangTogether_21 : decode cX7_hangTogether 21 = .ok (.iload 4, 2) := by decide +kernel
theorem dX7_hangTogether_23 : decode cX7_hangTogether 23 = .ok (.bipush 8, 2) := by decide +kernel
theorem dX7_hangTogether_25 : decode cX7_hangTogether 25 = .ok (.if_icmp .ge 28, 3) := by decide +kernel
theorem dX7_hangTogether_28 : decode cX7_hangTogether 28 = .ok (.iload_n 2, 1) := by decide +kernel
theorem dX7_hangTogether_29 : decode cX7_hangTogether 29 = .ok (.iload 4, 2) := by decide +kernel
theorem dX7_hangTogether_31 : decode cX7_hangTogether 31 = .ok (.ishr, 1) := by decide +kernel
theorem dX7_hangTogether_32 : decode cX7_hangTogether 32 = .ok (.iconst 1, 1) := by decide +kernel
theorem dX7_hangTogether_33 : decode cX7_hangTogether 33 = .ok (.iand, 1) := by decide +kernel
theorem dX7_hangTogether_34 : decode cX7_hangTogether 34 = .ok (.iconst 1, 1) := by decide +kernel
theorem dX7_hangTogether_35 : decode cX7_hangTogether 35 = .ok (.if_icmp .ne 12, 3) := by decide +kernel
theorem dX7_hangTogether_38 : decode cX7_hangTogether 38 = .ok (.iload_n 2, 1) := by decide +kernel
theorem dX7_hangTogether_39 : decode cX7_hangTogether 39 = .ok (.aload_n 1, 1) := by decide +kernel
theorem dX7_hangTogether_40 : decode cX7_hangTogether 40 = .ok (.iload 4, 2) := by decide +kernel
theorem dX7_hangTogether_42 : decode cX7_hangTogether 42 = .ok (.iaload, 1) := by decide +kernel
theorem dX7_hangTogether_43 : decode cX7_hangTogether 43 = .ok (.iload_n 0, 1) := by decide +kernel
theorem dX7_hangTogether_44 : decode cX7_hangTogether 44 = .ok (.iand, 1) := by decide +kernel
theorem dX7_hangTogether_45 : decode cX7_hangTogether 45 = .ok (.ior, 1) := by decide +kernel
theorem dX7_hangTogether_46 : decode cX7_hangTogether 46 = .ok (.istore_n 2, 1) := by decide +kernel
theorem dX7_hangTogether_47 : decode cX7_hangTogether 47 = .ok (.iinc 4 1, 3) := by decide +kernel
theorem dX7_hangTogether_50 : decode cX7_hangTogether 50 = .ok (.goto (-29), 3) := by decide +kernel
theorem dX7_hangTogether_53 : decode cX7_hangTogether 53 = .ok (.iinc 3 1, 3) := by decide +kernel
theorem dX7_hangTogether_56 : decode cX7_hangTogether 56 = .ok (.goto (-49), 3) := by decide +kernel
theorem dX7_hangTogether_59 : decode cX7_hangTogether 59 = .ok (.iload_n 2, 1) := by decide +kernel
theorem dX7_hangTogether_60 : decode cX7_hangTogether 60 = .ok (.iload_n 0, 1) := by decide +kernel
theorem dX7_hangTogether_61 : decode cX7_hangTogether 61 = .ok (.if_icmp .ne 7, 3) := by decide +kernel
theorem dX7_hangTogether_64 : decode cX7_hangTogether 64 = .ok (.iconst 1, 1) := by decide +kernel
theorem dX7_hangTogether_65 : decode cX7_hangTogether 65 = .ok (.goto 4, 3) := by decide +kernel
theorem dX7_hangTogether_68 : decode cX7_hangTogether 68 = .ok (.iconst 0, 1) := by decide +kernel
theorem dX7_hangTogether_69 : decode cX7_hangTogether 69 = .ok (.ireturn, 1) := by decide +kernel
theorem dX7_roadsOf_0 : decode cX7_roadsOf 0 = .ok (.iload_n 0, 1) := by decide +kernel
theorem dX7_roadsOf_1 : decode cX7_roadsOf 1 = .ok (.iconst (-1), 1) := by decide +kernel
theorem dX7_roadsOf_2 : decode cX7_roadsOf 2 = .ok (.if_icmp .ne 5, 3) := by decide +kernel
theorem dX7_roadsOf_5 : decode cX7_roadsOf 5 = .ok (.iconst (-1), 1) := by decide +kernel
theorem dX7_roadsOf_6 : decode cX7_roadsOf 6 = .ok (.ireturn, 1) := by decide +kernel
theorem dX7_roadsOf_7 : decode cX7_roadsOf 7 = .ok (.iload_n 0, 1) := by decide +kernel
theorem dX7_roadsOf_8 : decode cX7_roadsOf 8 = .ok (.ifCond .ne 7, 3) := by decide +kernel
theorem dX7_roadsOf_11 : decode cX7_roadsOf 11 = .ok (.iconst 0, 1) := by decide +kernel
theorem dX7_roadsOf_12 : decode cX7_roadsOf 12 = .ok (.goto 9, 3) := by decide +kernel
theorem dX7_roadsOf_15 : decode cX7_roadsOf 15 = .ok (.iload_n 0, 1) := by decide +kernel
theorem dX7_roadsOf_16 : decode cX7_roadsOf 16 = .ok (.invokestatic 253, 3) := by decide +kernel
theorem dX7_roadsOf_19 : decode cX7_roadsOf 19 = .ok (.iconst 1, 1) := by decide +kernel
theorem dX7_roadsOf_20 : decode cX7_roadsOf 20 = .ok (.isub, 1) := by decide +kernel
theorem dX7_roadsOf_21 : decode cX7_roadsOf 21 = .ok (.ireturn, 1) := by decide +kernel
theorem dX8_init_0 : decode cX8_init 0 = .ok (.aload_n 0, 1) := by decide +kernel
theorem dX8_init_1 : decode cX8_init 1 = .ok (.invokespecial 1, 3) := by decide +kernel
theorem dX8_init_4 : decode cX8_init 4 = .ok (.aload_n 0, 1) := by decide +kernel
theorem dX8_init_5 : decode cX8_init 5 = .ok (.bipush 110, 2) := by decide +kernel
theorem dX8_init_7 : decode cX8_init 7 = .ok (.newarray .int, 2) := by decide +kernel
theorem dX8_init_9 : decode cX8_init 9 = .ok (.putfield 7, 3) := by decide +kernel
theorem dX8_init_12 : decode cX8_init 12 = .ok (.aload_n 0, 1) := by decide +kernel
theorem dX8_init_13 : decode cX8_init 13 = .ok (.sipush 1760, 3) := by decide +kernel
theorem dX8_init_16 : decode cX8_init 16 = .ok (.newarray .int, 2) := by decide +kernel
theorem dX8_init_18 : decode cX8_init 18 = .ok (.putfield 13, 3) := by decide +kernel
theorem dX8_init_21 : decode cX8_init 21 = .ok (.aload_n 0, 1) := by decide +kernel
theorem dX8_init_22 : decode cX8_init 22 = .ok (.sipush 222, 3) := by decide +kernel
theorem dX8_init_25 : decode cX8_init 25 = .ok (.newarray .int, 2) := by decide +kernel
theorem dX8_init_27 : decode cX8_init 27 = .ok (.putfield 16, 3) := by decide +kernel
theorem dX8_init_30 : decode cX8_init 30 = .ok (.aload_n 0, 1) := by decide +kernel
theorem dX8_init_31 : decode cX8_init 31 = .ok (.iconst 2, 1) := by decide +kernel
theorem dX8_init_32 : decode cX8_init 32 = .ok (.newarray .boolean, 2) := by decide +kernel
theorem dX8_init_34 : decode cX8_init 34 = .ok (.putfield 19, 3) := by decide +kernel
theorem dX8_init_37 : decode cX8_init 37 = .ok (.aload_n 0, 1) := by decide +kernel
theorem dX8_init_38 : decode cX8_init 38 = .ok (.bipush 10, 2) := by decide +kernel
theorem dX8_init_40 : decode cX8_init 40 = .ok (.newarray .int, 2) := by decide +kernel
theorem dX8_init_42 : decode cX8_init 42 = .ok (.putfield 23, 3) := by decide +kernel
theorem dX8_init_45 : decode cX8_init 45 = .ok (.aload_n 0, 1) := by decide +kernel
theorem dX8_init_46 : decode cX8_init 46 = .ok (.bipush 60, 2) := by decide +kernel
theorem dX8_init_48 : decode cX8_init 48 = .ok (.newarray .int, 2) := by decide +kernel
theorem dX8_init_50 : decode cX8_init 50 = .ok (.putfield 26, 3) := by decide +kernel
theorem dX8_init_53 : decode cX8_init 53 = .ok (.aload_n 0, 1) := by decide +kernel
theorem dX8_init_54 : decode cX8_init 54 = .ok (.bipush 10, 2) := by decide +kernel
theorem dX8_init_56 : decode cX8_init 56 = .ok (.newarray .int, 2) := by decide +kernel
theorem dX8_init_58 : decode cX8_init 58 = .ok (.putfield 29, 3) := by decide +kernel
theorem dX8_init_61 : decode cX8_init 61 = .ok (.aload_n 0, 1) := by decide +kernel
theorem dX8_init_62 : decode cX8_init 62 = .ok (.bipush 10, 2) := by decide +kernel
theorem dX8_init_64 : decode cX8_init 64 = .ok (.newarray .int, 2) := by decide +kernel
theorem dX8_init_66 : decode cX8_init 66 = .ok (.putfield 32, 3) := by decide +kernel
theorem dX8_init_69 : decode cX8_init 69 = .ok (.aload_n 0, 1) := by decide +kernel
theorem dX8_init_70 : decode cX8_init 70 = .ok (.bipush 121, 2) := by decide +kernel
theorem dX8_init_72 : decode cX8_init 72 = .ok (.newarray .int, 2) := by decide +kernel
theorem dX8_init_74 : decode cX8_init 74 = .ok (.putfield 35, 3) := by decide +kernel
theorem dX8_init_77 : decode cX8_init 77 = .ok (.aload_n 0, 1) := by decide +kernel
theorem dX8_init_78 : decode cX8_init 78 = .ok (.bipush 121, 2) := by decide +kernel
theorem dX8_init_80 : decode cX8_init 80 = .ok (.newarray .int, 2) := by decide +kernel
theorem dX8_init_82 : decode cX8_init 82 = .ok (.putfield 38, 3) := by decide +kernel
theorem dX8_init_85 : decode cX8_init 85 = .ok (.aload_n 0, 1) := by decide +kernel
theorem dX8_init_86 : decode cX8_init 86 = .ok (.bipush 20, 2) := by decide +kernel
theorem dX8_init_88 : decode cX8_init 88 = .ok (.newarray .int, 2) := by decide +kernel
theorem dX8_init_90 : decode cX8_init 90 = .ok (.putfield 41, 3) := by decide +kernel
theorem dX8_init_93 : decode cX8_init 93 = .ok (.aload_n 0, 1) := by decide +kernel
theorem dX8_init_94 : decode cX8_init 94 = .ok (.bipush 121, 2) := by decide +kernel
theorem dX8_init_96 : decode cX8_init 96 = .ok (.newarray .int, 2) := by decide +kernel
theorem dX8_init_98 : decode cX8_init 98 = .ok (.putfield 44, 3) := by decide +kernel
theorem dX8_init_101 : decode cX8_init 101 = .ok (.aload_n 0, 1) := by decide +kernel
theorem dX8_init_102 : decode cX8_init 102 = .ok (.bipush 64, 2) := by decide +kernel
theorem dX8_init_104 : decode cX8_init 104 = .ok (.newarray .int, 2) := by decide +kernel
theorem dX8_init_106 : decode cX8_init 106 = .ok (.putfield 47, 3) := by decide +kernel
theorem dX8_init_109 : decode cX8_init 109 = .ok (.aload_n 0, 1) := by decide +kernel
theorem dX8_init_110 : decode cX8_init 110 = .ok (.bipush 8, 2) := by decide +kernel
theorem dX8_init_112 : decode cX8_init 112 = .ok (.newarray .int, 2) := by decide +kernel
theorem dX8_init_114 : decode cX8_init 114 = .ok (.putfield 50, 3) := by decide +kernel
theorem dX8_init_117 : decode cX8_init 117 = .ok (.aload_n 0, 1) := by decide +kernel
theorem dX8_init_118 : decode cX8_init 118 = .ok (.bipush 7, 2) := by decide +kernel
theorem dX8_init_120 : decode cX8_init 120 = .ok (.newarray .int, 2) := by decide +kernel
theorem dX8_init_122 : decode cX8_init 122 = .ok (.putfield 53, 3) := by decide +kernel
theorem dX8_init_125 : decode cX8_init 125 = .ok (.aload_n 0, 1) := by decide +kernel
theorem dX8_init_126 : decode cX8_init 126 = .ok (.bipush 7, 2) := by decide +kernel
theorem dX8_init_128 : decode cX8_init 128 = .ok (.newarray .int, 2) := by decide +kernel
theorem dX8_init_130 : decode cX8_init 130 = .ok (.putfield 56, 3) := by decide +kernel
theorem dX8_init_133 : decode cX8_init 133 = .ok (.aload_n 0, 1) := by decide +kernel
theorem dX8_init_134 : decode cX8_init 134 = .ok (.bipush 7, 2) := by decide +kernel
theorem dX8_init_136 : decode cX8_init 136 = .ok (.newarray .int, 2) := by decide +kernel
theorem dX8_init_138 : decode cX8_init 138 = .ok (.putfield 59, 3) := by decide +kernel
theorem dX8_init_141 : decode cX8_init 141 = .ok (.aload_n 0, 1) := by decide +kernel
theorem dX8_init_142 : decode cX8_init 142 = .ok (.getfield 7, 3) := by decide +kernel
theorem dX8_init_145 : decode cX8_init 145 = .ok (.iconst 2, 1) := by decide +kernel
theorem dX8_init_146 : decode cX8_init 146 = .ok (.iconst 2, 1) := by decide +kernel
theorem dX8_init_147 : decode cX8_init 147 = .ok (.iastore, 1) := by decide +kernel
theorem dX8_init_148 : decode cX8_init 148 = .ok (.aload_n 0, 1) := by decide +kernel
theorem dX8_init_149 : decode cX8_init 149 = .ok (.getfield 7, 3) := by decide +kernel
theorem dX8_init_152 : decode cX8_init 152 = .ok (.iconst 3, 1) := by decide +kernel
theorem dX8_init_153 : decode cX8_init 153 = .ok (.iconst 2, 1) := by decide +kernel
theorem dX8_init_154 : decode cX8_init 154 = .ok (.iastore, 1) := by decide +kernel
theorem dX8_init_155 : decode cX8_init 155 = .ok (.aload_n 0, 1) := by decide +kernel
theorem dX8_init_156 : decode cX8_init 156 = .ok (.getfield 7, 3) := by decide +kernel
theorem dX8_init_159 : decode cX8_init 159 = .ok (.iconst 4, 1) := by decide +kernel
theorem dX8_init_160 : decode cX8_init 160 = .ok (.iconst 1, 1) := by decide +kernel
theorem dX8_init_161 : decode cX8_init 161 = .ok (.iastore, 1) := by decide +kernel
theorem dX8_init_162 : decode cX8_init 162 = .ok (.aload_n 0, 1) := by decide +kernel
theorem dX8_init_163 : decode cX8_init 163 = .ok (.getfield 7, 3) := by decide +kernel
theorem dX8_init_166 : decode cX8_init 166 = .ok (.iconst 5, 1) := by decide +kernel
theorem dX8_init_167 : decode cX8_init 167 = .ok (.iconst 3, 1) := by decide +kernel
theorem dX8_init_168 : decode cX8_init 168 = .ok (.iastore, 1) := by decide +kernel
theorem dX8_init_169 : decode cX8_init 169 = .ok (.return_, 1) := by decide +kernel
theorem dX8_in_0 : decode cX8_in 0 = .ok (.iload_n 0, 1) := by decide +kernel
theorem dX8_in_1 : decode cX8_in 1 = .ok (.iload_n 1, 1) := by decide +kernel
theorem dX8_in_2 : decode cX8_in 2 = .ok (.if_icmp .lt 12, 3) := by decide +kernel
theorem dX8_in_5 : decode cX8_in 5 = .ok (.iload_n 0, 1) := by decide +kernel
theorem dX8_in_6 : decode cX8_in 6 = .ok (.iload_n 2, 1) := by decide +kernel
theorem dX8_in_7 : decode cX8_in 7 = .ok (.if_icmp .gt 7, 3) := by decide +kernel
theorem dX8_in_10 : decode cX8_in 10 = .ok (.iconst 1, 1) := by decide +kernel
theorem dX8_in_11 : decode cX8_in 11 = .ok (.goto 4, 3) := by decide +kernel
theorem dX8_in_14 : decode cX8_in 14 = .ok (.iconst 0, 1) := by decide +kernel
theorem dX8_in_15 : decode cX8_in 15 = .ok (.ireturn, 1) := by decide +kernel
theorem dX8_bring_0 : decode cX8_bring 0 = .ok (.iconst 0, 1) := by decide +kernel
theorem dX8_bring_1 : decode cX8_bring 1 = .ok (.istore 5, 2) := by decide +kernel
theorem dX8_bring_3 : decode cX8_bring 3 = .ok (.iload 5, 2) := by decide +kernel
theorem dX8_bring_5 : decode cX8_bring 5 = .ok (.iload 4, 2) := by decide +kernel
theorem dX8_bring_7 : decode cX8_bring 7 = .ok (.if_icmp .ge 21, 3) := by decide +kernel
theorem dX8_bring_10 : decode cX8_bring 10 = .ok (.aload_n 2, 1) := by decide +kernel
theorem dX8_bring_11 : decode cX8_bring 11 = .ok (.iload_n 3, 1) := by decide +kernel
theorem dX8_bring_12 : decode cX8_bring 12 = .ok (.iload 5, 2) := by decide +kernel
theorem dX8_bring_14 : decode cX8_bring 14 = .ok (.iadd, 1) := by decide +kernel
theorem dX8_bring_15 : decode cX8_bring 15 = .ok (.aload_n 0, 1) := by decide +kernel
theorem dX8_bring_16 : decode cX8_bring 16 = .ok (.iload_n 1, 1) := by decide +kernel
theorem dX8_bring_17 : decode cX8_bring 17 = .ok (.iload 5, 2) := by decide +kernel
theorem dX8_bring_19 : decode cX8_bring 19 = .ok (.iadd, 1) := by decide +kernel
theorem dX8_bring_20 : decode cX8_bring 20 = .ok (.iaload, 1) := by decide +kernel
theorem dX8_bring_21 : decode cX8_bring 21 = .ok (.iastore, 1) := by decide +kernel
theorem dX8_bring_22 : decode cX8_bring 22 = .ok (.iinc 5 1, 3) := by decide +kernel
theorem dX8_bring_25 : decode cX8_bring 25 = .ok (.goto (-22), 3) := by decide +kernel
theorem dX8_bring_28 : decode cX8_bring 28 = .ok (.return_, 1) := by decide +kernel
theorem dX8_has_0 : decode cX8_has 0 = .ok (.iload_n 0, 1) := by decide +kernel
theorem dX8_has_1 : decode cX8_has 1 = .ok (.iload_n 1, 1) := by decide +kernel
theorem dX8_has_2 : decode cX8_has 2 = .ok (.ishr, 1) := by decide +kernel
theorem dX8_has_3 : decode cX8_has 3 = .ok (.iconst 1, 1) := by decide +kernel
theorem dX8_has_4 : decode cX8_has 4 = .ok (.iand, 1) := by decide +kernel
theorem dX8_has_5 : decode cX8_has 5 = .ok (.iconst 1, 1) := by decide +kernel
theorem dX8_has_6 : decode cX8_has 6 = .ok (.if_icmp .ne 7, 3) := by decide +kernel
theorem dX8_has_9 : decode cX8_has 9 = .ok (.iconst 1, 1) := by decide +kernel
theorem dX8_has_10 : decode cX8_has 10 = .ok (.goto 4, 3) := by decide +kernel
theorem dX8_has_13 : decode cX8_has 13 = .ok (.iconst 0, 1) := by decide +kernel
theorem dX8_has_14 : decode cX8_has 14 = .ok (.ireturn, 1) := by decide +kernel
theorem dX8_ones_0 : decode cX8_ones 0 = .ok (.iconst 0, 1) := by decide +kernel
theorem dX8_ones_1 : decode cX8_ones 1 = .ok (.istore_n 1, 1) := by decide +kernel
theorem dX8_ones_2 : decode cX8_ones 2 = .ok (.iconst 0, 1) := by decide +kernel
theorem dX8_ones_3 : decode cX8_ones 3 = .ok (.istore_n 2, 1) := by decide +kernel
theorem dX8_ones_4 : decode cX8_ones 4 = .ok (.iload_n 2, 1) := by decide +kernel
theorem dX8_ones_5 : decode cX8_ones 5 = .ok (.bipush 8, 2) := by decide +kernel
theorem dX8_ones_7 : decode cX8_ones 7 = .ok (.if_icmp .ge 17, 3) := by decide +kernel
theorem dX8_ones_10 : decode cX8_ones 10 = .ok (.iload_n 1, 1) := by decide +kernel
theorem dX8_ones_11 : decode cX8_ones 11 = .ok (.iload_n 0, 1) := by decide +kernel
theorem dX8_ones_12 : decode cX8_ones 12 = .ok (.iload_n 2, 1) := by decide +kernel
theorem dX8_ones_13 : decode cX8_ones 13 = .ok (.ishr, 1) := by decide +kernel
theorem dX8_ones_14 : decode cX8_ones 14 = .ok (.iconst 1, 1) := by decide +kernel
theorem dX8_ones_15 : decode cX8_ones 15 = .ok (.iand, 1) := by decide +kernel
theorem dX8_ones_16 : decode cX8_ones 16 = .ok (.iadd, 1) := by decide +kernel
theorem dX8_ones_17 : decode cX8_ones 17 = .ok (.istore_n 1, 1) := by decide +kernel
theorem dX8_ones_18 : decode cX8_ones 18 = .ok (.iinc 2 1, 3) := by decide +kernel
theorem dX8_ones_21 : decode cX8_ones 21 = .ok (.goto (-17), 3) := by decide +kernel
theorem dX8_ones_24 : decode cX8_ones 24 = .ok (.iload_n 1, 1) := by decide +kernel
theorem dX8_ones_25 : decode cX8_ones 25 = .ok (.ireturn, 1) := by decide +kernel
theorem dX8_lesser_0 : decode cX8_lesser 0 = .ok (.iload_n 0, 1) := by decide +kernel
theorem dX8_lesser_1 : decode cX8_lesser 1 = .ok (.iload_n 1, 1) := by decide +kernel
theorem dX8_lesser_2 : decode cX8_lesser 2 = .ok (.if_icmp .ge 7, 3) := by decide +kernel
theorem dX8_lesser_5 : decode cX8_lesser 5 = .ok (.iload_n 0, 1) := by decide +kernel
theorem dX8_lesser_6 : decode cX8_lesser 6 = .ok (.goto 4, 3) := by decide +kernel
theorem dX8_lesser_9 : decode cX8_lesser 9 = .ok (.iload_n 1, 1) := by decide +kernel
theorem dX8_lesser_10 : decode cX8_lesser 10 = .ok (.ireturn, 1) := by decide +kernel
theorem dX8_isTale_0 : decode cX8_isTale 0 = .ok (.iload_n 1, 1) := by decide +kernel
theorem dX8_isTale_1 : decode cX8_isTale 1 = .ok (.iconst 0, 1) := by decide +kernel
theorem dX8_isTale_2 : decode cX8_isTale 2 = .ok (.aload_n 0, 1) := by decide +kernel
theorem dX8_isTale_3 : decode cX8_isTale 3 = .ok (.getfield 7, 3) := by decide +kernel
theorem dX8_isTale_6 : decode cX8_isTale 6 = .ok (.iconst 0, 1) := by decide +kernel
theorem dX8_isTale_7 : decode cX8_isTale 7 = .ok (.iaload, 1) := by decide +kernel
theorem dX8_isTale_8 : decode cX8_isTale 8 = .ok (.iconst 1, 1) := by decide +kernel
theorem dX8_isTale_9 : decode cX8_isTale 9 = .ok (.isub, 1) := by decide +kernel
theorem dX8_isTale_10 : decode cX8_isTale 10 = .ok (.invokestatic 62, 3) := by decide +kernel
theorem dX8_isTale_13 : decode cX8_isTale 13 = .ok (.ireturn, 1) := by decide +kernel
theorem dX8_takes_0 : decode cX8_takes 0 = .ok (.aload_n 0, 1) := by decide +kernel
theorem dX8_takes_1 : decode cX8_takes 1 = .ok (.aload_n 0, 1) := by decide +kernel
theorem dX8_takes_2 : decode cX8_takes 2 = .ok (.getfield 7, 3) := by decide +kernel
theorem dX8_takes_5 : decode cX8_takes 5 = .ok (.bipush 6, 2) := by decide +kernel
theorem dX8_takes_7 : decode cX8_takes 7 = .ok (.iload_n 1, 1) := by decide +kernel
theorem dX8_takes_8 : decode cX8_takes 8 = .ok (.iadd, 1) := by decide +kernel
theorem dX8_takes_9 : decode cX8_takes 9 = .ok (.iaload, 1) := by decide +kernel
theorem dX8_takes_10 : decode cX8_takes 10 = .ok (.putfield 66, 3) := by decide +kernel
theorem dX8_takes_13 : decode cX8_takes 13 = .ok (.aload_n 0, 1) := by decide +kernel
theorem dX8_takes_14 : decode cX8_takes 14 = .ok (.aload_n 0, 1) := by decide +kernel
theorem dX8_takes_15 : decode cX8_takes 15 = .ok (.getfield 7, 3) := by decide +kernel
theorem dX8_takes_18 : decode cX8_takes 18 = .ok (.bipush 6, 2) := by decide +kernel
theorem dX8_takes_20 : decode cX8_takes 20 = .ok (.iload_n 2, 1) := by decide +kernel
theorem dX8_takes_21 : decode cX8_takes 21 = .ok (.iadd, 1) := by decide +kernel
theorem dX8_takes_22 : decode cX8_takes 22 = .ok (.iaload, 1) := by decide +kernel
theorem dX8_takes_23 : decode cX8_takes 23 = .ok (.putfield 70, 3) := by decide +kernel
theorem dX8_takes_26 : decode cX8_takes 26 = .ok (.aload_n 0, 1) := by decide +kernel
theorem dX8_takes_27 : decode cX8_takes 27 = .ok (.getfield 7, 3) := by decide +kernel
theorem dX8_takes_30 : decode cX8_takes 30 = .ok (.bipush 30, 2) := by decide +kernel
theorem dX8_takes_32 : decode cX8_takes 32 = .ok (.bipush 10, 2) := by decide +kernel
theorem dX8_takes_34 : decode cX8_takes 34 = .ok (.iload_n 1, 1) := by decide +kernel
theorem dX8_takes_35 : decode cX8_takes 35 = .ok (.imul, 1) := by decide +kernel
theorem dX8_takes_36 : decode cX8_takes 36 = .ok (.iadd, 1) := by decide +kernel
theorem dX8_takes_37 : decode cX8_takes 37 = .ok (.aload_n 0, 1) := by decide +kernel
theorem dX8_takes_38 : decode cX8_takes 38 = .ok (.getfield 29, 3) := by decide +kernel
theorem dX8_takes_41 : decode cX8_takes 41 = .ok (.iconst 0, 1) := by decide +kernel
theorem dX8_takes_42 : decode cX8_takes 42 = .ok (.aload_n 0, 1) := by decide +kernel
theorem dX8_takes_43 : decode cX8_takes 43 = .ok (.getfield 66, 3) := by decide +kernel
theorem dX8_takes_46 : decode cX8_takes 46 = .ok (.invokestatic 73, 3) := by decide +kernel
theorem dX8_takes_49 : decode cX8_takes 49 = .ok (.aload_n 0, 1) := by decide +kernel
theorem dX8_takes_50 : decode cX8_takes 50 = .ok (.getfield 7, 3) := by decide +kernel
theorem dX8_takes_53 : decode cX8_takes 53 = .ok (.bipush 30, 2) := by decide +kernel
theorem dX8_takes_55 : decode cX8_takes 55 = .ok (.bipush 10, 2) := by decide +kernel
theorem dX8_takes_57 : decode cX8_takes 57 = .ok (.iload_n 2, 1) := by decide +kernel
theorem dX8_takes_58 : decode cX8_takes 58 = .ok (.imul, 1) := by decide +kernel
theorem dX8_takes_59 : decode cX8_takes 59 = .ok (.iadd, 1) := by decide +kernel
theorem dX8_takes_60 : decode cX8_takes 60 = .ok (.aload_n 0, 1) := by decide +kernel
theorem dX8_takes_61 : decode cX8_takes 61 = .ok (.getfield 32, 3) := by decide +kernel
theorem dX8_takes_64 : decode cX8_takes 64 = .ok (.iconst 0, 1) := by decide +kernel
theorem dX8_takes_65 : decode cX8_takes 65 = .ok (.aload_n 0, 1) := by decide +kernel
theorem dX8_takes_66 : decode cX8_takes 66 = .ok (.getfield 70, 3) := by decide +kernel
theorem dX8_takes_69 : decode cX8_takes 69 = .ok (.invokestatic 73, 3) := by decide +kernel
theorem dX8_takes_72 : decode cX8_takes 72 = .ok (.return_, 1) := by decide +kernel
theorem dX8_changeOf_0 : decode cX8_changeOf 0 = .ok (.iload_n 1, 1) := by decide +kernel
theorem dX8_changeOf_1 : decode cX8_changeOf 1 = .ok (.iload_n 2, 1) := by decide +kernel
theorem dX8_changeOf_2 : decode cX8_changeOf 2 = .ok (.if_icmp .ge 9, 3) := by decide +kernel
theorem dX8_changeOf_5 : decode cX8_changeOf 5 = .ok (.iload_n 2, 1) := by decide +kernel
theorem dX8_changeOf_6 : decode cX8_changeOf 6 = .ok (.iload_n 1, 1) := by decide +kernel
theorem dX8_changeOf_7 : decode cX8_changeOf 7 = .ok (.isub, 1) := by decide +kernel
theorem dX8_changeOf_8 : decode cX8_changeOf 8 = .ok (.goto 6, 3) := by decide +kernel
theorem dX8_changeOf_11 : decode cX8_changeOf 11 = .ok (.iload_n 1, 1) := by decide +kernel
theorem dX8_changeOf_12 : decode cX8_changeOf 12 = .ok (.iload_n 2, 1) := by decide +kernel
theorem dX8_changeOf_13 : decode cX8_changeOf 13 = .ok (.isub, 1) := by decide +kernel
theorem dX8_changeOf_14 : decode cX8_changeOf 14 = .ok (.istore_n 3, 1) := by decide +kernel
theorem dX8_changeOf_15 : decode cX8_changeOf 15 = .ok (.iload_n 3, 1) := by decide +kernel
theorem dX8_changeOf_16 : decode cX8_changeOf 16 = .ok (.aload_n 0, 1) := by decide +kernel
theorem dX8_changeOf_17 : decode cX8_changeOf 17 = .ok (.getfield 7, 3) := by decide +kernel
theorem dX8_changeOf_20 : decode cX8_changeOf 20 = .ok (.iconst 4, 1) := by decide +kernel
theorem dX8_changeOf_21 : decode cX8_changeOf 21 = .ok (.iaload, 1) := by decide +kernel
theorem dX8_changeOf_22 : decode cX8_changeOf 22 = .ok (.imul, 1) := by decide +kernel
theorem dX8_changeOf_23 : decode cX8_changeOf 23 = .ok (.iload_n 3, 1) := by decide +kernel
theorem dX8_changeOf_24 : decode cX8_changeOf 24 = .ok (.ifCond .ne 7, 3) := by decide +kernel
theorem dX8_changeOf_27 : decode cX8_changeOf 27 = .ok (.iconst 0, 1) := by decide +kernel
theorem dX8_changeOf_28 : decode cX8_changeOf 28 = .ok (.goto 9, 3) := by decide +kernel
theorem dX8_changeOf_31 : decode cX8_changeOf 31 = .ok (.aload_n 0, 1) := by decide +kernel
theorem dX8_changeOf_32 : decode cX8_changeOf 32 = .ok (.getfield 7, 3) := by decide +kernel
theorem dX8_changeOf_35 : decode cX8_changeOf 35 = .ok (.iconst 5, 1) := by decide +kernel
theorem dX8_changeOf_36 : decode cX8_changeOf 36 = .ok (.iaload, 1) := by decide +kernel
theorem dX8_changeOf_37 : decode cX8_changeOf 37 = .ok (.invokestatic 77, 3) := by decide +kernel
theorem dX8_changeOf_40 : decode cX8_changeOf 40 = .ok (.ireturn, 1) := by decide +kernel
theorem dX8_isTurned_0 : decode cX8_isTurned 0 = .ok (.iload_n 1, 1) := by decide +kernel
theorem dX8_isTurned_1 : decode cX8_isTurned 1 = .ok (.iconst 1, 1) := by decide +kernel
theorem dX8_isTurned_2 : decode cX8_isTurned 2 = .ok (.iadd, 1) := by decide +kernel
theorem dX8_isTurned_3 : decode cX8_isTurned 3 = .ok (.aload_n 0, 1) := by decide +kernel
theorem dX8_isTurned_4 : decode cX8_isTurned 4 = .ok (.getfield 66, 3) := by decide +kernel
theorem dX8_isTurned_7 : decode cX8_isTurned 7 = .ok (.if_icmp .ge 17, 3) := by decide +kernel
theorem dX8_isTurned_10 : decode cX8_isTurned 10 = .ok (.iload_n 2, 1) := by decide +kernel
theorem dX8_isTurned_11 : decode cX8_isTurned 11 = .ok (.iconst 1, 1) := by decide +kernel
theorem dX8_isTurned_12 : decode cX8_isTurned 12 = .ok (.iadd, 1) := by decide +kernel
theorem dX8_isTurned_13 : decode cX8_isTurned 13 = .ok (.aload_n 0, 1) := by decide +kernel
theorem dX8_isTurned_14 : decode cX8_isTurned 14 = .ok (.getfield 70, 3) := by decide +kernel
theorem dX8_isTurned_17 : decode cX8_isTurned 17 = .ok (.if_icmp .ge 7, 3) := by decide +kernel
theorem dX8_isTurned_20 : decode cX8_isTurned 20 = .ok (.iconst 1, 1) := by decide +kernel
theorem dX8_isTurned_21 : decode cX8_isTurned 21 = .ok (.goto 4, 3) := by decide +kernel
theorem dX8_isTurned_24 : decode cX8_isTurned 24 = .ok (.iconst 0, 1) := by decide +kernel
theorem dX8_isTurned_25 : decode cX8_isTurned 25 = .ok (.istore_n 3, 1) := by decide +kernel
theorem dX8_isTurned_26 : decode cX8_isTurned 26 = .ok (.iload_n 3, 1) := by decide +kernel
theorem dX8_isTurned_27 : decode cX8_isTurned 27 = .ok (.ifCond .eq 56, 3) := by decide +kernel
theorem dX8_isTurned_30 : decode cX8_isTurned 30 = .ok (.aload_n 0, 1) := by decide +kernel
theorem dX8_isTurned_31 : decode cX8_isTurned 31 = .ok (.getfield 29, 3) := by decide +kernel
theorem dX8_isTurned_34 : decode cX8_isTurned 34 = .ok (.iload_n 1, 1) := by decide +kernel
theorem dX8_isTurned_35 : decode cX8_isTurned 35 = .ok (.iaload, 1) := by decide +kernel
theorem dX8_isTurned_36 : decode cX8_isTurned 36 = .ok (.aload_n 0, 1) := by decide +kernel
theorem dX8_isTurned_37 : decode cX8_isTurned 37 = .ok (.getfield 32, 3) := by decide +kernel
theorem dX8_isTurned_40 : decode cX8_isTurned 40 = .ok (.iload_n 2, 1) := by decide +kernel
theorem dX8_isTurned_41 : decode cX8_isTurned 41 = .ok (.iconst 1, 1) := by decide +kernel
theorem dX8_isTurned_42 : decode cX8_isTurned 42 = .ok (.iadd, 1) := by decide +kernel
theorem dX8_isTurned_43 : decode cX8_isTurned 43 = .ok (.iaload, 1) := by decide +kernel
theorem dX8_isTurned_44 : decode cX8_isTurned 44 = .ok (.if_icmp .ne 39, 3) := by decide +kernel
theorem dX8_isTurned_47 : decode cX8_isTurned 47 = .ok (.aload_n 0, 1) := by decide +kernel
theorem dX8_isTurned_48 : decode cX8_isTurned 48 = .ok (.getfield 29, 3) := by decide +kernel
theorem dX8_isTurned_51 : decode cX8_isTurned 51 = .ok (.iload_n 1, 1) := by decide +kernel
theorem dX8_isTurned_52 : decode cX8_isTurned 52 = .ok (.iconst 1, 1) := by decide +kernel
theorem dX8_isTurned_53 : decode cX8_isTurned 53 = .ok (.iadd, 1) := by decide +kernel
theorem dX8_isTurned_54 : decode cX8_isTurned 54 = .ok (.iaload, 1) := by decide +kernel
theorem dX8_isTurned_55 : decode cX8_isTurned 55 = .ok (.aload_n 0, 1) := by decide +kernel
theorem dX8_isTurned_56 : decode cX8_isTurned 56 = .ok (.getfield 32, 3) := by decide +kernel
theorem dX8_isTurned_59 : decode cX8_isTurned 59 = .ok (.iload_n 2, 1) := by decide +kernel
theorem dX8_isTurned_60 : decode cX8_isTurned 60 = .ok (.iaload, 1) := by decide +kernel
theorem dX8_isTurned_61 : decode cX8_isTurned 61 = .ok (.if_icmp .ne 22, 3) := by decide +kernel
theorem dX8_isTurned_64 : decode cX8_isTurned 64 = .ok (.aload_n 0, 1) := by decide +kernel
theorem dX8_isTurned_65 : decode cX8_isTurned 65 = .ok (.getfield 29, 3) := by decide +kernel
theorem dX8_isTurned_68 : decode cX8_isTurned 68 = .ok (.iload_n 1, 1) := by decide +kernel
theorem dX8_isTurned_69 : decode cX8_isTurned 69 = .ok (.iaload, 1) := by decide +kernel
theorem dX8_isTurned_70 : decode cX8_isTurned 70 = .ok (.aload_n 0, 1) := by decide +kernel
theorem dX8_isTurned_71 : decode cX8_isTurned 71 = .ok (.getfield 32, 3) := by decide +kernel
theorem dX8_isTurned_74 : decode cX8_isTurned 74 = .ok (.iload_n 2, 1) := by decide +kernel
theorem dX8_isTurned_75 : decode cX8_isTurned 75 = .ok (.iaload, 1) := by decide +kernel
theorem dX8_isTurned_76 : decode cX8_isTurned 76 = .ok (.if_icmp .eq 7, 3) := by decide +kernel
theorem dX8_isTurned_79 : decode cX8_isTurned 79 = .ok (.iconst 1, 1) := by decide +kernel
theorem dX8_isTurned_80 : decode cX8_isTurned 80 = .ok (.goto 4, 3) := by decide +kernel
theorem dX8_isTurned_83 : decode cX8_isTurned 83 = .ok (.iconst 0, 1) := by decide +kernel
theorem dX8_isTurned_84 : decode cX8_isTurned 84 = .ok (.ireturn, 1) := by decide +kernel
theorem dX8_stepCost_0 : decode cX8_stepCost 0 = .ok (.iload_n 3, 1) := by decide +kernel
theorem dX8_stepCost_1 : decode cX8_stepCost 1 = .ok (.tableswitch 105 0 2 #[27, 65, 85], 27) := by decide +kernel
theorem dX8_stepCost_28 : decode cX8_stepCost 28 = .ok (.iload_n 1, 1) := by decide +kernel
theorem dX8_stepCost_29 : decode cX8_stepCost 29 = .ok (.aload_n 0, 1) := by decide +kernel
theorem dX8_stepCost_30 : decode cX8_stepCost 30 = .ok (.getfield 66, 3) := by decide +kernel
theorem dX8_stepCost_33 : decode cX8_stepCost 33 = .ok (.if_icmp .ge 30, 3) := by decide +kernel
theorem dX8_stepCost_36 : decode cX8_stepCost 36 = .ok (.iload_n 2, 1) := by decide +kernel
theorem dX8_stepCost_37 : decode cX8_stepCost 37 = .ok (.aload_n 0, 1) := by decide +kernel
end
section
theorem dX8_stepCost_38 : decode cX8_stepCost 38 = .ok (.getfield 70, 3) := by decide +kernel
theorem dX8_stepCost_41 : decode cX8_stepCost 41 = .ok (.if_icmp .ge 22, 3) := by decide +kernel
theorem dX8_stepCost_44 : decode cX8_stepCost 44 = .ok (.aload_n 0, 1) := by decide +kernel
theorem dX8_stepCost_45 : decode cX8_stepCost 45 = .ok (.aload_n 0, 1) := by decide +kernel
theorem dX8_stepCost_46 : decode cX8_stepCost 46 = .ok (.getfield 29, 3) := by decide +kernel
theorem dX8_stepCost_49 : decode cX8_stepCost 49 = .ok (.iload_n 1, 1) := by decide +kernel
theorem dX8_stepCost_50 : decode cX8_stepCost 50 = .ok (.iaload, 1) := by decide +kernel
theorem dX8_stepCost_51 : decode cX8_stepCost 51 = .ok (.aload_n 0, 1) := by decide +kernel
theorem dX8_stepCost_52 : decode cX8_stepCost 52 = .ok (.getfield 32, 3) := by decide +kernel
theorem dX8_stepCost_55 : decode cX8_stepCost 55 = .ok (.iload_n 2, 1) := by decide +kernel
theorem dX8_stepCost_56 : decode cX8_stepCost 56 = .ok (.iaload, 1) := by decide +kernel
theorem dX8_stepCost_57 : decode cX8_stepCost 57 = .ok (.invokevirtual 81, 3) := by decide +kernel
theorem dX8_stepCost_60 : decode cX8_stepCost 60 = .ok (.goto 5, 3) := by decide +kernel
theorem dX8_stepCost_63 : decode cX8_stepCost 63 = .ok (.ldc 84, 2) := by decide +kernel
theorem dX8_stepCost_65 : decode cX8_stepCost 65 = .ok (.ireturn, 1) := by decide +kernel
theorem dX8_stepCost_66 : decode cX8_stepCost 66 = .ok (.iload_n 1, 1) := by decide +kernel
theorem dX8_stepCost_67 : decode cX8_stepCost 67 = .ok (.aload_n 0, 1) := by decide +kernel
theorem dX8_stepCost_68 : decode cX8_stepCost 68 = .ok (.getfield 66, 3) := by decide +kernel
theorem dX8_stepCost_71 : decode cX8_stepCost 71 = .ok (.if_icmp .ge 12, 3) := by decide +kernel
theorem dX8_stepCost_74 : decode cX8_stepCost 74 = .ok (.aload_n 0, 1) := by decide +kernel
theorem dX8_stepCost_75 : decode cX8_stepCost 75 = .ok (.getfield 7, 3) := by decide +kernel
theorem dX8_stepCost_78 : decode cX8_stepCost 78 = .ok (.iconst 2, 1) := by decide +kernel
theorem dX8_stepCost_79 : decode cX8_stepCost 79 = .ok (.iaload, 1) := by decide +kernel
theorem dX8_stepCost_80 : decode cX8_stepCost 80 = .ok (.goto 5, 3) := by decide +kernel
theorem dX8_stepCost_83 : decode cX8_stepCost 83 = .ok (.ldc 84, 2) := by decide +kernel
theorem dX8_stepCost_85 : decode cX8_stepCost 85 = .ok (.ireturn, 1) := by decide +kernel
theorem dX8_stepCost_86 : decode cX8_stepCost 86 = .ok (.iload_n 2, 1) := by decide +kernel
theorem dX8_stepCost_87 : decode cX8_stepCost 87 = .ok (.aload_n 0, 1) := by decide +kernel
theorem dX8_stepCost_88 : decode cX8_stepCost 88 = .ok (.getfield 70, 3) := by decide +kernel
theorem dX8_stepCost_91 : decode cX8_stepCost 91 = .ok (.if_icmp .ge 12, 3) := by decide +kernel
theorem dX8_stepCost_94 : decode cX8_stepCost 94 = .ok (.aload_n 0, 1) := by decide +kernel
theorem dX8_stepCost_95 : decode cX8_stepCost 95 = .ok (.getfield 7, 3) := by decide +kernel
theorem dX8_stepCost_98 : decode cX8_stepCost 98 = .ok (.iconst 2, 1) := by decide +kernel
theorem dX8_stepCost_99 : decode cX8_stepCost 99 = .ok (.iaload, 1) := by decide +kernel
theorem dX8_stepCost_100 : decode cX8_stepCost 100 = .ok (.goto 5, 3) := by decide +kernel
theorem dX8_stepCost_103 : decode cX8_stepCost 103 = .ok (.ldc 84, 2) := by decide +kernel
theorem dX8_stepCost_105 : decode cX8_stepCost 105 = .ok (.ireturn, 1) := by decide +kernel
theorem dX8_stepCost_106 : decode cX8_stepCost 106 = .ok (.aload_n 0, 1) := by decide +kernel
theorem dX8_stepCost_107 : decode cX8_stepCost 107 = .ok (.iload_n 1, 1) := by decide +kernel
theorem dX8_stepCost_108 : decode cX8_stepCost 108 = .ok (.iload_n 2, 1) := by decide +kernel
theorem dX8_stepCost_109 : decode cX8_stepCost 109 = .ok (.invokevirtual 85, 3) := by decide +kernel
theorem dX8_stepCost_112 : decode cX8_stepCost 112 = .ok (.ifCond .eq 12, 3) := by decide +kernel
theorem dX8_stepCost_115 : decode cX8_stepCost 115 = .ok (.aload_n 0, 1) := by decide +kernel
theorem dX8_stepCost_116 : decode cX8_stepCost 116 = .ok (.getfield 7, 3) := by decide +kernel
theorem dX8_stepCost_119 : decode cX8_stepCost 119 = .ok (.iconst 3, 1) := by decide +kernel
theorem dX8_stepCost_120 : decode cX8_stepCost 120 = .ok (.iaload, 1) := by decide +kernel
theorem dX8_stepCost_121 : decode cX8_stepCost 121 = .ok (.goto 5, 3) := by decide +kernel
theorem dX8_stepCost_124 : decode cX8_stepCost 124 = .ok (.ldc 84, 2) := by decide +kernel
theorem dX8_stepCost_126 : decode cX8_stepCost 126 = .ok (.ireturn, 1) := by decide +kernel
theorem dX8_firstBy_0 : decode cX8_firstBy 0 = .ok (.iload_n 0, 1) := by decide +kernel
theorem dX8_firstBy_1 : decode cX8_firstBy 1 = .ok (.iconst 3, 1) := by decide +kernel
theorem dX8_firstBy_2 : decode cX8_firstBy 2 = .ok (.if_icmp .ne 7, 3) := by decide +kernel
theorem dX8_firstBy_5 : decode cX8_firstBy 5 = .ok (.iconst 2, 1) := by decide +kernel
theorem dX8_firstBy_6 : decode cX8_firstBy 6 = .ok (.goto 13, 3) := by decide +kernel
theorem dX8_firstBy_9 : decode cX8_firstBy 9 = .ok (.iload_n 0, 1) := by decide +kernel
theorem dX8_firstBy_10 : decode cX8_firstBy 10 = .ok (.iconst 2, 1) := by decide +kernel
theorem dX8_firstBy_11 : decode cX8_firstBy 11 = .ok (.if_icmp .ne 7, 3) := by decide +kernel
theorem dX8_firstBy_14 : decode cX8_firstBy 14 = .ok (.iconst 0, 1) := by decide +kernel
theorem dX8_firstBy_15 : decode cX8_firstBy 15 = .ok (.goto 4, 3) := by decide +kernel
theorem dX8_firstBy_18 : decode cX8_firstBy 18 = .ok (.iconst 1, 1) := by decide +kernel
theorem dX8_firstBy_19 : decode cX8_firstBy 19 = .ok (.ireturn, 1) := by decide +kernel
theorem dX8_otherBy_0 : decode cX8_otherBy 0 = .ok (.iload_n 0, 1) := by decide +kernel
theorem dX8_otherBy_1 : decode cX8_otherBy 1 = .ok (.iconst 3, 1) := by decide +kernel
theorem dX8_otherBy_2 : decode cX8_otherBy 2 = .ok (.if_icmp .ne 7, 3) := by decide +kernel
theorem dX8_otherBy_5 : decode cX8_otherBy 5 = .ok (.iconst 2, 1) := by decide +kernel
theorem dX8_otherBy_6 : decode cX8_otherBy 6 = .ok (.goto 13, 3) := by decide +kernel
theorem dX8_otherBy_9 : decode cX8_otherBy 9 = .ok (.iload_n 0, 1) := by decide +kernel
theorem dX8_otherBy_10 : decode cX8_otherBy 10 = .ok (.iconst 1, 1) := by decide +kernel
theorem dX8_otherBy_11 : decode cX8_otherBy 11 = .ok (.if_icmp .ne 7, 3) := by decide +kernel
theorem dX8_otherBy_14 : decode cX8_otherBy 14 = .ok (.iconst 0, 1) := by decide +kernel
theorem dX8_otherBy_15 : decode cX8_otherBy 15 = .ok (.goto 4, 3) := by decide +kernel
theorem dX8_otherBy_18 : decode cX8_otherBy 18 = .ok (.iconst 1, 1) := by decide +kernel
theorem dX8_otherBy_19 : decode cX8_otherBy 19 = .ok (.ireturn, 1) := by decide +kernel
theorem dX8_cellOf_0 : decode cX8_cellOf 0 = .ok (.bipush 11, 2) := by decide +kernel
theorem dX8_cellOf_2 : decode cX8_cellOf 2 = .ok (.iload_n 0, 1) := by decide +kernel
theorem dX8_cellOf_3 : decode cX8_cellOf 3 = .ok (.imul, 1) := by decide +kernel
theorem dX8_cellOf_4 : decode cX8_cellOf 4 = .ok (.iload_n 1, 1) := by decide +kernel
theorem dX8_cellOf_5 : decode cX8_cellOf 5 = .ok (.iadd, 1) := by decide +kernel
theorem dX8_cellOf_6 : decode cX8_cellOf 6 = .ok (.ireturn, 1) := by decide +kernel
theorem dX8_linesUp_0 : decode cX8_linesUp 0 = .ok (.aload_n 0, 1) := by decide +kernel
theorem dX8_linesUp_1 : decode cX8_linesUp 1 = .ok (.getfield 66, 3) := by decide +kernel
theorem dX8_linesUp_4 : decode cX8_linesUp 4 = .ok (.istore_n 1, 1) := by decide +kernel
theorem dX8_linesUp_5 : decode cX8_linesUp 5 = .ok (.iload_n 1, 1) := by decide +kernel
theorem dX8_linesUp_6 : decode cX8_linesUp 6 = .ok (.ifCond .lt 206, 3) := by decide +kernel
theorem dX8_linesUp_9 : decode cX8_linesUp 9 = .ok (.aload_n 0, 1) := by decide +kernel
theorem dX8_linesUp_10 : decode cX8_linesUp 10 = .ok (.getfield 70, 3) := by decide +kernel
theorem dX8_linesUp_13 : decode cX8_linesUp 13 = .ok (.istore_n 2, 1) := by decide +kernel
theorem dX8_linesUp_14 : decode cX8_linesUp 14 = .ok (.iload_n 2, 1) := by decide +kernel
theorem dX8_linesUp_15 : decode cX8_linesUp 15 = .ok (.ifCond .lt 191, 3) := by decide +kernel
theorem dX8_linesUp_18 : decode cX8_linesUp 18 = .ok (.iload_n 1, 1) := by decide +kernel
theorem dX8_linesUp_19 : decode cX8_linesUp 19 = .ok (.aload_n 0, 1) := by decide +kernel
theorem dX8_linesUp_20 : decode cX8_linesUp 20 = .ok (.getfield 66, 3) := by decide +kernel
theorem dX8_linesUp_23 : decode cX8_linesUp 23 = .ok (.if_icmp .ne 15, 3) := by decide +kernel
theorem dX8_linesUp_26 : decode cX8_linesUp 26 = .ok (.iload_n 2, 1) := by decide +kernel
theorem dX8_linesUp_27 : decode cX8_linesUp 27 = .ok (.aload_n 0, 1) := by decide +kernel
theorem dX8_linesUp_28 : decode cX8_linesUp 28 = .ok (.getfield 70, 3) := by decide +kernel
theorem dX8_linesUp_31 : decode cX8_linesUp 31 = .ok (.if_icmp .ne 7, 3) := by decide +kernel
theorem dX8_linesUp_34 : decode cX8_linesUp 34 = .ok (.iconst 1, 1) := by decide +kernel
theorem dX8_linesUp_35 : decode cX8_linesUp 35 = .ok (.goto 4, 3) := by decide +kernel
theorem dX8_linesUp_38 : decode cX8_linesUp 38 = .ok (.iconst 0, 1) := by decide +kernel
theorem dX8_linesUp_39 : decode cX8_linesUp 39 = .ok (.istore_n 3, 1) := by decide +kernel
theorem dX8_linesUp_40 : decode cX8_linesUp 40 = .ok (.iload_n 3, 1) := by decide +kernel
theorem dX8_linesUp_41 : decode cX8_linesUp 41 = .ok (.ifCond .eq 7, 3) := by decide +kernel
theorem dX8_linesUp_44 : decode cX8_linesUp 44 = .ok (.iconst 0, 1) := by decide +kernel
theorem dX8_linesUp_45 : decode cX8_linesUp 45 = .ok (.goto 5, 3) := by decide +kernel
theorem dX8_linesUp_48 : decode cX8_linesUp 48 = .ok (.ldc 84, 2) := by decide +kernel
theorem dX8_linesUp_50 : decode cX8_linesUp 50 = .ok (.istore 4, 2) := by decide +kernel
theorem dX8_linesUp_52 : decode cX8_linesUp 52 = .ok (.iload_n 3, 1) := by decide +kernel
theorem dX8_linesUp_53 : decode cX8_linesUp 53 = .ok (.ifCond .eq 7, 3) := by decide +kernel
theorem dX8_linesUp_56 : decode cX8_linesUp 56 = .ok (.iconst 1, 1) := by decide +kernel
theorem dX8_linesUp_57 : decode cX8_linesUp 57 = .ok (.goto 4, 3) := by decide +kernel
theorem dX8_linesUp_60 : decode cX8_linesUp 60 = .ok (.iconst 0, 1) := by decide +kernel
theorem dX8_linesUp_61 : decode cX8_linesUp 61 = .ok (.istore 5, 2) := by decide +kernel
theorem dX8_linesUp_63 : decode cX8_linesUp 63 = .ok (.iconst 0, 1) := by decide +kernel
theorem dX8_linesUp_64 : decode cX8_linesUp 64 = .ok (.istore 6, 2) := by decide +kernel
theorem dX8_linesUp_66 : decode cX8_linesUp 66 = .ok (.iload 6, 2) := by decide +kernel
theorem dX8_linesUp_68 : decode cX8_linesUp 68 = .ok (.iconst 4, 1) := by decide +kernel
theorem dX8_linesUp_69 : decode cX8_linesUp 69 = .ok (.if_icmp .ge 107, 3) := by decide +kernel
theorem dX8_linesUp_72 : decode cX8_linesUp 72 = .ok (.aload_n 0, 1) := by decide +kernel
theorem dX8_linesUp_73 : decode cX8_linesUp 73 = .ok (.iload_n 1, 1) := by decide +kernel
theorem dX8_linesUp_74 : decode cX8_linesUp 74 = .ok (.iload_n 2, 1) := by decide +kernel
theorem dX8_linesUp_75 : decode cX8_linesUp 75 = .ok (.iload 6, 2) := by decide +kernel
theorem dX8_linesUp_77 : decode cX8_linesUp 77 = .ok (.invokevirtual 89, 3) := by decide +kernel
theorem dX8_linesUp_80 : decode cX8_linesUp 80 = .ok (.istore 7, 2) := by decide +kernel
theorem dX8_linesUp_82 : decode cX8_linesUp 82 = .ok (.iload 7, 2) := by decide +kernel
theorem dX8_linesUp_84 : decode cX8_linesUp 84 = .ok (.ldc 84, 2) := by decide +kernel
theorem dX8_linesUp_86 : decode cX8_linesUp 86 = .ok (.if_icmp .ge 84, 3) := by decide +kernel
theorem dX8_linesUp_89 : decode cX8_linesUp 89 = .ok (.iload_n 1, 1) := by decide +kernel
theorem dX8_linesUp_90 : decode cX8_linesUp 90 = .ok (.iload 6, 2) := by decide +kernel
theorem dX8_linesUp_92 : decode cX8_linesUp 92 = .ok (.invokestatic 93, 3) := by decide +kernel
theorem dX8_linesUp_95 : decode cX8_linesUp 95 = .ok (.iadd, 1) := by decide +kernel
theorem dX8_linesUp_96 : decode cX8_linesUp 96 = .ok (.iload_n 2, 1) := by decide +kernel
theorem dX8_linesUp_97 : decode cX8_linesUp 97 = .ok (.iload 6, 2) := by decide +kernel
theorem dX8_linesUp_99 : decode cX8_linesUp 99 = .ok (.invokestatic 97, 3) := by decide +kernel
theorem dX8_linesUp_102 : decode cX8_linesUp 102 = .ok (.iadd, 1) := by decide +kernel
theorem dX8_linesUp_103 : decode cX8_linesUp 103 = .ok (.invokestatic 100, 3) := by decide +kernel
theorem dX8_linesUp_106 : decode cX8_linesUp 106 = .ok (.istore 8, 2) := by decide +kernel
theorem dX8_linesUp_108 : decode cX8_linesUp 108 = .ok (.iload 7, 2) := by decide +kernel
theorem dX8_linesUp_110 : decode cX8_linesUp 110 = .ok (.aload_n 0, 1) := by decide +kernel
theorem dX8_linesUp_111 : decode cX8_linesUp 111 = .ok (.getfield 35, 3) := by decide +kernel
theorem dX8_linesUp_114 : decode cX8_linesUp 114 = .ok (.iload 8, 2) := by decide +kernel
theorem dX8_linesUp_116 : decode cX8_linesUp 116 = .ok (.iaload, 1) := by decide +kernel
theorem dX8_linesUp_117 : decode cX8_linesUp 117 = .ok (.iadd, 1) := by decide +kernel
theorem dX8_linesUp_118 : decode cX8_linesUp 118 = .ok (.istore 9, 2) := by decide +kernel
theorem dX8_linesUp_120 : decode cX8_linesUp 120 = .ok (.iload 9, 2) := by decide +kernel
theorem dX8_linesUp_122 : decode cX8_linesUp 122 = .ok (.iload 4, 2) := by decide +kernel
theorem dX8_linesUp_124 : decode cX8_linesUp 124 = .ok (.if_icmp .ge 13, 3) := by decide +kernel
theorem dX8_linesUp_127 : decode cX8_linesUp 127 = .ok (.aload_n 0, 1) := by decide +kernel
theorem dX8_linesUp_128 : decode cX8_linesUp 128 = .ok (.getfield 38, 3) := by decide +kernel
theorem dX8_linesUp_131 : decode cX8_linesUp 131 = .ok (.iload 8, 2) := by decide +kernel
theorem dX8_linesUp_133 : decode cX8_linesUp 133 = .ok (.iaload, 1) := by decide +kernel
theorem dX8_linesUp_134 : decode cX8_linesUp 134 = .ok (.goto 25, 3) := by decide +kernel
theorem dX8_linesUp_137 : decode cX8_linesUp 137 = .ok (.iload 9, 2) := by decide +kernel
theorem dX8_linesUp_139 : decode cX8_linesUp 139 = .ok (.iload 4, 2) := by decide +kernel
theorem dX8_linesUp_141 : decode cX8_linesUp 141 = .ok (.if_icmp .ne 16, 3) := by decide +kernel
theorem dX8_linesUp_144 : decode cX8_linesUp 144 = .ok (.iload 5, 2) := by decide +kernel
theorem dX8_linesUp_146 : decode cX8_linesUp 146 = .ok (.aload_n 0, 1) := by decide +kernel
theorem dX8_linesUp_147 : decode cX8_linesUp 147 = .ok (.getfield 38, 3) := by decide +kernel
theorem dX8_linesUp_150 : decode cX8_linesUp 150 = .ok (.iload 8, 2) := by decide +kernel
theorem dX8_linesUp_152 : decode cX8_linesUp 152 = .ok (.iaload, 1) := by decide +kernel
theorem dX8_linesUp_153 : decode cX8_linesUp 153 = .ok (.iadd, 1) := by decide +kernel
theorem dX8_linesUp_154 : decode cX8_linesUp 154 = .ok (.goto 5, 3) := by decide +kernel
theorem dX8_linesUp_157 : decode cX8_linesUp 157 = .ok (.iload 5, 2) := by decide +kernel
theorem dX8_linesUp_159 : decode cX8_linesUp 159 = .ok (.istore 5, 2) := by decide +kernel
theorem dX8_linesUp_161 : decode cX8_linesUp 161 = .ok (.iload 9, 2) := by decide +kernel
theorem dX8_linesUp_163 : decode cX8_linesUp 163 = .ok (.iload 4, 2) := by decide +kernel
theorem dX8_linesUp_165 : decode cX8_linesUp 165 = .ok (.invokestatic 77, 3) := by decide +kernel
theorem dX8_linesUp_168 : decode cX8_linesUp 168 = .ok (.istore 4, 2) := by decide +kernel
theorem dX8_linesUp_170 : decode cX8_linesUp 170 = .ok (.iinc 6 1, 3) := by decide +kernel
theorem dX8_linesUp_173 : decode cX8_linesUp 173 = .ok (.goto (-107), 3) := by decide +kernel
theorem dX8_linesUp_176 : decode cX8_linesUp 176 = .ok (.aload_n 0, 1) := by decide +kernel
theorem dX8_linesUp_177 : decode cX8_linesUp 177 = .ok (.getfield 35, 3) := by decide +kernel
theorem dX8_linesUp_180 : decode cX8_linesUp 180 = .ok (.iload_n 1, 1) := by decide +kernel
theorem dX8_linesUp_181 : decode cX8_linesUp 181 = .ok (.iload_n 2, 1) := by decide +kernel
theorem dX8_linesUp_182 : decode cX8_linesUp 182 = .ok (.invokestatic 100, 3) := by decide +kernel
theorem dX8_linesUp_185 : decode cX8_linesUp 185 = .ok (.iload 4, 2) := by decide +kernel
theorem dX8_linesUp_187 : decode cX8_linesUp 187 = .ok (.iastore, 1) := by decide +kernel
theorem dX8_linesUp_188 : decode cX8_linesUp 188 = .ok (.aload_n 0, 1) := by decide +kernel
theorem dX8_linesUp_189 : decode cX8_linesUp 189 = .ok (.getfield 38, 3) := by decide +kernel
theorem dX8_linesUp_192 : decode cX8_linesUp 192 = .ok (.iload_n 1, 1) := by decide +kernel
theorem dX8_linesUp_193 : decode cX8_linesUp 193 = .ok (.iload_n 2, 1) := by decide +kernel
theorem dX8_linesUp_194 : decode cX8_linesUp 194 = .ok (.invokestatic 100, 3) := by decide +kernel
theorem dX8_linesUp_197 : decode cX8_linesUp 197 = .ok (.iload 5, 2) := by decide +kernel
theorem dX8_linesUp_199 : decode cX8_linesUp 199 = .ok (.iastore, 1) := by decide +kernel
theorem dX8_linesUp_200 : decode cX8_linesUp 200 = .ok (.iinc 2 (-1), 3) := by decide +kernel
theorem dX8_linesUp_203 : decode cX8_linesUp 203 = .ok (.goto (-189), 3) := by decide +kernel
theorem dX8_linesUp_206 : decode cX8_linesUp 206 = .ok (.iinc 1 (-1), 3) := by decide +kernel
theorem dX8_linesUp_209 : decode cX8_linesUp 209 = .ok (.goto (-204), 3) := by decide +kernel
theorem dX8_linesUp_212 : decode cX8_linesUp 212 = .ok (.aload_n 0, 1) := by decide +kernel
theorem dX8_linesUp_213 : decode cX8_linesUp 213 = .ok (.getfield 35, 3) := by decide +kernel
theorem dX8_linesUp_216 : decode cX8_linesUp 216 = .ok (.iconst 0, 1) := by decide +kernel
theorem dX8_linesUp_217 : decode cX8_linesUp 217 = .ok (.iaload, 1) := by decide +kernel
theorem dX8_linesUp_218 : decode cX8_linesUp 218 = .ok (.ireturn, 1) := by decide +kernel
theorem dX8_apart_0 : decode cX8_apart 0 = .ok (.aload_n 0, 1) := by decide +kernel
theorem dX8_apart_1 : decode cX8_apart 1 = .ok (.iload_n 1, 1) := by decide +kernel
theorem dX8_apart_2 : decode cX8_apart 2 = .ok (.iload_n 2, 1) := by decide +kernel
theorem dX8_apart_3 : decode cX8_apart 3 = .ok (.invokevirtual 103, 3) := by decide +kernel
theorem dX8_apart_6 : decode cX8_apart 6 = .ok (.aload_n 0, 1) := by decide +kernel
theorem dX8_apart_7 : decode cX8_apart 7 = .ok (.invokevirtual 107, 3) := by decide +kernel
theorem dX8_apart_10 : decode cX8_apart 10 = .ok (.ireturn, 1) := by decide +kernel
theorem dX8_laysWay_0 : decode cX8_laysWay 0 = .ok (.aload_n 0, 1) := by decide +kernel
theorem dX8_laysWay_1 : decode cX8_laysWay 1 = .ok (.iload_n 1, 1) := by decide +kernel
theorem dX8_laysWay_2 : decode cX8_laysWay 2 = .ok (.iload_n 2, 1) := by decide +kernel
theorem dX8_laysWay_3 : decode cX8_laysWay 3 = .ok (.invokevirtual 111, 3) := by decide +kernel
theorem dX8_laysWay_6 : decode cX8_laysWay 6 = .ok (.istore_n 3, 1) := by decide +kernel
theorem dX8_laysWay_7 : decode cX8_laysWay 7 = .ok (.iconst 0, 1) := by decide +kernel
theorem dX8_laysWay_8 : decode cX8_laysWay 8 = .ok (.istore 4, 2) := by decide +kernel
theorem dX8_laysWay_10 : decode cX8_laysWay 10 = .ok (.iconst 0, 1) := by decide +kernel
theorem dX8_laysWay_11 : decode cX8_laysWay 11 = .ok (.istore 5, 2) := by decide +kernel
theorem dX8_laysWay_13 : decode cX8_laysWay 13 = .ok (.iconst 0, 1) := by decide +kernel
theorem dX8_laysWay_14 : decode cX8_laysWay 14 = .ok (.istore 6, 2) := by decide +kernel
theorem dX8_laysWay_16 : decode cX8_laysWay 16 = .ok (.iload 4, 2) := by decide +kernel
theorem dX8_laysWay_18 : decode cX8_laysWay 18 = .ok (.aload_n 0, 1) := by decide +kernel
theorem dX8_laysWay_19 : decode cX8_laysWay 19 = .ok (.getfield 66, 3) := by decide +kernel
theorem dX8_laysWay_22 : decode cX8_laysWay 22 = .ok (.if_icmp .lt 12, 3) := by decide +kernel
theorem dX8_laysWay_25 : decode cX8_laysWay 25 = .ok (.iload 5, 2) := by decide +kernel
theorem dX8_laysWay_27 : decode cX8_laysWay 27 = .ok (.aload_n 0, 1) := by decide +kernel
theorem dX8_laysWay_28 : decode cX8_laysWay 28 = .ok (.getfield 70, 3) := by decide +kernel
theorem dX8_laysWay_31 : decode cX8_laysWay 31 = .ok (.if_icmp .ge 80, 3) := by decide +kernel
theorem dX8_laysWay_34 : decode cX8_laysWay 34 = .ok (.iconst 0, 1) := by decide +kernel
theorem dX8_laysWay_35 : decode cX8_laysWay 35 = .ok (.istore 7, 2) := by decide +kernel
theorem dX8_laysWay_37 : decode cX8_laysWay 37 = .ok (.iload 7, 2) := by decide +kernel
theorem dX8_laysWay_39 : decode cX8_laysWay 39 = .ok (.iconst 3, 1) := by decide +kernel
theorem dX8_laysWay_40 : decode cX8_laysWay 40 = .ok (.if_icmp .ge 23, 3) := by decide +kernel
theorem dX8_laysWay_43 : decode cX8_laysWay 43 = .ok (.aload_n 0, 1) := by decide +kernel
theorem dX8_laysWay_44 : decode cX8_laysWay 44 = .ok (.iload 4, 2) := by decide +kernel
theorem dX8_laysWay_46 : decode cX8_laysWay 46 = .ok (.iload 5, 2) := by decide +kernel
theorem dX8_laysWay_48 : decode cX8_laysWay 48 = .ok (.iload 7, 2) := by decide +kernel
theorem dX8_laysWay_50 : decode cX8_laysWay 50 = .ok (.iload_n 3, 1) := by decide +kernel
theorem dX8_laysWay_51 : decode cX8_laysWay 51 = .ok (.invokevirtual 114, 3) := by decide +kernel
theorem dX8_laysWay_54 : decode cX8_laysWay 54 = .ok (.ifCond .ne 9, 3) := by decide +kernel
theorem dX8_laysWay_57 : decode cX8_laysWay 57 = .ok (.iinc 7 1, 3) := by decide +kernel
theorem dX8_laysWay_60 : decode cX8_laysWay 60 = .ok (.goto (-23), 3) := by decide +kernel
theorem dX8_laysWay_63 : decode cX8_laysWay 63 = .ok (.aload_n 0, 1) := by decide +kernel
theorem dX8_laysWay_64 : decode cX8_laysWay 64 = .ok (.getfield 41, 3) := by decide +kernel
theorem dX8_laysWay_67 : decode cX8_laysWay 67 = .ok (.iload 6, 2) := by decide +kernel
theorem dX8_laysWay_69 : decode cX8_laysWay 69 = .ok (.iload 7, 2) := by decide +kernel
theorem dX8_laysWay_71 : decode cX8_laysWay 71 = .ok (.iastore, 1) := by decide +kernel
theorem dX8_laysWay_72 : decode cX8_laysWay 72 = .ok (.iinc 6 1, 3) := by decide +kernel
theorem dX8_laysWay_75 : decode cX8_laysWay 75 = .ok (.iload_n 3, 1) := by decide +kernel
theorem dX8_laysWay_76 : decode cX8_laysWay 76 = .ok (.aload_n 0, 1) := by decide +kernel
theorem dX8_laysWay_77 : decode cX8_laysWay 77 = .ok (.iload 4, 2) := by decide +kernel
theorem dX8_laysWay_79 : decode cX8_laysWay 79 = .ok (.iload 5, 2) := by decide +kernel
theorem dX8_laysWay_81 : decode cX8_laysWay 81 = .ok (.iload 7, 2) := by decide +kernel
theorem dX8_laysWay_83 : decode cX8_laysWay 83 = .ok (.invokevirtual 89, 3) := by decide +kernel
theorem dX8_laysWay_86 : decode cX8_laysWay 86 = .ok (.isub, 1) := by decide +kernel
theorem dX8_laysWay_87 : decode cX8_laysWay 87 = .ok (.istore_n 3, 1) := by decide +kernel
theorem dX8_laysWay_88 : decode cX8_laysWay 88 = .ok (.iload 4, 2) := by decide +kernel
theorem dX8_laysWay_90 : decode cX8_laysWay 90 = .ok (.iload 7, 2) := by decide +kernel
theorem dX8_laysWay_92 : decode cX8_laysWay 92 = .ok (.invokestatic 93, 3) := by decide +kernel
theorem dX8_laysWay_95 : decode cX8_laysWay 95 = .ok (.iadd, 1) := by decide +kernel
theorem dX8_laysWay_96 : decode cX8_laysWay 96 = .ok (.istore 4, 2) := by decide +kernel
theorem dX8_laysWay_98 : decode cX8_laysWay 98 = .ok (.iload 5, 2) := by decide +kernel
theorem dX8_laysWay_100 : decode cX8_laysWay 100 = .ok (.iload 7, 2) := by decide +kernel
theorem dX8_laysWay_102 : decode cX8_laysWay 102 = .ok (.invokestatic 97, 3) := by decide +kernel
theorem dX8_laysWay_105 : decode cX8_laysWay 105 = .ok (.iadd, 1) := by decide +kernel
theorem dX8_laysWay_106 : decode cX8_laysWay 106 = .ok (.istore 5, 2) := by decide +kernel
theorem dX8_laysWay_108 : decode cX8_laysWay 108 = .ok (.goto (-92), 3) := by decide +kernel
theorem dX8_laysWay_111 : decode cX8_laysWay 111 = .ok (.iload 6, 2) := by decide +kernel
theorem dX8_laysWay_113 : decode cX8_laysWay 113 = .ok (.ireturn, 1) := by decide +kernel
theorem dX8_isOfLeast_0 : decode cX8_isOfLeast 0 = .ok (.aload_n 0, 1) := by decide +kernel
theorem dX8_isOfLeast_1 : decode cX8_isOfLeast 1 = .ok (.iload_n 1, 1) := by decide +kernel
theorem dX8_isOfLeast_2 : decode cX8_isOfLeast 2 = .ok (.iload_n 2, 1) := by decide +kernel
theorem dX8_isOfLeast_3 : decode cX8_isOfLeast 3 = .ok (.iload_n 3, 1) := by decide +kernel
theorem dX8_isOfLeast_4 : decode cX8_isOfLeast 4 = .ok (.invokevirtual 89, 3) := by decide +kernel
theorem dX8_isOfLeast_7 : decode cX8_isOfLeast 7 = .ok (.istore 5, 2) := by decide +kernel
theorem dX8_isOfLeast_9 : decode cX8_isOfLeast 9 = .ok (.iload 5, 2) := by decide +kernel
theorem dX8_isOfLeast_11 : decode cX8_isOfLeast 11 = .ok (.ldc 84, 2) := by decide +kernel
theorem dX8_isOfLeast_13 : decode cX8_isOfLeast 13 = .ok (.if_icmp .ge 35, 3) := by decide +kernel
theorem dX8_isOfLeast_16 : decode cX8_isOfLeast 16 = .ok (.iload 5, 2) := by decide +kernel
theorem dX8_isOfLeast_18 : decode cX8_isOfLeast 18 = .ok (.aload_n 0, 1) := by decide +kernel
theorem dX8_isOfLeast_19 : decode cX8_isOfLeast 19 = .ok (.getfield 35, 3) := by decide +kernel
theorem dX8_isOfLeast_22 : decode cX8_isOfLeast 22 = .ok (.iload_n 1, 1) := by decide +kernel
theorem dX8_isOfLeast_23 : decode cX8_isOfLeast 23 = .ok (.iload_n 3, 1) := by decide +kernel
theorem dX8_isOfLeast_24 : decode cX8_isOfLeast 24 = .ok (.invokestatic 93, 3) := by decide +kernel
theorem dX8_isOfLeast_27 : decode cX8_isOfLeast 27 = .ok (.iadd, 1) := by decide +kernel
theorem dX8_isOfLeast_28 : decode cX8_isOfLeast 28 = .ok (.iload_n 2, 1) := by decide +kernel
theorem dX8_isOfLeast_29 : decode cX8_isOfLeast 29 = .ok (.iload_n 3, 1) := by decide +kernel
theorem dX8_isOfLeast_30 : decode cX8_isOfLeast 30 = .ok (.invokestatic 97, 3) := by decide +kernel
theorem dX8_isOfLeast_33 : decode cX8_isOfLeast 33 = .ok (.iadd, 1) := by decide +kernel
theorem dX8_isOfLeast_34 : decode cX8_isOfLeast 34 = .ok (.invokestatic 100, 3) := by decide +kernel
theorem dX8_isOfLeast_37 : decode cX8_isOfLeast 37 = .ok (.iaload, 1) := by decide +kernel
theorem dX8_isOfLeast_38 : decode cX8_isOfLeast 38 = .ok (.iadd, 1) := by decide +kernel
theorem dX8_isOfLeast_39 : decode cX8_isOfLeast 39 = .ok (.iload 4, 2) := by decide +kernel
theorem dX8_isOfLeast_41 : decode cX8_isOfLeast 41 = .ok (.if_icmp .ne 7, 3) := by decide +kernel
theorem dX8_isOfLeast_44 : decode cX8_isOfLeast 44 = .ok (.iconst 1, 1) := by decide +kernel
theorem dX8_isOfLeast_45 : decode cX8_isOfLeast 45 = .ok (.goto 4, 3) := by decide +kernel
theorem dX8_isOfLeast_48 : decode cX8_isOfLeast 48 = .ok (.iconst 0, 1) := by decide +kernel
theorem dX8_isOfLeast_49 : decode cX8_isOfLeast 49 = .ok (.ireturn, 1) := by decide +kernel
theorem dX8_commonOrder_0 : decode cX8_commonOrder 0 = .ok (.aload_n 0, 1) := by decide +kernel
theorem dX8_commonOrder_1 : decode cX8_commonOrder 1 = .ok (.iload_n 1, 1) := by decide +kernel
theorem dX8_commonOrder_2 : decode cX8_commonOrder 2 = .ok (.iload_n 2, 1) := by decide +kernel
theorem dX8_commonOrder_3 : decode cX8_commonOrder 3 = .ok (.invokevirtual 103, 3) := by decide +kernel
theorem dX8_commonOrder_6 : decode cX8_commonOrder 6 = .ok (.iconst 0, 1) := by decide +kernel
theorem dX8_commonOrder_7 : decode cX8_commonOrder 7 = .ok (.istore_n 3, 1) := by decide +kernel
theorem dX8_commonOrder_8 : decode cX8_commonOrder 8 = .ok (.iload_n 3, 1) := by decide +kernel
theorem dX8_commonOrder_9 : decode cX8_commonOrder 9 = .ok (.aload_n 0, 1) := by decide +kernel
theorem dX8_commonOrder_10 : decode cX8_commonOrder 10 = .ok (.getfield 66, 3) := by decide +kernel
theorem dX8_commonOrder_13 : decode cX8_commonOrder 13 = .ok (.if_icmp .gt 142, 3) := by decide +kernel
theorem dX8_commonOrder_16 : decode cX8_commonOrder 16 = .ok (.iconst 0, 1) := by decide +kernel
theorem dX8_commonOrder_17 : decode cX8_commonOrder 17 = .ok (.istore 4, 2) := by decide +kernel
theorem dX8_commonOrder_19 : decode cX8_commonOrder 19 = .ok (.iload 4, 2) := by decide +kernel
theorem dX8_commonOrder_21 : decode cX8_commonOrder 21 = .ok (.aload_n 0, 1) := by decide +kernel
theorem dX8_commonOrder_22 : decode cX8_commonOrder 22 = .ok (.getfield 70, 3) := by decide +kernel
theorem dX8_commonOrder_25 : decode cX8_commonOrder 25 = .ok (.if_icmp .gt 124, 3) := by decide +kernel
theorem dX8_commonOrder_28 : decode cX8_commonOrder 28 = .ok (.iconst 0, 1) := by decide +kernel
theorem dX8_commonOrder_29 : decode cX8_commonOrder 29 = .ok (.istore 5, 2) := by decide +kernel
theorem dX8_commonOrder_31 : decode cX8_commonOrder 31 = .ok (.iload_n 3, 1) := by decide +kernel
theorem dX8_commonOrder_32 : decode cX8_commonOrder 32 = .ok (.ifCond .le 98, 3) := by decide +kernel
theorem dX8_commonOrder_35 : decode cX8_commonOrder 35 = .ok (.iload 4, 2) := by decide +kernel
theorem dX8_commonOrder_37 : decode cX8_commonOrder 37 = .ok (.ifCond .le 93, 3) := by decide +kernel
theorem dX8_commonOrder_40 : decode cX8_commonOrder 40 = .ok (.aload_n 0, 1) := by decide +kernel
theorem dX8_commonOrder_41 : decode cX8_commonOrder 41 = .ok (.getfield 44, 3) := by decide +kernel
theorem dX8_commonOrder_44 : decode cX8_commonOrder 44 = .ok (.iload_n 3, 1) := by decide +kernel
theorem dX8_commonOrder_45 : decode cX8_commonOrder 45 = .ok (.iconst 1, 1) := by decide +kernel
theorem dX8_commonOrder_46 : decode cX8_commonOrder 46 = .ok (.isub, 1) := by decide +kernel
theorem dX8_commonOrder_47 : decode cX8_commonOrder 47 = .ok (.iload 4, 2) := by decide +kernel
theorem dX8_commonOrder_49 : decode cX8_commonOrder 49 = .ok (.invokestatic 100, 3) := by decide +kernel
theorem dX8_commonOrder_52 : decode cX8_commonOrder 52 = .ok (.iaload, 1) := by decide +kernel
theorem dX8_commonOrder_53 : decode cX8_commonOrder 53 = .ok (.istore 6, 2) := by decide +kernel
theorem dX8_commonOrder_55 : decode cX8_commonOrder 55 = .ok (.aload_n 0, 1) := by decide +kernel
theorem dX8_commonOrder_56 : decode cX8_commonOrder 56 = .ok (.getfield 44, 3) := by decide +kernel
theorem dX8_commonOrder_59 : decode cX8_commonOrder 59 = .ok (.iload_n 3, 1) := by decide +kernel
theorem dX8_commonOrder_60 : decode cX8_commonOrder 60 = .ok (.iload 4, 2) := by decide +kernel
theorem dX8_commonOrder_62 : decode cX8_commonOrder 62 = .ok (.iconst 1, 1) := by decide +kernel
theorem dX8_commonOrder_63 : decode cX8_commonOrder 63 = .ok (.isub, 1) := by decide +kernel
theorem dX8_commonOrder_64 : decode cX8_commonOrder 64 = .ok (.invokestatic 100, 3) := by decide +kernel
theorem dX8_commonOrder_67 : decode cX8_commonOrder 67 = .ok (.iaload, 1) := by decide +kernel
theorem dX8_commonOrder_68 : decode cX8_commonOrder 68 = .ok (.istore 7, 2) := by decide +kernel
theorem dX8_commonOrder_70 : decode cX8_commonOrder 70 = .ok (.iload 6, 2) := by decide +kernel
theorem dX8_commonOrder_72 : decode cX8_commonOrder 72 = .ok (.iload 7, 2) := by decide +kernel
theorem dX8_commonOrder_74 : decode cX8_commonOrder 74 = .ok (.if_icmp .le 8, 3) := by decide +kernel
theorem dX8_commonOrder_77 : decode cX8_commonOrder 77 = .ok (.iload 6, 2) := by decide +kernel
theorem dX8_commonOrder_79 : decode cX8_commonOrder 79 = .ok (.goto 5, 3) := by decide +kernel
theorem dX8_commonOrder_82 : decode cX8_commonOrder 82 = .ok (.iload 7, 2) := by decide +kernel
theorem dX8_commonOrder_84 : decode cX8_commonOrder 84 = .ok (.istore 5, 2) := by decide +kernel
theorem dX8_commonOrder_86 : decode cX8_commonOrder 86 = .ok (.aload_n 0, 1) := by decide +kernel
theorem dX8_commonOrder_87 : decode cX8_commonOrder 87 = .ok (.getfield 29, 3) := by decide +kernel
theorem dX8_commonOrder_90 : decode cX8_commonOrder 90 = .ok (.iload_n 3, 1) := by decide +kernel
theorem dX8_commonOrder_91 : decode cX8_commonOrder 91 = .ok (.iconst 1, 1) := by decide +kernel
theorem dX8_commonOrder_92 : decode cX8_commonOrder 92 = .ok (.isub, 1) := by decide +kernel
theorem dX8_commonOrder_93 : decode cX8_commonOrder 93 = .ok (.iaload, 1) := by decide +kernel
theorem dX8_commonOrder_94 : decode cX8_commonOrder 94 = .ok (.aload_n 0, 1) := by decide +kernel
theorem dX8_commonOrder_95 : decode cX8_commonOrder 95 = .ok (.getfield 32, 3) := by decide +kernel
theorem dX8_commonOrder_98 : decode cX8_commonOrder 98 = .ok (.iload 4, 2) := by decide +kernel
theorem dX8_commonOrder_100 : decode cX8_commonOrder 100 = .ok (.iconst 1, 1) := by decide +kernel
theorem dX8_commonOrder_101 : decode cX8_commonOrder 101 = .ok (.isub, 1) := by decide +kernel
theorem dX8_commonOrder_102 : decode cX8_commonOrder 102 = .ok (.iaload, 1) := by decide +kernel
theorem dX8_commonOrder_103 : decode cX8_commonOrder 103 = .ok (.if_icmp .ne 23, 3) := by decide +kernel
theorem dX8_commonOrder_106 : decode cX8_commonOrder 106 = .ok (.aload_n 0, 1) := by decide +kernel
theorem dX8_commonOrder_107 : decode cX8_commonOrder 107 = .ok (.getfield 44, 3) := by decide +kernel
theorem dX8_commonOrder_110 : decode cX8_commonOrder 110 = .ok (.iload_n 3, 1) := by decide +kernel
theorem dX8_commonOrder_111 : decode cX8_commonOrder 111 = .ok (.iconst 1, 1) := by decide +kernel
theorem dX8_commonOrder_112 : decode cX8_commonOrder 112 = .ok (.isub, 1) := by decide +kernel
theorem dX8_commonOrder_113 : decode cX8_commonOrder 113 = .ok (.iload 4, 2) := by decide +kernel
theorem dX8_commonOrder_115 : decode cX8_commonOrder 115 = .ok (.iconst 1, 1) := by decide +kernel
theorem dX8_commonOrder_116 : decode cX8_commonOrder 116 = .ok (.isub, 1) := by decide +kernel
theorem dX8_commonOrder_117 : decode cX8_commonOrder 117 = .ok (.invokestatic 100, 3) := by decide +kernel
theorem dX8_commonOrder_120 : decode cX8_commonOrder 120 = .ok (.iaload, 1) := by decide +kernel
theorem dX8_commonOrder_121 : decode cX8_commonOrder 121 = .ok (.iconst 1, 1) := by decide +kernel
theorem dX8_commonOrder_122 : decode cX8_commonOrder 122 = .ok (.iadd, 1) := by decide +kernel
theorem dX8_commonOrder_123 : decode cX8_commonOrder 123 = .ok (.goto 5, 3) := by decide +kernel
theorem dX8_commonOrder_126 : decode cX8_commonOrder 126 = .ok (.iload 5, 2) := by decide +kernel
theorem dX8_commonOrder_128 : decode cX8_commonOrder 128 = .ok (.istore 5, 2) := by decide +kernel
theorem dX8_commonOrder_130 : decode cX8_commonOrder 130 = .ok (.aload_n 0, 1) := by decide +kernel
theorem dX8_commonOrder_131 : decode cX8_commonOrder 131 = .ok (.getfield 44, 3) := by decide +kernel
theorem dX8_commonOrder_134 : decode cX8_commonOrder 134 = .ok (.iload_n 3, 1) := by decide +kernel
theorem dX8_commonOrder_135 : decode cX8_commonOrder 135 = .ok (.iload 4, 2) := by decide +kernel
theorem dX8_commonOrder_137 : decode cX8_commonOrder 137 = .ok (.invokestatic 100, 3) := by decide +kernel
theorem dX8_commonOrder_140 : decode cX8_commonOrder 140 = .ok (.iload 5, 2) := by decide +kernel
theorem dX8_commonOrder_142 : decode cX8_commonOrder 142 = .ok (.iastore, 1) := by decide +kernel
theorem dX8_commonOrder_143 : decode cX8_commonOrder 143 = .ok (.iinc 4 1, 3) := by decide +kernel
theorem dX8_commonOrder_146 : decode cX8_commonOrder 146 = .ok (.goto (-127), 3) := by decide +kernel
theorem dX8_commonOrder_149 : decode cX8_commonOrder 149 = .ok (.iinc 3 1, 3) := by decide +kernel
theorem dX8_commonOrder_152 : decode cX8_commonOrder 152 = .ok (.goto (-144), 3) := by decide +kernel
theorem dX8_commonOrder_155 : decode cX8_commonOrder 155 = .ok (.aload_n 0, 1) := by decide +kernel
theorem dX8_commonOrder_156 : decode cX8_commonOrder 156 = .ok (.getfield 44, 3) := by decide +kernel
theorem dX8_commonOrder_159 : decode cX8_commonOrder 159 = .ok (.aload_n 0, 1) := by decide +kernel
theorem dX8_commonOrder_160 : decode cX8_commonOrder 160 = .ok (.getfield 66, 3) := by decide +kernel
theorem dX8_commonOrder_163 : decode cX8_commonOrder 163 = .ok (.aload_n 0, 1) := by decide +kernel
theorem dX8_commonOrder_164 : decode cX8_commonOrder 164 = .ok (.getfield 70, 3) := by decide +kernel
theorem dX8_commonOrder_167 : decode cX8_commonOrder 167 = .ok (.invokestatic 100, 3) := by decide +kernel
theorem dX8_commonOrder_170 : decode cX8_commonOrder 170 = .ok (.iaload, 1) := by decide +kernel
theorem dX8_commonOrder_171 : decode cX8_commonOrder 171 = .ok (.ireturn, 1) := by decide +kernel
theorem dX8_laysFar_0 : decode cX8_laysFar 0 = .ok (.iconst 0, 1) := by decide +kernel
theorem dX8_laysFar_1 : decode cX8_laysFar 1 = .ok (.istore_n 1, 1) := by decide +kernel
theorem dX8_laysFar_2 : decode cX8_laysFar 2 = .ok (.iload_n 1, 1) := by decide +kernel
theorem dX8_laysFar_3 : decode cX8_laysFar 3 = .ok (.aload_n 0, 1) := by decide +kernel
theorem dX8_laysFar_4 : decode cX8_laysFar 4 = .ok (.getfield 7, 3) := by decide +kernel
theorem dX8_laysFar_7 : decode cX8_laysFar 7 = .ok (.iconst 0, 1) := by decide +kernel
theorem dX8_laysFar_8 : decode cX8_laysFar 8 = .ok (.iaload, 1) := by decide +kernel
theorem dX8_laysFar_9 : decode cX8_laysFar 9 = .ok (.if_icmp .ge 44, 3) := by decide +kernel
theorem dX8_laysFar_12 : decode cX8_laysFar 12 = .ok (.iconst 0, 1) := by decide +kernel
theorem dX8_laysFar_13 : decode cX8_laysFar 13 = .ok (.istore_n 2, 1) := by decide +kernel
theorem dX8_laysFar_14 : decode cX8_laysFar 14 = .ok (.iload_n 2, 1) := by decide +kernel
theorem dX8_laysFar_15 : decode cX8_laysFar 15 = .ok (.aload_n 0, 1) := by decide +kernel
theorem dX8_laysFar_16 : decode cX8_laysFar 16 = .ok (.getfield 7, 3) := by decide +kernel
theorem dX8_laysFar_19 : decode cX8_laysFar 19 = .ok (.iconst 0, 1) := by decide +kernel
theorem dX8_laysFar_20 : decode cX8_laysFar 20 = .ok (.iaload, 1) := by decide +kernel
theorem dX8_laysFar_21 : decode cX8_laysFar 21 = .ok (.if_icmp .ge 26, 3) := by decide +kernel
theorem dX8_laysFar_24 : decode cX8_laysFar 24 = .ok (.aload_n 0, 1) := by decide +kernel
theorem dX8_laysFar_25 : decode cX8_laysFar 25 = .ok (.getfield 47, 3) := by decide +kernel
theorem dX8_laysFar_28 : decode cX8_laysFar 28 = .ok (.bipush 8, 2) := by decide +kernel
theorem dX8_laysFar_30 : decode cX8_laysFar 30 = .ok (.iload_n 1, 1) := by decide +kernel
theorem dX8_laysFar_31 : decode cX8_laysFar 31 = .ok (.imul, 1) := by decide +kernel
theorem dX8_laysFar_32 : decode cX8_laysFar 32 = .ok (.iload_n 2, 1) := by decide +kernel
theorem dX8_laysFar_33 : decode cX8_laysFar 33 = .ok (.iadd, 1) := by decide +kernel
theorem dX8_laysFar_34 : decode cX8_laysFar 34 = .ok (.aload_n 0, 1) := by decide +kernel
theorem dX8_laysFar_35 : decode cX8_laysFar 35 = .ok (.iload_n 1, 1) := by decide +kernel
theorem dX8_laysFar_36 : decode cX8_laysFar 36 = .ok (.iload_n 2, 1) := by decide +kernel
theorem dX8_laysFar_37 : decode cX8_laysFar 37 = .ok (.invokevirtual 111, 3) := by decide +kernel
theorem dX8_laysFar_40 : decode cX8_laysFar 40 = .ok (.iastore, 1) := by decide +kernel
theorem dX8_laysFar_41 : decode cX8_laysFar 41 = .ok (.iinc 2 1, 3) := by decide +kernel
theorem dX8_laysFar_44 : decode cX8_laysFar 44 = .ok (.goto (-30), 3) := by decide +kernel
theorem dX8_laysFar_47 : decode cX8_laysFar 47 = .ok (.iinc 1 1, 3) := by decide +kernel
theorem dX8_laysFar_50 : decode cX8_laysFar 50 = .ok (.goto (-48), 3) := by decide +kernel
theorem dX8_laysFar_53 : decode cX8_laysFar 53 = .ok (.return_, 1) := by decide +kernel
theorem dX8_nearBy_0 : decode cX8_nearBy 0 = .ok (.iconst 0, 1) := by decide +kernel
theorem dX8_nearBy_1 : decode cX8_nearBy 1 = .ok (.istore_n 3, 1) := by decide +kernel
theorem dX8_nearBy_2 : decode cX8_nearBy 2 = .ok (.ldc 84, 2) := by decide +kernel
theorem dX8_nearBy_4 : decode cX8_nearBy 4 = .ok (.istore 4, 2) := by decide +kernel
theorem dX8_nearBy_6 : decode cX8_nearBy 6 = .ok (.iconst 0, 1) := by decide +kernel
theorem dX8_nearBy_7 : decode cX8_nearBy 7 = .ok (.istore 5, 2) := by decide +kernel
theorem dX8_nearBy_9 : decode cX8_nearBy 9 = .ok (.iconst 0, 1) := by decide +kernel
theorem dX8_nearBy_10 : decode cX8_nearBy 10 = .ok (.istore 6, 2) := by decide +kernel
theorem dX8_nearBy_12 : decode cX8_nearBy 12 = .ok (.iload 6, 2) := by decide +kernel
theorem dX8_nearBy_14 : decode cX8_nearBy 14 = .ok (.aload_n 0, 1) := by decide +kernel
theorem dX8_nearBy_15 : decode cX8_nearBy 15 = .ok (.getfield 7, 3) := by decide +kernel
theorem dX8_nearBy_18 : decode cX8_nearBy 18 = .ok (.iconst 0, 1) := by decide +kernel
theorem dX8_nearBy_19 : decode cX8_nearBy 19 = .ok (.iaload, 1) := by decide +kernel
theorem dX8_nearBy_20 : decode cX8_nearBy 20 = .ok (.if_icmp .ge 92, 3) := by decide +kernel
theorem dX8_nearBy_23 : decode cX8_nearBy 23 = .ok (.iconst 0, 1) := by decide +kernel
theorem dX8_nearBy_24 : decode cX8_nearBy 24 = .ok (.istore 7, 2) := by decide +kernel
theorem dX8_nearBy_26 : decode cX8_nearBy 26 = .ok (.iload 7, 2) := by decide +kernel
theorem dX8_nearBy_28 : decode cX8_nearBy 28 = .ok (.aload_n 0, 1) := by decide +kernel
theorem dX8_nearBy_29 : decode cX8_nearBy 29 = .ok (.getfield 7, 3) := by decide +kernel
theorem dX8_nearBy_32 : decode cX8_nearBy 32 = .ok (.iconst 0, 1) := by decide +kernel
theorem dX8_nearBy_33 : decode cX8_nearBy 33 = .ok (.iaload, 1) := by decide +kernel
theorem dX8_nearBy_34 : decode cX8_nearBy 34 = .ok (.if_icmp .ge 72, 3) := by decide +kernel
theorem dX8_nearBy_37 : decode cX8_nearBy 37 = .ok (.iload_n 1, 1) := by decide +kernel
theorem dX8_nearBy_38 : decode cX8_nearBy 38 = .ok (.iload 6, 2) := by decide +kernel
theorem dX8_nearBy_40 : decode cX8_nearBy 40 = .ok (.invokestatic 118, 3) := by decide +kernel
theorem dX8_nearBy_43 : decode cX8_nearBy 43 = .ok (.ifCond .eq 57, 3) := by decide +kernel
theorem dX8_nearBy_46 : decode cX8_nearBy 46 = .ok (.iload_n 2, 1) := by decide +kernel
theorem dX8_nearBy_47 : decode cX8_nearBy 47 = .ok (.iload 7, 2) := by decide +kernel
theorem dX8_nearBy_49 : decode cX8_nearBy 49 = .ok (.invokestatic 118, 3) := by decide +kernel
theorem dX8_nearBy_52 : decode cX8_nearBy 52 = .ok (.ifCond .eq 48, 3) := by decide +kernel
theorem dX8_nearBy_55 : decode cX8_nearBy 55 = .ok (.aload_n 0, 1) := by decide +kernel
theorem dX8_nearBy_56 : decode cX8_nearBy 56 = .ok (.getfield 47, 3) := by decide +kernel
theorem dX8_nearBy_59 : decode cX8_nearBy 59 = .ok (.bipush 8, 2) := by decide +kernel
theorem dX8_nearBy_61 : decode cX8_nearBy 61 = .ok (.iload 6, 2) := by decide +kernel
theorem dX8_nearBy_63 : decode cX8_nearBy 63 = .ok (.imul, 1) := by decide +kernel
theorem dX8_nearBy_64 : decode cX8_nearBy 64 = .ok (.iload 7, 2) := by decide +kernel
theorem dX8_nearBy_66 : decode cX8_nearBy 66 = .ok (.iadd, 1) := by decide +kernel
theorem dX8_nearBy_67 : decode cX8_nearBy 67 = .ok (.iaload, 1) := by decide +kernel
theorem dX8_nearBy_68 : decode cX8_nearBy 68 = .ok (.istore 8, 2) := by decide +kernel
theorem dX8_nearBy_70 : decode cX8_nearBy 70 = .ok (.iload_n 3, 1) := by decide +kernel
theorem dX8_nearBy_71 : decode cX8_nearBy 71 = .ok (.iload 8, 2) := by decide +kernel
theorem dX8_nearBy_73 : decode cX8_nearBy 73 = .ok (.iadd, 1) := by decide +kernel
theorem dX8_nearBy_74 : decode cX8_nearBy 74 = .ok (.istore_n 3, 1) := by decide +kernel
theorem dX8_nearBy_75 : decode cX8_nearBy 75 = .ok (.iload 8, 2) := by decide +kernel
theorem dX8_nearBy_77 : decode cX8_nearBy 77 = .ok (.iload 4, 2) := by decide +kernel
theorem dX8_nearBy_79 : decode cX8_nearBy 79 = .ok (.invokestatic 77, 3) := by decide +kernel
theorem dX8_nearBy_82 : decode cX8_nearBy 82 = .ok (.istore 4, 2) := by decide +kernel
theorem dX8_nearBy_84 : decode cX8_nearBy 84 = .ok (.iload 8, 2) := by decide +kernel
theorem dX8_nearBy_86 : decode cX8_nearBy 86 = .ok (.iload 5, 2) := by decide +kernel
theorem dX8_nearBy_88 : decode cX8_nearBy 88 = .ok (.if_icmp .le 8, 3) := by decide +kernel
theorem dX8_nearBy_91 : decode cX8_nearBy 91 = .ok (.iload 8, 2) := by decide +kernel
theorem dX8_nearBy_93 : decode cX8_nearBy 93 = .ok (.goto 5, 3) := by decide +kernel
theorem dX8_nearBy_96 : decode cX8_nearBy 96 = .ok (.iload 5, 2) := by decide +kernel
theorem dX8_nearBy_98 : decode cX8_nearBy 98 = .ok (.istore 5, 2) := by decide +kernel
theorem dX8_nearBy_100 : decode cX8_nearBy 100 = .ok (.iinc 7 1, 3) := by decide +kernel
theorem dX8_nearBy_103 : decode cX8_nearBy 103 = .ok (.goto (-77), 3) := by decide +kernel
theorem dX8_nearBy_106 : decode cX8_nearBy 106 = .ok (.iinc 6 1, 3) := by decide +kernel
theorem dX8_nearBy_109 : decode cX8_nearBy 109 = .ok (.goto (-97), 3) := by decide +kernel
theorem dX8_nearBy_112 : decode cX8_nearBy 112 = .ok (.aload_n 0, 1) := by decide +kernel
theorem dX8_nearBy_113 : decode cX8_nearBy 113 = .ok (.getfield 7, 3) := by decide +kernel
theorem dX8_nearBy_116 : decode cX8_nearBy 116 = .ok (.iconst 1, 1) := by decide +kernel
theorem dX8_nearBy_117 : decode cX8_nearBy 117 = .ok (.iaload, 1) := by decide +kernel
theorem dX8_nearBy_118 : decode cX8_nearBy 118 = .ok (.ifCond .ne 8, 3) := by decide +kernel
theorem dX8_nearBy_121 : decode cX8_nearBy 121 = .ok (.iload 4, 2) := by decide +kernel
theorem dX8_nearBy_123 : decode cX8_nearBy 123 = .ok (.goto 19, 3) := by decide +kernel
theorem dX8_nearBy_126 : decode cX8_nearBy 126 = .ok (.aload_n 0, 1) := by decide +kernel
theorem dX8_nearBy_127 : decode cX8_nearBy 127 = .ok (.getfield 7, 3) := by decide +kernel
theorem dX8_nearBy_130 : decode cX8_nearBy 130 = .ok (.iconst 1, 1) := by decide +kernel
theorem dX8_nearBy_131 : decode cX8_nearBy 131 = .ok (.iaload, 1) := by decide +kernel
theorem dX8_nearBy_132 : decode cX8_nearBy 132 = .ok (.iconst 1, 1) := by decide +kernel
theorem dX8_nearBy_133 : decode cX8_nearBy 133 = .ok (.if_icmp .ne 8, 3) := by decide +kernel
theorem dX8_nearBy_136 : decode cX8_nearBy 136 = .ok (.iload 5, 2) := by decide +kernel
theorem dX8_nearBy_138 : decode cX8_nearBy 138 = .ok (.goto 4, 3) := by decide +kernel
theorem dX8_nearBy_141 : decode cX8_nearBy 141 = .ok (.iload_n 3, 1) := by decide +kernel
theorem dX8_nearBy_142 : decode cX8_nearBy 142 = .ok (.ireturn, 1) := by decide +kernel
theorem dX8_partsOf_0 : decode cX8_partsOf 0 = .ok (.aload_n 0, 1) := by decide +kernel
theorem dX8_partsOf_1 : decode cX8_partsOf 1 = .ok (.getfield 7, 3) := by decide +kernel
theorem dX8_partsOf_4 : decode cX8_partsOf 4 = .ok (.iconst 1, 1) := by decide +kernel
theorem dX8_partsOf_5 : decode cX8_partsOf 5 = .ok (.iaload, 1) := by decide +kernel
theorem dX8_partsOf_6 : decode cX8_partsOf 6 = .ok (.iconst 2, 1) := by decide +kernel
theorem dX8_partsOf_7 : decode cX8_partsOf 7 = .ok (.if_icmp .ne 15, 3) := by decide +kernel
theorem dX8_partsOf_10 : decode cX8_partsOf 10 = .ok (.iload_n 1, 1) := by decide +kernel
theorem dX8_partsOf_11 : decode cX8_partsOf 11 = .ok (.invokestatic 121, 3) := by decide +kernel
theorem dX8_partsOf_14 : decode cX8_partsOf 14 = .ok (.iload_n 2, 1) := by decide +kernel
theorem dX8_partsOf_15 : decode cX8_partsOf 15 = .ok (.invokestatic 121, 3) := by decide +kernel
theorem dX8_partsOf_18 : decode cX8_partsOf 18 = .ok (.imul, 1) := by decide +kernel
theorem dX8_partsOf_19 : decode cX8_partsOf 19 = .ok (.goto 4, 3) := by decide +kernel
theorem dX8_partsOf_22 : decode cX8_partsOf 22 = .ok (.iconst 1, 1) := by decide +kernel
theorem dX8_partsOf_23 : decode cX8_partsOf 23 = .ok (.ireturn, 1) := by decide +kernel
theorem dX8_joins_0 : decode cX8_joins 0 = .ok (.aload_n 0, 1) := by decide +kernel
theorem dX8_joins_1 : decode cX8_joins 1 = .ok (.getfield 50, 3) := by decide +kernel
theorem dX8_joins_4 : decode cX8_joins 4 = .ok (.iload_n 1, 1) := by decide +kernel
theorem dX8_joins_5 : decode cX8_joins 5 = .ok (.dup2, 1) := by decide +kernel
theorem dX8_joins_6 : decode cX8_joins 6 = .ok (.iaload, 1) := by decide +kernel
theorem dX8_joins_7 : decode cX8_joins 7 = .ok (.aload_n 0, 1) := by decide +kernel
theorem dX8_joins_8 : decode cX8_joins 8 = .ok (.getfield 50, 3) := by decide +kernel
theorem dX8_joins_11 : decode cX8_joins 11 = .ok (.iload_n 2, 1) := by decide +kernel
theorem dX8_joins_12 : decode cX8_joins 12 = .ok (.iaload, 1) := by decide +kernel
theorem dX8_joins_13 : decode cX8_joins 13 = .ok (.ior, 1) := by decide +kernel
theorem dX8_joins_14 : decode cX8_joins 14 = .ok (.iastore, 1) := by decide +kernel
theorem dX8_joins_15 : decode cX8_joins 15 = .ok (.aload_n 0, 1) := by decide +kernel
theorem dX8_joins_16 : decode cX8_joins 16 = .ok (.dup, 1) := by decide +kernel
theorem dX8_joins_17 : decode cX8_joins 17 = .ok (.getfield 124, 3) := by decide +kernel
theorem dX8_joins_20 : decode cX8_joins 20 = .ok (.iconst 1, 1) := by decide +kernel
theorem dX8_joins_21 : decode cX8_joins 21 = .ok (.isub, 1) := by decide +kernel
theorem dX8_joins_22 : decode cX8_joins 22 = .ok (.putfield 124, 3) := by decide +kernel
theorem dX8_joins_25 : decode cX8_joins 25 = .ok (.aload_n 0, 1) := by decide +kernel
theorem dX8_joins_26 : decode cX8_joins 26 = .ok (.getfield 50, 3) := by decide +kernel
theorem dX8_joins_29 : decode cX8_joins 29 = .ok (.iload_n 2, 1) := by decide +kernel
theorem dX8_joins_30 : decode cX8_joins 30 = .ok (.iconst 1, 1) := by decide +kernel
theorem dX8_joins_31 : decode cX8_joins 31 = .ok (.iadd, 1) := by decide +kernel
theorem dX8_joins_32 : decode cX8_joins 32 = .ok (.aload_n 0, 1) := by decide +kernel
theorem dX8_joins_33 : decode cX8_joins 33 = .ok (.getfield 50, 3) := by decide +kernel
theorem dX8_joins_36 : decode cX8_joins 36 = .ok (.iload_n 2, 1) := by decide +kernel
theorem dX8_joins_37 : decode cX8_joins 37 = .ok (.aload_n 0, 1) := by decide +kernel
theorem dX8_joins_38 : decode cX8_joins 38 = .ok (.getfield 124, 3) := by decide +kernel
theorem dX8_joins_41 : decode cX8_joins 41 = .ok (.iload_n 2, 1) := by decide +kernel
theorem dX8_joins_42 : decode cX8_joins 42 = .ok (.isub, 1) := by decide +kernel
theorem dX8_joins_43 : decode cX8_joins 43 = .ok (.invokestatic 73, 3) := by decide +kernel
theorem dX8_joins_46 : decode cX8_joins 46 = .ok (.return_, 1) := by decide +kernel
theorem dX8_joinsOnce_0 : decode cX8_joinsOnce 0 = .ok (.iconst 0, 1) := by decide +kernel
theorem dX8_joinsOnce_1 : decode cX8_joinsOnce 1 = .ok (.istore_n 2, 1) := by decide +kernel
theorem dX8_joinsOnce_2 : decode cX8_joinsOnce 2 = .ok (.iconst 1, 1) := by decide +kernel
theorem dX8_joinsOnce_3 : decode cX8_joinsOnce 3 = .ok (.istore_n 3, 1) := by decide +kernel
theorem dX8_joinsOnce_4 : decode cX8_joinsOnce 4 = .ok (.iconst 0, 1) := by decide +kernel
theorem dX8_joinsOnce_5 : decode cX8_joinsOnce 5 = .ok (.istore 4, 2) := by decide +kernel
theorem dX8_joinsOnce_7 : decode cX8_joinsOnce 7 = .ok (.iload 4, 2) := by decide +kernel
theorem dX8_joinsOnce_9 : decode cX8_joinsOnce 9 = .ok (.aload_n 0, 1) := by decide +kernel
theorem dX8_joinsOnce_10 : decode cX8_joinsOnce 10 = .ok (.getfield 124, 3) := by decide +kernel
theorem dX8_joinsOnce_13 : decode cX8_joinsOnce 13 = .ok (.if_icmp .ge 117, 3) := by decide +kernel
theorem dX8_joinsOnce_16 : decode cX8_joinsOnce 16 = .ok (.iload 4, 2) := by decide +kernel
theorem dX8_joinsOnce_18 : decode cX8_joinsOnce 18 = .ok (.iconst 1, 1) := by decide +kernel
theorem dX8_joinsOnce_19 : decode cX8_joinsOnce 19 = .ok (.iadd, 1) := by decide +kernel
theorem dX8_joinsOnce_20 : decode cX8_joinsOnce 20 = .ok (.istore 5, 2) := by decide +kernel
theorem dX8_joinsOnce_22 : decode cX8_joinsOnce 22 = .ok (.iload 5, 2) := by decide +kernel
theorem dX8_joinsOnce_24 : decode cX8_joinsOnce 24 = .ok (.aload_n 0, 1) := by decide +kernel
theorem dX8_joinsOnce_25 : decode cX8_joinsOnce 25 = .ok (.getfield 124, 3) := by decide +kernel
theorem dX8_joinsOnce_28 : decode cX8_joinsOnce 28 = .ok (.if_icmp .ge 96, 3) := by decide +kernel
theorem dX8_joinsOnce_31 : decode cX8_joinsOnce 31 = .ok (.aload_n 0, 1) := by decide +kernel
theorem dX8_joinsOnce_32 : decode cX8_joinsOnce 32 = .ok (.aload_n 0, 1) := by decide +kernel
theorem dX8_joinsOnce_33 : decode cX8_joinsOnce 33 = .ok (.getfield 50, 3) := by decide +kernel
theorem dX8_joinsOnce_36 : decode cX8_joinsOnce 36 = .ok (.iload 4, 2) := by decide +kernel
theorem dX8_joinsOnce_38 : decode cX8_joinsOnce 38 = .ok (.iaload, 1) := by decide +kernel
theorem dX8_joinsOnce_39 : decode cX8_joinsOnce 39 = .ok (.aload_n 0, 1) := by decide +kernel
theorem dX8_joinsOnce_40 : decode cX8_joinsOnce 40 = .ok (.getfield 50, 3) := by decide +kernel
theorem dX8_joinsOnce_43 : decode cX8_joinsOnce 43 = .ok (.iload 5, 2) := by decide +kernel
theorem dX8_joinsOnce_45 : decode cX8_joinsOnce 45 = .ok (.iaload, 1) := by decide +kernel
theorem dX8_joinsOnce_46 : decode cX8_joinsOnce 46 = .ok (.invokevirtual 127, 3) := by decide +kernel
theorem dX8_joinsOnce_49 : decode cX8_joinsOnce 49 = .ok (.aload_n 0, 1) := by decide +kernel
theorem dX8_joinsOnce_50 : decode cX8_joinsOnce 50 = .ok (.aload_n 0, 1) := by decide +kernel
theorem dX8_joinsOnce_51 : decode cX8_joinsOnce 51 = .ok (.getfield 50, 3) := by decide +kernel
theorem dX8_joinsOnce_54 : decode cX8_joinsOnce 54 = .ok (.iload_n 2, 1) := by decide +kernel
theorem dX8_joinsOnce_55 : decode cX8_joinsOnce 55 = .ok (.iaload, 1) := by decide +kernel
theorem dX8_joinsOnce_56 : decode cX8_joinsOnce 56 = .ok (.aload_n 0, 1) := by decide +kernel
theorem dX8_joinsOnce_57 : decode cX8_joinsOnce 57 = .ok (.getfield 50, 3) := by decide +kernel
theorem dX8_joinsOnce_60 : decode cX8_joinsOnce 60 = .ok (.iload_n 3, 1) := by decide +kernel
theorem dX8_joinsOnce_61 : decode cX8_joinsOnce 61 = .ok (.iaload, 1) := by decide +kernel
theorem dX8_joinsOnce_62 : decode cX8_joinsOnce 62 = .ok (.invokevirtual 130, 3) := by decide +kernel
theorem dX8_joinsOnce_65 : decode cX8_joinsOnce 65 = .ok (.imul, 1) := by decide +kernel
theorem dX8_joinsOnce_66 : decode cX8_joinsOnce 66 = .ok (.istore 6, 2) := by decide +kernel
theorem dX8_joinsOnce_68 : decode cX8_joinsOnce 68 = .ok (.aload_n 0, 1) := by decide +kernel
theorem dX8_joinsOnce_69 : decode cX8_joinsOnce 69 = .ok (.aload_n 0, 1) := by decide +kernel
theorem dX8_joinsOnce_70 : decode cX8_joinsOnce 70 = .ok (.getfield 50, 3) := by decide +kernel
theorem dX8_joinsOnce_73 : decode cX8_joinsOnce 73 = .ok (.iload_n 2, 1) := by decide +kernel
theorem dX8_joinsOnce_74 : decode cX8_joinsOnce 74 = .ok (.iaload, 1) := by decide +kernel
theorem dX8_joinsOnce_75 : decode cX8_joinsOnce 75 = .ok (.aload_n 0, 1) := by decide +kernel
theorem dX8_joinsOnce_76 : decode cX8_joinsOnce 76 = .ok (.getfield 50, 3) := by decide +kernel
theorem dX8_joinsOnce_79 : decode cX8_joinsOnce 79 = .ok (.iload_n 3, 1) := by decide +kernel
theorem dX8_joinsOnce_80 : decode cX8_joinsOnce 80 = .ok (.iaload, 1) := by decide +kernel
theorem dX8_joinsOnce_81 : decode cX8_joinsOnce 81 = .ok (.invokevirtual 127, 3) := by decide +kernel
theorem dX8_joinsOnce_84 : decode cX8_joinsOnce 84 = .ok (.aload_n 0, 1) := by decide +kernel
theorem dX8_joinsOnce_85 : decode cX8_joinsOnce 85 = .ok (.aload_n 0, 1) := by decide +kernel
theorem dX8_joinsOnce_86 : decode cX8_joinsOnce 86 = .ok (.getfield 50, 3) := by decide +kernel
theorem dX8_joinsOnce_89 : decode cX8_joinsOnce 89 = .ok (.iload 4, 2) := by decide +kernel
theorem dX8_joinsOnce_91 : decode cX8_joinsOnce 91 = .ok (.iaload, 1) := by decide +kernel
theorem dX8_joinsOnce_92 : decode cX8_joinsOnce 92 = .ok (.aload_n 0, 1) := by decide +kernel
theorem dX8_joinsOnce_93 : decode cX8_joinsOnce 93 = .ok (.getfield 50, 3) := by decide +kernel
theorem dX8_joinsOnce_96 : decode cX8_joinsOnce 96 = .ok (.iload 5, 2) := by decide +kernel
theorem dX8_joinsOnce_98 : decode cX8_joinsOnce 98 = .ok (.iaload, 1) := by decide +kernel
theorem dX8_joinsOnce_99 : decode cX8_joinsOnce 99 = .ok (.invokevirtual 130, 3) := by decide +kernel
theorem dX8_joinsOnce_102 : decode cX8_joinsOnce 102 = .ok (.imul, 1) := by decide +kernel
theorem dX8_joinsOnce_103 : decode cX8_joinsOnce 103 = .ok (.istore 7, 2) := by decide +kernel
theorem dX8_joinsOnce_105 : decode cX8_joinsOnce 105 = .ok (.iload 6, 2) := by decide +kernel
theorem dX8_joinsOnce_107 : decode cX8_joinsOnce 107 = .ok (.iload 7, 2) := by decide +kernel
theorem dX8_joinsOnce_109 : decode cX8_joinsOnce 109 = .ok (.if_icmp .ge 9, 3) := by decide +kernel
theorem dX8_joinsOnce_112 : decode cX8_joinsOnce 112 = .ok (.iload 4, 2) := by decide +kernel
theorem dX8_joinsOnce_114 : decode cX8_joinsOnce 114 = .ok (.istore_n 2, 1) := by decide +kernel
theorem dX8_joinsOnce_115 : decode cX8_joinsOnce 115 = .ok (.iload 5, 2) := by decide +kernel
theorem dX8_joinsOnce_117 : decode cX8_joinsOnce 117 = .ok (.istore_n 3, 1) := by decide +kernel
theorem dX8_joinsOnce_118 : decode cX8_joinsOnce 118 = .ok (.iinc 5 1, 3) := by decide +kernel
theorem dX8_joinsOnce_121 : decode cX8_joinsOnce 121 = .ok (.goto (-99), 3) := by decide +kernel
theorem dX8_joinsOnce_124 : decode cX8_joinsOnce 124 = .ok (.iinc 4 1, 3) := by decide +kernel
theorem dX8_joinsOnce_127 : decode cX8_joinsOnce 127 = .ok (.goto (-120), 3) := by decide +kernel
theorem dX8_joinsOnce_130 : decode cX8_joinsOnce 130 = .ok (.aload_n 0, 1) := by decide +kernel
theorem dX8_joinsOnce_131 : decode cX8_joinsOnce 131 = .ok (.getfield 53, 3) := by decide +kernel
theorem dX8_joinsOnce_134 : decode cX8_joinsOnce 134 = .ok (.iload_n 1, 1) := by decide +kernel
theorem dX8_joinsOnce_135 : decode cX8_joinsOnce 135 = .ok (.aload_n 0, 1) := by decide +kernel
theorem dX8_joinsOnce_136 : decode cX8_joinsOnce 136 = .ok (.getfield 50, 3) := by decide +kernel
theorem dX8_joinsOnce_139 : decode cX8_joinsOnce 139 = .ok (.iload_n 2, 1) := by decide +kernel
theorem dX8_joinsOnce_140 : decode cX8_joinsOnce 140 = .ok (.iaload, 1) := by decide +kernel
theorem dX8_joinsOnce_141 : decode cX8_joinsOnce 141 = .ok (.aload_n 0, 1) := by decide +kernel
theorem dX8_joinsOnce_142 : decode cX8_joinsOnce 142 = .ok (.getfield 50, 3) := by decide +kernel
theorem dX8_joinsOnce_145 : decode cX8_joinsOnce 145 = .ok (.iload_n 3, 1) := by decide +kernel
theorem dX8_joinsOnce_146 : decode cX8_joinsOnce 146 = .ok (.iaload, 1) := by decide +kernel
theorem dX8_joinsOnce_147 : decode cX8_joinsOnce 147 = .ok (.ior, 1) := by decide +kernel
theorem dX8_joinsOnce_148 : decode cX8_joinsOnce 148 = .ok (.iastore, 1) := by decide +kernel
theorem dX8_joinsOnce_149 : decode cX8_joinsOnce 149 = .ok (.aload_n 0, 1) := by decide +kernel
theorem dX8_joinsOnce_150 : decode cX8_joinsOnce 150 = .ok (.getfield 56, 3) := by decide +kernel
theorem dX8_joinsOnce_153 : decode cX8_joinsOnce 153 = .ok (.iload_n 1, 1) := by decide +kernel
theorem dX8_joinsOnce_154 : decode cX8_joinsOnce 154 = .ok (.aload_n 0, 1) := by decide +kernel
theorem dX8_joinsOnce_155 : decode cX8_joinsOnce 155 = .ok (.getfield 50, 3) := by decide +kernel
theorem dX8_joinsOnce_158 : decode cX8_joinsOnce 158 = .ok (.iload_n 2, 1) := by decide +kernel
theorem dX8_joinsOnce_159 : decode cX8_joinsOnce 159 = .ok (.iaload, 1) := by decide +kernel
theorem dX8_joinsOnce_160 : decode cX8_joinsOnce 160 = .ok (.iastore, 1) := by decide +kernel
theorem dX8_joinsOnce_161 : decode cX8_joinsOnce 161 = .ok (.aload_n 0, 1) := by decide +kernel
theorem dX8_joinsOnce_162 : decode cX8_joinsOnce 162 = .ok (.getfield 59, 3) := by decide +kernel
theorem dX8_joinsOnce_165 : decode cX8_joinsOnce 165 = .ok (.iload_n 1, 1) := by decide +kernel
theorem dX8_joinsOnce_166 : decode cX8_joinsOnce 166 = .ok (.aload_n 0, 1) := by decide +kernel
theorem dX8_joinsOnce_167 : decode cX8_joinsOnce 167 = .ok (.aload_n 0, 1) := by decide +kernel
theorem dX8_joinsOnce_168 : decode cX8_joinsOnce 168 = .ok (.getfield 50, 3) := by decide +kernel
theorem dX8_joinsOnce_171 : decode cX8_joinsOnce 171 = .ok (.iload_n 2, 1) := by decide +kernel
theorem dX8_joinsOnce_172 : decode cX8_joinsOnce 172 = .ok (.iaload, 1) := by decide +kernel
theorem dX8_joinsOnce_173 : decode cX8_joinsOnce 173 = .ok (.aload_n 0, 1) := by decide +kernel
theorem dX8_joinsOnce_174 : decode cX8_joinsOnce 174 = .ok (.getfield 50, 3) := by decide +kernel
theorem dX8_joinsOnce_177 : decode cX8_joinsOnce 177 = .ok (.iload_n 3, 1) := by decide +kernel
theorem dX8_joinsOnce_178 : decode cX8_joinsOnce 178 = .ok (.iaload, 1) := by decide +kernel
theorem dX8_joinsOnce_179 : decode cX8_joinsOnce 179 = .ok (.invokevirtual 127, 3) := by decide +kernel
theorem dX8_joinsOnce_182 : decode cX8_joinsOnce 182 = .ok (.aload_n 0, 1) := by decide +kernel
theorem dX8_joinsOnce_183 : decode cX8_joinsOnce 183 = .ok (.aload_n 0, 1) := by decide +kernel
theorem dX8_joinsOnce_184 : decode cX8_joinsOnce 184 = .ok (.getfield 50, 3) := by decide +kernel
theorem dX8_joinsOnce_187 : decode cX8_joinsOnce 187 = .ok (.iload_n 2, 1) := by decide +kernel
theorem dX8_joinsOnce_188 : decode cX8_joinsOnce 188 = .ok (.iaload, 1) := by decide +kernel
theorem dX8_joinsOnce_189 : decode cX8_joinsOnce 189 = .ok (.aload_n 0, 1) := by decide +kernel
theorem dX8_joinsOnce_190 : decode cX8_joinsOnce 190 = .ok (.getfield 50, 3) := by decide +kernel
theorem dX8_joinsOnce_193 : decode cX8_joinsOnce 193 = .ok (.iload_n 3, 1) := by decide +kernel
theorem dX8_joinsOnce_194 : decode cX8_joinsOnce 194 = .ok (.iaload, 1) := by decide +kernel
theorem dX8_joinsOnce_195 : decode cX8_joinsOnce 195 = .ok (.invokevirtual 130, 3) := by decide +kernel
theorem dX8_joinsOnce_198 : decode cX8_joinsOnce 198 = .ok (.idiv, 1) := by decide +kernel
theorem dX8_joinsOnce_199 : decode cX8_joinsOnce 199 = .ok (.iastore, 1) := by decide +kernel
theorem dX8_joinsOnce_200 : decode cX8_joinsOnce 200 = .ok (.aload_n 0, 1) := by decide +kernel
theorem dX8_joinsOnce_201 : decode cX8_joinsOnce 201 = .ok (.iload_n 2, 1) := by decide +kernel
theorem dX8_joinsOnce_202 : decode cX8_joinsOnce 202 = .ok (.iload_n 3, 1) := by decide +kernel
theorem dX8_joinsOnce_203 : decode cX8_joinsOnce 203 = .ok (.invokevirtual 133, 3) := by decide +kernel
theorem dX8_joinsOnce_206 : decode cX8_joinsOnce 206 = .ok (.return_, 1) := by decide +kernel
theorem dX8_beginsTypes_0 : decode cX8_beginsTypes 0 = .ok (.aload_n 0, 1) := by decide +kernel
theorem dX8_beginsTypes_1 : decode cX8_beginsTypes 1 = .ok (.invokevirtual 136, 3) := by decide +kernel
theorem dX8_beginsTypes_4 : decode cX8_beginsTypes 4 = .ok (.aload_n 0, 1) := by decide +kernel
theorem dX8_beginsTypes_5 : decode cX8_beginsTypes 5 = .ok (.aload_n 0, 1) := by decide +kernel
theorem dX8_beginsTypes_6 : decode cX8_beginsTypes 6 = .ok (.getfield 7, 3) := by decide +kernel
theorem dX8_beginsTypes_9 : decode cX8_beginsTypes 9 = .ok (.iconst 0, 1) := by decide +kernel
theorem dX8_beginsTypes_10 : decode cX8_beginsTypes 10 = .ok (.iaload, 1) := by decide +kernel
theorem dX8_beginsTypes_11 : decode cX8_beginsTypes 11 = .ok (.putfield 124, 3) := by decide +kernel
theorem dX8_beginsTypes_14 : decode cX8_beginsTypes 14 = .ok (.iconst 0, 1) := by decide +kernel
theorem dX8_beginsTypes_15 : decode cX8_beginsTypes 15 = .ok (.istore_n 1, 1) := by decide +kernel
theorem dX8_beginsTypes_16 : decode cX8_beginsTypes 16 = .ok (.iload_n 1, 1) := by decide +kernel
theorem dX8_beginsTypes_17 : decode cX8_beginsTypes 17 = .ok (.aload_n 0, 1) := by decide +kernel
theorem dX8_beginsTypes_18 : decode cX8_beginsTypes 18 = .ok (.getfield 124, 3) := by decide +kernel
theorem dX8_beginsTypes_21 : decode cX8_beginsTypes 21 = .ok (.if_icmp .ge 18, 3) := by decide +kernel
theorem dX8_beginsTypes_24 : decode cX8_beginsTypes 24 = .ok (.aload_n 0, 1) := by decide +kernel
theorem dX8_beginsTypes_25 : decode cX8_beginsTypes 25 = .ok (.getfield 50, 3) := by decide +kernel
theorem dX8_beginsTypes_28 : decode cX8_beginsTypes 28 = .ok (.iload_n 1, 1) := by decide +kernel
theorem dX8_beginsTypes_29 : decode cX8_beginsTypes 29 = .ok (.iconst 1, 1) := by decide +kernel
theorem dX8_beginsTypes_30 : decode cX8_beginsTypes 30 = .ok (.iload_n 1, 1) := by decide +kernel
theorem dX8_beginsTypes_31 : decode cX8_beginsTypes 31 = .ok (.ishl, 1) := by decide +kernel
theorem dX8_beginsTypes_32 : decode cX8_beginsTypes 32 = .ok (.iastore, 1) := by decide +kernel
theorem dX8_beginsTypes_33 : decode cX8_beginsTypes 33 = .ok (.iinc 1 1, 3) := by decide +kernel
theorem dX8_beginsTypes_36 : decode cX8_beginsTypes 36 = .ok (.goto (-20), 3) := by decide +kernel
theorem dX8_beginsTypes_39 : decode cX8_beginsTypes 39 = .ok (.return_, 1) := by decide +kernel
theorem dX8_nodesMany_0 : decode cX8_nodesMany 0 = .ok (.aload_n 0, 1) := by decide +kernel
theorem dX8_nodesMany_1 : decode cX8_nodesMany 1 = .ok (.getfield 7, 3) := by decide +kernel
theorem dX8_nodesMany_4 : decode cX8_nodesMany 4 = .ok (.iconst 0, 1) := by decide +kernel
theorem dX8_nodesMany_5 : decode cX8_nodesMany 5 = .ok (.iaload, 1) := by decide +kernel
theorem dX8_nodesMany_6 : decode cX8_nodesMany 6 = .ok (.ifCond .le 14, 3) := by decide +kernel
theorem dX8_nodesMany_9 : decode cX8_nodesMany 9 = .ok (.aload_n 0, 1) := by decide +kernel
theorem dX8_nodesMany_10 : decode cX8_nodesMany 10 = .ok (.getfield 7, 3) := by decide +kernel
theorem dX8_nodesMany_13 : decode cX8_nodesMany 13 = .ok (.iconst 0, 1) := by decide +kernel
theorem dX8_nodesMany_14 : decode cX8_nodesMany 14 = .ok (.iaload, 1) := by decide +kernel
theorem dX8_nodesMany_15 : decode cX8_nodesMany 15 = .ok (.iconst 1, 1) := by decide +kernel
theorem dX8_nodesMany_16 : decode cX8_nodesMany 16 = .ok (.isub, 1) := by decide +kernel
theorem dX8_nodesMany_17 : decode cX8_nodesMany 17 = .ok (.goto 4, 3) := by decide +kernel
theorem dX8_nodesMany_20 : decode cX8_nodesMany 20 = .ok (.iconst 0, 1) := by decide +kernel
theorem dX8_nodesMany_21 : decode cX8_nodesMany 21 = .ok (.ireturn, 1) := by decide +kernel
theorem dX8_laysNodes_0 : decode cX8_laysNodes 0 = .ok (.aload_n 0, 1) := by decide +kernel
theorem dX8_laysNodes_1 : decode cX8_laysNodes 1 = .ok (.invokevirtual 139, 3) := by decide +kernel
theorem dX8_laysNodes_4 : decode cX8_laysNodes 4 = .ok (.iconst 0, 1) := by decide +kernel
theorem dX8_laysNodes_5 : decode cX8_laysNodes 5 = .ok (.istore_n 1, 1) := by decide +kernel
theorem dX8_laysNodes_6 : decode cX8_laysNodes 6 = .ok (.iload_n 1, 1) := by decide +kernel
theorem dX8_laysNodes_7 : decode cX8_laysNodes 7 = .ok (.aload_n 0, 1) := by decide +kernel
theorem dX8_laysNodes_8 : decode cX8_laysNodes 8 = .ok (.invokevirtual 142, 3) := by decide +kernel
theorem dX8_laysNodes_11 : decode cX8_laysNodes 11 = .ok (.if_icmp .ge 14, 3) := by decide +kernel
theorem dX8_laysNodes_14 : decode cX8_laysNodes 14 = .ok (.aload_n 0, 1) := by decide +kernel
theorem dX8_laysNodes_15 : decode cX8_laysNodes 15 = .ok (.iload_n 1, 1) := by decide +kernel
theorem dX8_laysNodes_16 : decode cX8_laysNodes 16 = .ok (.invokevirtual 145, 3) := by decide +kernel
theorem dX8_laysNodes_19 : decode cX8_laysNodes 19 = .ok (.iinc 1 1, 3) := by decide +kernel
theorem dX8_laysNodes_22 : decode cX8_laysNodes 22 = .ok (.goto (-16), 3) := by decide +kernel
theorem dX8_laysNodes_25 : decode cX8_laysNodes 25 = .ok (.return_, 1) := by decide +kernel
theorem dX8_middleOf_0 : decode cX8_middleOf 0 = .ok (.iconst (-1), 1) := by decide +kernel
theorem dX8_middleOf_1 : decode cX8_middleOf 1 = .ok (.istore_n 2, 1) := by decide +kernel
theorem dX8_middleOf_2 : decode cX8_middleOf 2 = .ok (.ldc 84, 2) := by decide +kernel
theorem dX8_middleOf_4 : decode cX8_middleOf 4 = .ok (.istore_n 3, 1) := by decide +kernel
theorem dX8_middleOf_5 : decode cX8_middleOf 5 = .ok (.iconst 0, 1) := by decide +kernel
theorem dX8_middleOf_6 : decode cX8_middleOf 6 = .ok (.istore 4, 2) := by decide +kernel
theorem dX8_middleOf_8 : decode cX8_middleOf 8 = .ok (.iload 4, 2) := by decide +kernel
theorem dX8_middleOf_10 : decode cX8_middleOf 10 = .ok (.aload_n 0, 1) := by decide +kernel
theorem dX8_middleOf_11 : decode cX8_middleOf 11 = .ok (.getfield 7, 3) := by decide +kernel
theorem dX8_middleOf_14 : decode cX8_middleOf 14 = .ok (.iconst 0, 1) := by decide +kernel
theorem dX8_middleOf_15 : decode cX8_middleOf 15 = .ok (.iaload, 1) := by decide +kernel
theorem dX8_middleOf_16 : decode cX8_middleOf 16 = .ok (.if_icmp .ge 84, 3) := by decide +kernel
theorem dX8_middleOf_19 : decode cX8_middleOf 19 = .ok (.iconst 0, 1) := by decide +kernel
theorem dX8_middleOf_20 : decode cX8_middleOf 20 = .ok (.istore 5, 2) := by decide +kernel
theorem dX8_middleOf_22 : decode cX8_middleOf 22 = .ok (.iconst 0, 1) := by decide +kernel
theorem dX8_middleOf_23 : decode cX8_middleOf 23 = .ok (.istore 6, 2) := by decide +kernel
theorem dX8_middleOf_25 : decode cX8_middleOf 25 = .ok (.iload 6, 2) := by decide +kernel
theorem dX8_middleOf_27 : decode cX8_middleOf 27 = .ok (.aload_n 0, 1) := by decide +kernel
theorem dX8_middleOf_28 : decode cX8_middleOf 28 = .ok (.getfield 7, 3) := by decide +kernel
theorem dX8_middleOf_31 : decode cX8_middleOf 31 = .ok (.iconst 0, 1) := by decide +kernel
theorem dX8_middleOf_32 : decode cX8_middleOf 32 = .ok (.iaload, 1) := by decide +kernel
theorem dX8_middleOf_33 : decode cX8_middleOf 33 = .ok (.if_icmp .ge 40, 3) := by decide +kernel
theorem dX8_middleOf_36 : decode cX8_middleOf 36 = .ok (.iload 5, 2) := by decide +kernel
theorem dX8_middleOf_38 : decode cX8_middleOf 38 = .ok (.iload_n 1, 1) := by decide +kernel
theorem dX8_middleOf_39 : decode cX8_middleOf 39 = .ok (.iload 6, 2) := by decide +kernel
theorem dX8_middleOf_41 : decode cX8_middleOf 41 = .ok (.invokestatic 118, 3) := by decide +kernel
theorem dX8_middleOf_44 : decode cX8_middleOf 44 = .ok (.ifCond .eq 19, 3) := by decide +kernel
theorem dX8_middleOf_47 : decode cX8_middleOf 47 = .ok (.aload_n 0, 1) := by decide +kernel
theorem dX8_middleOf_48 : decode cX8_middleOf 48 = .ok (.getfield 47, 3) := by decide +kernel
theorem dX8_middleOf_51 : decode cX8_middleOf 51 = .ok (.bipush 8, 2) := by decide +kernel
theorem dX8_middleOf_53 : decode cX8_middleOf 53 = .ok (.iload 4, 2) := by decide +kernel
theorem dX8_middleOf_55 : decode cX8_middleOf 55 = .ok (.imul, 1) := by decide +kernel
theorem dX8_middleOf_56 : decode cX8_middleOf 56 = .ok (.iload 6, 2) := by decide +kernel
theorem dX8_middleOf_58 : decode cX8_middleOf 58 = .ok (.iadd, 1) := by decide +kernel
theorem dX8_middleOf_59 : decode cX8_middleOf 59 = .ok (.iaload, 1) := by decide +kernel
theorem dX8_middleOf_60 : decode cX8_middleOf 60 = .ok (.goto 4, 3) := by decide +kernel
theorem dX8_middleOf_63 : decode cX8_middleOf 63 = .ok (.iconst 0, 1) := by decide +kernel
theorem dX8_middleOf_64 : decode cX8_middleOf 64 = .ok (.iadd, 1) := by decide +kernel
theorem dX8_middleOf_65 : decode cX8_middleOf 65 = .ok (.istore 5, 2) := by decide +kernel
theorem dX8_middleOf_67 : decode cX8_middleOf 67 = .ok (.iinc 6 1, 3) := by decide +kernel
theorem dX8_middleOf_70 : decode cX8_middleOf 70 = .ok (.goto (-45), 3) := by decide +kernel
theorem dX8_middleOf_73 : decode cX8_middleOf 73 = .ok (.iload_n 1, 1) := by decide +kernel
theorem dX8_middleOf_74 : decode cX8_middleOf 74 = .ok (.iload 4, 2) := by decide +kernel
theorem dX8_middleOf_76 : decode cX8_middleOf 76 = .ok (.invokestatic 118, 3) := by decide +kernel
theorem dX8_middleOf_79 : decode cX8_middleOf 79 = .ok (.ifCond .eq 15, 3) := by decide +kernel
theorem dX8_middleOf_82 : decode cX8_middleOf 82 = .ok (.iload 5, 2) := by decide +kernel
theorem dX8_middleOf_84 : decode cX8_middleOf 84 = .ok (.iload_n 3, 1) := by decide +kernel
theorem dX8_middleOf_85 : decode cX8_middleOf 85 = .ok (.if_icmp .ge 9, 3) := by decide +kernel
theorem dX8_middleOf_88 : decode cX8_middleOf 88 = .ok (.iload 4, 2) := by decide +kernel
theorem dX8_middleOf_90 : decode cX8_middleOf 90 = .ok (.istore_n 2, 1) := by decide +kernel
theorem dX8_middleOf_91 : decode cX8_middleOf 91 = .ok (.iload 5, 2) := by decide +kernel
theorem dX8_middleOf_93 : decode cX8_middleOf 93 = .ok (.istore_n 3, 1) := by decide +kernel
theorem dX8_middleOf_94 : decode cX8_middleOf 94 = .ok (.iinc 4 1, 3) := by decide +kernel
theorem dX8_middleOf_97 : decode cX8_middleOf 97 = .ok (.goto (-89), 3) := by decide +kernel
theorem dX8_middleOf_100 : decode cX8_middleOf 100 = .ok (.iload_n 2, 1) := by decide +kernel
theorem dX8_middleOf_101 : decode cX8_middleOf 101 = .ok (.ireturn, 1) := by decide +kernel
theorem dX8_allHave_0 : decode cX8_allHave 0 = .ok (.sipush 255, 3) := by decide +kernel
theorem dX8_allHave_3 : decode cX8_allHave 3 = .ok (.istore_n 2, 1) := by decide +kernel
theorem dX8_allHave_4 : decode cX8_allHave 4 = .ok (.iconst 0, 1) := by decide +kernel
theorem dX8_allHave_5 : decode cX8_allHave 5 = .ok (.istore_n 3, 1) := by decide +kernel
theorem dX8_allHave_6 : decode cX8_allHave 6 = .ok (.iload_n 3, 1) := by decide +kernel
theorem dX8_allHave_7 : decode cX8_allHave 7 = .ok (.aload_n 0, 1) := by decide +kernel
theorem dX8_allHave_8 : decode cX8_allHave 8 = .ok (.getfield 7, 3) := by decide +kernel
theorem dX8_allHave_11 : decode cX8_allHave 11 = .ok (.iconst 0, 1) := by decide +kernel
theorem dX8_allHave_12 : decode cX8_allHave 12 = .ok (.iaload, 1) := by decide +kernel
theorem dX8_allHave_13 : decode cX8_allHave 13 = .ok (.if_icmp .ge 74, 3) := by decide +kernel
theorem dX8_allHave_16 : decode cX8_allHave 16 = .ok (.iconst 0, 1) := by decide +kernel
theorem dX8_allHave_17 : decode cX8_allHave 17 = .ok (.istore 4, 2) := by decide +kernel
theorem dX8_allHave_19 : decode cX8_allHave 19 = .ok (.iconst 0, 1) := by decide +kernel
theorem dX8_allHave_20 : decode cX8_allHave 20 = .ok (.istore 5, 2) := by decide +kernel
theorem dX8_allHave_22 : decode cX8_allHave 22 = .ok (.iload 5, 2) := by decide +kernel
theorem dX8_allHave_24 : decode cX8_allHave 24 = .ok (.aload_n 0, 1) := by decide +kernel
theorem dX8_allHave_25 : decode cX8_allHave 25 = .ok (.getfield 7, 3) := by decide +kernel
theorem dX8_allHave_28 : decode cX8_allHave 28 = .ok (.bipush 6, 2) := by decide +kernel
theorem dX8_allHave_30 : decode cX8_allHave 30 = .ok (.iload_n 3, 1) := by decide +kernel
theorem dX8_allHave_31 : decode cX8_allHave 31 = .ok (.iadd, 1) := by decide +kernel
theorem dX8_allHave_32 : decode cX8_allHave 32 = .ok (.iaload, 1) := by decide +kernel
theorem dX8_allHave_33 : decode cX8_allHave 33 = .ok (.if_icmp .ge 31, 3) := by decide +kernel
theorem dX8_allHave_36 : decode cX8_allHave 36 = .ok (.iload 4, 2) := by decide +kernel
theorem dX8_allHave_38 : decode cX8_allHave 38 = .ok (.iconst 1, 1) := by decide +kernel
theorem dX8_allHave_39 : decode cX8_allHave 39 = .ok (.aload_n 0, 1) := by decide +kernel
theorem dX8_allHave_40 : decode cX8_allHave 40 = .ok (.getfield 7, 3) := by decide +kernel
theorem dX8_allHave_43 : decode cX8_allHave 43 = .ok (.bipush 30, 2) := by decide +kernel
theorem dX8_allHave_45 : decode cX8_allHave 45 = .ok (.bipush 10, 2) := by decide +kernel
theorem dX8_allHave_47 : decode cX8_allHave 47 = .ok (.iload_n 3, 1) := by decide +kernel
theorem dX8_allHave_48 : decode cX8_allHave 48 = .ok (.imul, 1) := by decide +kernel
theorem dX8_allHave_49 : decode cX8_allHave 49 = .ok (.iadd, 1) := by decide +kernel
theorem dX8_allHave_50 : decode cX8_allHave 50 = .ok (.iload 5, 2) := by decide +kernel
theorem dX8_allHave_52 : decode cX8_allHave 52 = .ok (.iadd, 1) := by decide +kernel
theorem dX8_allHave_53 : decode cX8_allHave 53 = .ok (.iaload, 1) := by decide +kernel
theorem dX8_allHave_54 : decode cX8_allHave 54 = .ok (.ishl, 1) := by decide +kernel
theorem dX8_allHave_55 : decode cX8_allHave 55 = .ok (.ior, 1) := by decide +kernel
theorem dX8_allHave_56 : decode cX8_allHave 56 = .ok (.istore 4, 2) := by decide +kernel
theorem dX8_allHave_58 : decode cX8_allHave 58 = .ok (.iinc 5 1, 3) := by decide +kernel
theorem dX8_allHave_61 : decode cX8_allHave 61 = .ok (.goto (-39), 3) := by decide +kernel
theorem dX8_allHave_64 : decode cX8_allHave 64 = .ok (.iload_n 1, 1) := by decide +kernel
theorem dX8_allHave_65 : decode cX8_allHave 65 = .ok (.iload_n 3, 1) := by decide +kernel
theorem dX8_allHave_66 : decode cX8_allHave 66 = .ok (.invokestatic 118, 3) := by decide +kernel
theorem dX8_allHave_69 : decode cX8_allHave 69 = .ok (.ifCond .eq 10, 3) := by decide +kernel
theorem dX8_allHave_72 : decode cX8_allHave 72 = .ok (.iload_n 2, 1) := by decide +kernel
theorem dX8_allHave_73 : decode cX8_allHave 73 = .ok (.iload 4, 2) := by decide +kernel
theorem dX8_allHave_75 : decode cX8_allHave 75 = .ok (.iand, 1) := by decide +kernel
theorem dX8_allHave_76 : decode cX8_allHave 76 = .ok (.goto 4, 3) := by decide +kernel
theorem dX8_allHave_79 : decode cX8_allHave 79 = .ok (.iload_n 2, 1) := by decide +kernel
theorem dX8_allHave_80 : decode cX8_allHave 80 = .ok (.istore_n 2, 1) := by decide +kernel
theorem dX8_allHave_81 : decode cX8_allHave 81 = .ok (.iinc 3 1, 3) := by decide +kernel
theorem dX8_allHave_84 : decode cX8_allHave 84 = .ok (.goto (-78), 3) := by decide +kernel
theorem dX8_allHave_87 : decode cX8_allHave 87 = .ok (.iload_n 2, 1) := by decide +kernel
theorem dX8_allHave_88 : decode cX8_allHave 88 = .ok (.ireturn, 1) := by decide +kernel
theorem dX8_likeTyped_0 : decode cX8_likeTyped 0 = .ok (.iconst (-1), 1) := by decide +kernel
theorem dX8_likeTyped_1 : decode cX8_likeTyped 1 = .ok (.istore_n 1, 1) := by decide +kernel
theorem dX8_likeTyped_2 : decode cX8_likeTyped 2 = .ok (.ldc 84, 2) := by decide +kernel
theorem dX8_likeTyped_4 : decode cX8_likeTyped 4 = .ok (.istore_n 2, 1) := by decide +kernel
theorem dX8_likeTyped_5 : decode cX8_likeTyped 5 = .ok (.iconst 0, 1) := by decide +kernel
theorem dX8_likeTyped_6 : decode cX8_likeTyped 6 = .ok (.istore_n 3, 1) := by decide +kernel
theorem dX8_likeTyped_7 : decode cX8_likeTyped 7 = .ok (.iload_n 3, 1) := by decide +kernel
theorem dX8_likeTyped_8 : decode cX8_likeTyped 8 = .ok (.aload_n 0, 1) := by decide +kernel
theorem dX8_likeTyped_9 : decode cX8_likeTyped 9 = .ok (.getfield 7, 3) := by decide +kernel
theorem dX8_likeTyped_12 : decode cX8_likeTyped 12 = .ok (.iconst 0, 1) := by decide +kernel
theorem dX8_likeTyped_13 : decode cX8_likeTyped 13 = .ok (.iaload, 1) := by decide +kernel
theorem dX8_likeTyped_14 : decode cX8_likeTyped 14 = .ok (.if_icmp .ge 72, 3) := by decide +kernel
theorem dX8_likeTyped_17 : decode cX8_likeTyped 17 = .ok (.aload_n 0, 1) := by decide +kernel
theorem dX8_likeTyped_18 : decode cX8_likeTyped 18 = .ok (.getfield 149, 3) := by decide +kernel
theorem dX8_likeTyped_21 : decode cX8_likeTyped 21 = .ok (.ifCond .le 65, 3) := by decide +kernel
theorem dX8_likeTyped_24 : decode cX8_likeTyped 24 = .ok (.aload_n 0, 1) := by decide +kernel
theorem dX8_likeTyped_25 : decode cX8_likeTyped 25 = .ok (.iload_n 3, 1) := by decide +kernel
theorem dX8_likeTyped_26 : decode cX8_likeTyped 26 = .ok (.iload_n 3, 1) := by decide +kernel
theorem dX8_likeTyped_27 : decode cX8_likeTyped 27 = .ok (.invokevirtual 103, 3) := by decide +kernel
theorem dX8_likeTyped_30 : decode cX8_likeTyped 30 = .ok (.aload_n 0, 1) := by decide +kernel
theorem dX8_likeTyped_31 : decode cX8_likeTyped 31 = .ok (.aload_n 0, 1) := by decide +kernel
theorem dX8_likeTyped_32 : decode cX8_likeTyped 32 = .ok (.getfield 149, 3) := by decide +kernel
theorem dX8_likeTyped_35 : decode cX8_likeTyped 35 = .ok (.putfield 70, 3) := by decide +kernel
theorem dX8_likeTyped_38 : decode cX8_likeTyped 38 = .ok (.aload_n 0, 1) := by decide +kernel
theorem dX8_likeTyped_39 : decode cX8_likeTyped 39 = .ok (.getfield 23, 3) := by decide +kernel
theorem dX8_likeTyped_42 : decode cX8_likeTyped 42 = .ok (.iconst 0, 1) := by decide +kernel
theorem dX8_likeTyped_43 : decode cX8_likeTyped 43 = .ok (.aload_n 0, 1) := by decide +kernel
theorem dX8_likeTyped_44 : decode cX8_likeTyped 44 = .ok (.getfield 32, 3) := by decide +kernel
theorem dX8_likeTyped_47 : decode cX8_likeTyped 47 = .ok (.iconst 0, 1) := by decide +kernel
theorem dX8_likeTyped_48 : decode cX8_likeTyped 48 = .ok (.aload_n 0, 1) := by decide +kernel
theorem dX8_likeTyped_49 : decode cX8_likeTyped 49 = .ok (.getfield 149, 3) := by decide +kernel
theorem dX8_likeTyped_52 : decode cX8_likeTyped 52 = .ok (.invokestatic 73, 3) := by decide +kernel
theorem dX8_likeTyped_55 : decode cX8_likeTyped 55 = .ok (.aload_n 0, 1) := by decide +kernel
theorem dX8_likeTyped_56 : decode cX8_likeTyped 56 = .ok (.invokevirtual 107, 3) := by decide +kernel
theorem dX8_likeTyped_59 : decode cX8_likeTyped 59 = .ok (.istore 4, 2) := by decide +kernel
theorem dX8_likeTyped_61 : decode cX8_likeTyped 61 = .ok (.iload 4, 2) := by decide +kernel
theorem dX8_likeTyped_63 : decode cX8_likeTyped 63 = .ok (.iload_n 2, 1) := by decide +kernel
theorem dX8_likeTyped_64 : decode cX8_likeTyped 64 = .ok (.if_icmp .ge 7, 3) := by decide +kernel
theorem dX8_likeTyped_67 : decode cX8_likeTyped 67 = .ok (.iload_n 3, 1) := by decide +kernel
theorem dX8_likeTyped_68 : decode cX8_likeTyped 68 = .ok (.goto 4, 3) := by decide +kernel
theorem dX8_likeTyped_71 : decode cX8_likeTyped 71 = .ok (.iload_n 1, 1) := by decide +kernel
theorem dX8_likeTyped_72 : decode cX8_likeTyped 72 = .ok (.istore_n 1, 1) := by decide +kernel
theorem dX8_likeTyped_73 : decode cX8_likeTyped 73 = .ok (.iload 4, 2) := by decide +kernel
theorem dX8_likeTyped_75 : decode cX8_likeTyped 75 = .ok (.iload_n 2, 1) := by decide +kernel
theorem dX8_likeTyped_76 : decode cX8_likeTyped 76 = .ok (.invokestatic 77, 3) := by decide +kernel
theorem dX8_likeTyped_79 : decode cX8_likeTyped 79 = .ok (.istore_n 2, 1) := by decide +kernel
theorem dX8_likeTyped_80 : decode cX8_likeTyped 80 = .ok (.iinc 3 1, 3) := by decide +kernel
theorem dX8_likeTyped_83 : decode cX8_likeTyped 83 = .ok (.goto (-76), 3) := by decide +kernel
theorem dX8_likeTyped_86 : decode cX8_likeTyped 86 = .ok (.iload_n 1, 1) := by decide +kernel
theorem dX8_likeTyped_87 : decode cX8_likeTyped 87 = .ok (.ireturn, 1) := by decide +kernel
theorem dX8_hangs_0 : decode cX8_hangs 0 = .ok (.iload_n 1, 1) := by decide +kernel
theorem dX8_hangs_1 : decode cX8_hangs 1 = .ok (.iload_n 1, 1) := by decide +kernel
theorem dX8_hangs_2 : decode cX8_hangs 2 = .ok (.ineg, 1) := by decide +kernel
theorem dX8_hangs_3 : decode cX8_hangs 3 = .ok (.iand, 1) := by decide +kernel
theorem dX8_hangs_4 : decode cX8_hangs 4 = .ok (.istore_n 2, 1) := by decide +kernel
theorem dX8_hangs_5 : decode cX8_hangs 5 = .ok (.iconst 0, 1) := by decide +kernel
theorem dX8_hangs_6 : decode cX8_hangs 6 = .ok (.istore_n 3, 1) := by decide +kernel
theorem dX8_hangs_7 : decode cX8_hangs 7 = .ok (.iload_n 3, 1) := by decide +kernel
theorem dX8_hangs_8 : decode cX8_hangs 8 = .ok (.bipush 8, 2) := by decide +kernel
theorem dX8_hangs_10 : decode cX8_hangs 10 = .ok (.if_icmp .ge 53, 3) := by decide +kernel
theorem dX8_hangs_13 : decode cX8_hangs 13 = .ok (.iconst 0, 1) := by decide +kernel
theorem dX8_hangs_14 : decode cX8_hangs 14 = .ok (.istore 4, 2) := by decide +kernel
theorem dX8_hangs_16 : decode cX8_hangs 16 = .ok (.iload 4, 2) := by decide +kernel
theorem dX8_hangs_18 : decode cX8_hangs 18 = .ok (.bipush 8, 2) := by decide +kernel
theorem dX8_hangs_20 : decode cX8_hangs 20 = .ok (.if_icmp .ge 37, 3) := by decide +kernel
theorem dX8_hangs_23 : decode cX8_hangs 23 = .ok (.iload_n 2, 1) := by decide +kernel
theorem dX8_hangs_24 : decode cX8_hangs 24 = .ok (.iload_n 2, 1) := by decide +kernel
theorem dX8_hangs_25 : decode cX8_hangs 25 = .ok (.iload 4, 2) := by decide +kernel
theorem dX8_hangs_27 : decode cX8_hangs 27 = .ok (.invokestatic 118, 3) := by decide +kernel
theorem dX8_hangs_30 : decode cX8_hangs 30 = .ok (.ifCond .eq 18, 3) := by decide +kernel
theorem dX8_hangs_33 : decode cX8_hangs 33 = .ok (.aload_n 0, 1) := by decide +kernel
theorem dX8_hangs_34 : decode cX8_hangs 34 = .ok (.getfield 7, 3) := by decide +kernel
theorem dX8_hangs_37 : decode cX8_hangs 37 = .ok (.bipush 22, 2) := by decide +kernel
theorem dX8_hangs_39 : decode cX8_hangs 39 = .ok (.iload 4, 2) := by decide +kernel
theorem dX8_hangs_41 : decode cX8_hangs 41 = .ok (.iadd, 1) := by decide +kernel
theorem dX8_hangs_42 : decode cX8_hangs 42 = .ok (.iaload, 1) := by decide +kernel
theorem dX8_hangs_43 : decode cX8_hangs 43 = .ok (.iload_n 1, 1) := by decide +kernel
theorem dX8_hangs_44 : decode cX8_hangs 44 = .ok (.iand, 1) := by decide +kernel
theorem dX8_hangs_45 : decode cX8_hangs 45 = .ok (.goto 4, 3) := by decide +kernel
theorem dX8_hangs_48 : decode cX8_hangs 48 = .ok (.iconst 0, 1) := by decide +kernel
theorem dX8_hangs_49 : decode cX8_hangs 49 = .ok (.ior, 1) := by decide +kernel
theorem dX8_hangs_50 : decode cX8_hangs 50 = .ok (.istore_n 2, 1) := by decide +kernel
theorem dX8_hangs_51 : decode cX8_hangs 51 = .ok (.iinc 4 1, 3) := by decide +kernel
theorem dX8_hangs_54 : decode cX8_hangs 54 = .ok (.goto (-38), 3) := by decide +kernel
theorem dX8_hangs_57 : decode cX8_hangs 57 = .ok (.iinc 3 1, 3) := by decide +kernel
theorem dX8_hangs_60 : decode cX8_hangs 60 = .ok (.goto (-53), 3) := by decide +kernel
theorem dX8_hangs_63 : decode cX8_hangs 63 = .ok (.iload_n 2, 1) := by decide +kernel
theorem dX8_hangs_64 : decode cX8_hangs 64 = .ok (.iload_n 1, 1) := by decide +kernel
theorem dX8_hangs_65 : decode cX8_hangs 65 = .ok (.if_icmp .ne 7, 3) := by decide +kernel
theorem dX8_hangs_68 : decode cX8_hangs 68 = .ok (.iconst 1, 1) := by decide +kernel
theorem dX8_hangs_69 : decode cX8_hangs 69 = .ok (.goto 4, 3) := by decide +kernel
theorem dX8_hangs_72 : decode cX8_hangs 72 = .ok (.iconst 0, 1) := by decide +kernel
theorem dX8_hangs_73 : decode cX8_hangs 73 = .ok (.ireturn, 1) := by decide +kernel
theorem dX8_over_0 : decode cX8_over 0 = .ok (.iconst (-1), 1) := by decide +kernel
theorem dX8_over_1 : decode cX8_over 1 = .ok (.istore_n 2, 1) := by decide +kernel
theorem dX8_over_2 : decode cX8_over 2 = .ok (.iconst 0, 1) := by decide +kernel
theorem dX8_over_3 : decode cX8_over 3 = .ok (.istore_n 3, 1) := by decide +kernel
theorem dX8_over_4 : decode cX8_over 4 = .ok (.iload_n 3, 1) := by decide +kernel
theorem dX8_over_5 : decode cX8_over 5 = .ok (.sipush 256, 3) := by decide +kernel
theorem dX8_over_8 : decode cX8_over 8 = .ok (.if_icmp .ge 42, 3) := by decide +kernel
theorem dX8_over_11 : decode cX8_over 11 = .ok (.iload_n 3, 1) := by decide +kernel
theorem dX8_over_12 : decode cX8_over 12 = .ok (.iload_n 1, 1) := by decide +kernel
theorem dX8_over_13 : decode cX8_over 13 = .ok (.iand, 1) := by decide +kernel
theorem dX8_over_14 : decode cX8_over 14 = .ok (.iload_n 1, 1) := by decide +kernel
theorem dX8_over_15 : decode cX8_over 15 = .ok (.if_icmp .ne 29, 3) := by decide +kernel
theorem dX8_over_18 : decode cX8_over 18 = .ok (.aload_n 0, 1) := by decide +kernel
theorem dX8_over_19 : decode cX8_over 19 = .ok (.iload_n 3, 1) := by decide +kernel
theorem dX8_over_20 : decode cX8_over 20 = .ok (.invokevirtual 152, 3) := by decide +kernel
theorem dX8_over_23 : decode cX8_over 23 = .ok (.ifCond .eq 21, 3) := by decide +kernel
theorem dX8_over_26 : decode cX8_over 26 = .ok (.iload_n 2, 1) := by decide +kernel
theorem dX8_over_27 : decode cX8_over 27 = .ok (.iconst (-1), 1) := by decide +kernel
theorem dX8_over_28 : decode cX8_over 28 = .ok (.if_icmp .eq 14, 3) := by decide +kernel
theorem dX8_over_31 : decode cX8_over 31 = .ok (.iload_n 3, 1) := by decide +kernel
theorem dX8_over_32 : decode cX8_over 32 = .ok (.invokestatic 121, 3) := by decide +kernel
theorem dX8_over_35 : decode cX8_over 35 = .ok (.iload_n 2, 1) := by decide +kernel
theorem dX8_over_36 : decode cX8_over 36 = .ok (.invokestatic 121, 3) := by decide +kernel
theorem dX8_over_39 : decode cX8_over 39 = .ok (.if_icmp .ge 5, 3) := by decide +kernel
theorem dX8_over_42 : decode cX8_over 42 = .ok (.iload_n 3, 1) := by decide +kernel
theorem dX8_over_43 : decode cX8_over 43 = .ok (.istore_n 2, 1) := by decide +kernel
theorem dX8_over_44 : decode cX8_over 44 = .ok (.iinc 3 1, 3) := by decide +kernel
theorem dX8_over_47 : decode cX8_over 47 = .ok (.goto (-43), 3) := by decide +kernel
theorem dX8_over_50 : decode cX8_over 50 = .ok (.iload_n 2, 1) := by decide +kernel
theorem dX8_over_51 : decode cX8_over 51 = .ok (.ireturn, 1) := by decide +kernel
theorem dX8_wanders_0 : decode cX8_wanders 0 = .ok (.aload_n 0, 1) := by decide +kernel
theorem dX8_wanders_1 : decode cX8_wanders 1 = .ok (.iload_n 1, 1) := by decide +kernel
theorem dX8_wanders_2 : decode cX8_wanders 2 = .ok (.invokevirtual 156, 3) := by decide +kernel
theorem dX8_wanders_5 : decode cX8_wanders 5 = .ok (.istore_n 2, 1) := by decide +kernel
theorem dX8_wanders_6 : decode cX8_wanders 6 = .ok (.iload_n 2, 1) := by decide +kernel
theorem dX8_wanders_7 : decode cX8_wanders 7 = .ok (.iconst (-1), 1) := by decide +kernel
theorem dX8_wanders_8 : decode cX8_wanders 8 = .ok (.if_icmp .ne 7, 3) := by decide +kernel
theorem dX8_wanders_11 : decode cX8_wanders 11 = .ok (.iconst (-1), 1) := by decide +kernel
theorem dX8_wanders_12 : decode cX8_wanders 12 = .ok (.goto 17, 3) := by decide +kernel
theorem dX8_wanders_15 : decode cX8_wanders 15 = .ok (.iload_n 2, 1) := by decide +kernel
theorem dX8_wanders_16 : decode cX8_wanders 16 = .ok (.ifCond .ne 7, 3) := by decide +kernel
theorem dX8_wanders_19 : decode cX8_wanders 19 = .ok (.iconst 0, 1) := by decide +kernel
theorem dX8_wanders_20 : decode cX8_wanders 20 = .ok (.goto 9, 3) := by decide +kernel
theorem dX8_wanders_23 : decode cX8_wanders 23 = .ok (.iload_n 2, 1) := by decide +kernel
theorem dX8_wanders_24 : decode cX8_wanders 24 = .ok (.invokestatic 121, 3) := by decide +kernel
theorem dX8_wanders_27 : decode cX8_wanders 27 = .ok (.iconst 1, 1) := by decide +kernel
theorem dX8_wanders_28 : decode cX8_wanders 28 = .ok (.isub, 1) := by decide +kernel
theorem dX8_wanders_29 : decode cX8_wanders 29 = .ok (.ireturn, 1) := by decide +kernel
theorem dX8_feed_0 : decode cX8_feed 0 = .ok (.iload_n 1, 1) := by decide +kernel
theorem dX8_feed_1 : decode cX8_feed 1 = .ok (.bipush 97, 2) := by decide +kernel
theorem dX8_feed_3 : decode cX8_feed 3 = .ok (.bipush 104, 2) := by decide +kernel
theorem dX8_feed_5 : decode cX8_feed 5 = .ok (.invokestatic 62, 3) := by decide +kernel
theorem dX8_feed_8 : decode cX8_feed 8 = .ok (.ifCond .ne 6, 3) := by decide +kernel
theorem dX8_feed_11 : decode cX8_feed 11 = .ok (.ldc 159, 2) := by decide +kernel
theorem dX8_feed_13 : decode cX8_feed 13 = .ok (.ireturn, 1) := by decide +kernel
theorem dX8_feed_14 : decode cX8_feed 14 = .ok (.aload_n 0, 1) := by decide +kernel
theorem dX8_feed_15 : decode cX8_feed 15 = .ok (.getfield 149, 3) := by decide +kernel
theorem dX8_feed_18 : decode cX8_feed 18 = .ok (.bipush 10, 2) := by decide +kernel
theorem dX8_feed_20 : decode cX8_feed 20 = .ok (.if_icmp .ne 6, 3) := by decide +kernel
theorem dX8_feed_23 : decode cX8_feed 23 = .ok (.ldc 160, 2) := by decide +kernel
theorem dX8_feed_25 : decode cX8_feed 25 = .ok (.ireturn, 1) := by decide +kernel
theorem dX8_feed_26 : decode cX8_feed 26 = .ok (.aload_n 0, 1) := by decide +kernel
theorem dX8_feed_27 : decode cX8_feed 27 = .ok (.getfield 23, 3) := by decide +kernel
theorem dX8_feed_30 : decode cX8_feed 30 = .ok (.aload_n 0, 1) := by decide +kernel
theorem dX8_feed_31 : decode cX8_feed 31 = .ok (.getfield 149, 3) := by decide +kernel
theorem dX8_feed_34 : decode cX8_feed 34 = .ok (.iload_n 1, 1) := by decide +kernel
theorem dX8_feed_35 : decode cX8_feed 35 = .ok (.bipush 97, 2) := by decide +kernel
theorem dX8_feed_37 : decode cX8_feed 37 = .ok (.isub, 1) := by decide +kernel
theorem dX8_feed_38 : decode cX8_feed 38 = .ok (.iastore, 1) := by decide +kernel
theorem dX8_feed_39 : decode cX8_feed 39 = .ok (.aload_n 0, 1) := by decide +kernel
theorem dX8_feed_40 : decode cX8_feed 40 = .ok (.dup, 1) := by decide +kernel
theorem dX8_feed_41 : decode cX8_feed 41 = .ok (.getfield 149, 3) := by decide +kernel
theorem dX8_feed_44 : decode cX8_feed 44 = .ok (.iconst 1, 1) := by decide +kernel
theorem dX8_feed_45 : decode cX8_feed 45 = .ok (.iadd, 1) := by decide +kernel
theorem dX8_feed_46 : decode cX8_feed 46 = .ok (.putfield 149, 3) := by decide +kernel
theorem dX8_feed_49 : decode cX8_feed 49 = .ok (.aload_n 0, 1) := by decide +kernel
theorem dX8_feed_50 : decode cX8_feed 50 = .ok (.getfield 149, 3) := by decide +kernel
theorem dX8_feed_53 : decode cX8_feed 53 = .ok (.ireturn, 1) := by decide +kernel
theorem dX8_notes_0 : decode cX8_notes 0 = .ok (.aload_n 0, 1) := by decide +kernel
theorem dX8_notes_1 : decode cX8_notes 1 = .ok (.getfield 161, 3) := by decide +kernel
theorem dX8_notes_4 : decode cX8_notes 4 = .ok (.bipush 16, 2) := by decide +kernel
theorem dX8_notes_6 : decode cX8_notes 6 = .ok (.if_icmp .ne 30, 3) := by decide +kernel
theorem dX8_notes_9 : decode cX8_notes 9 = .ok (.aload_n 0, 1) := by decide +kernel
theorem dX8_notes_10 : decode cX8_notes 10 = .ok (.getfield 13, 3) := by decide +kernel
theorem dX8_notes_13 : decode cX8_notes 13 = .ok (.bipush 110, 2) := by decide +kernel
theorem dX8_notes_15 : decode cX8_notes 15 = .ok (.aload_n 0, 1) := by decide +kernel
theorem dX8_notes_16 : decode cX8_notes 16 = .ok (.getfield 13, 3) := by decide +kernel
theorem dX8_notes_19 : decode cX8_notes 19 = .ok (.iconst 0, 1) := by decide +kernel
theorem dX8_notes_20 : decode cX8_notes 20 = .ok (.sipush 1650, 3) := by decide +kernel
theorem dX8_notes_23 : decode cX8_notes 23 = .ok (.invokestatic 73, 3) := by decide +kernel
theorem dX8_notes_26 : decode cX8_notes 26 = .ok (.aload_n 0, 1) := by decide +kernel
theorem dX8_notes_27 : decode cX8_notes 27 = .ok (.dup, 1) := by decide +kernel
theorem dX8_notes_28 : decode cX8_notes 28 = .ok (.getfield 161, 3) := by decide +kernel
theorem dX8_notes_31 : decode cX8_notes 31 = .ok (.iconst 1, 1) := by decide +kernel
theorem dX8_notes_32 : decode cX8_notes 32 = .ok (.isub, 1) := by decide +kernel
theorem dX8_notes_33 : decode cX8_notes 33 = .ok (.putfield 161, 3) := by decide +kernel
theorem dX8_notes_36 : decode cX8_notes 36 = .ok (.aload_n 0, 1) := by decide +kernel
theorem dX8_notes_37 : decode cX8_notes 37 = .ok (.getfield 7, 3) := by decide +kernel
theorem dX8_notes_40 : decode cX8_notes 40 = .ok (.iconst 0, 1) := by decide +kernel
theorem dX8_notes_41 : decode cX8_notes 41 = .ok (.aload_n 0, 1) := by decide +kernel
theorem dX8_notes_42 : decode cX8_notes 42 = .ok (.getfield 13, 3) := by decide +kernel
theorem dX8_notes_45 : decode cX8_notes 45 = .ok (.bipush 110, 2) := by decide +kernel
theorem dX8_notes_47 : decode cX8_notes 47 = .ok (.aload_n 0, 1) := by decide +kernel
theorem dX8_notes_48 : decode cX8_notes 48 = .ok (.getfield 161, 3) := by decide +kernel
theorem dX8_notes_51 : decode cX8_notes 51 = .ok (.imul, 1) := by decide +kernel
theorem dX8_notes_52 : decode cX8_notes 52 = .ok (.bipush 110, 2) := by decide +kernel
theorem dX8_notes_54 : decode cX8_notes 54 = .ok (.invokestatic 73, 3) := by decide +kernel
theorem dX8_notes_57 : decode cX8_notes 57 = .ok (.aload_n 0, 1) := by decide +kernel
theorem dX8_notes_58 : decode cX8_notes 58 = .ok (.dup, 1) := by decide +kernel
theorem dX8_notes_59 : decode cX8_notes 59 = .ok (.getfield 161, 3) := by decide +kernel
theorem dX8_notes_62 : decode cX8_notes 62 = .ok (.iconst 1, 1) := by decide +kernel
theorem dX8_notes_63 : decode cX8_notes 63 = .ok (.iadd, 1) := by decide +kernel
theorem dX8_notes_64 : decode cX8_notes 64 = .ok (.putfield 161, 3) := by decide +kernel
theorem dX8_notes_67 : decode cX8_notes 67 = .ok (.return_, 1) := by decide +kernel
theorem dX8_tale_0 : decode cX8_tale 0 = .ok (.aload_n 0, 1) := by decide +kernel
theorem dX8_tale_1 : decode cX8_tale 1 = .ok (.getfield 7, 3) := by decide +kernel
theorem dX8_tale_4 : decode cX8_tale 4 = .ok (.iconst 0, 1) := by decide +kernel
theorem dX8_tale_5 : decode cX8_tale 5 = .ok (.iaload, 1) := by decide +kernel
theorem dX8_tale_6 : decode cX8_tale 6 = .ok (.bipush 8, 2) := by decide +kernel
theorem dX8_tale_8 : decode cX8_tale 8 = .ok (.if_icmp .ne 6, 3) := by decide +kernel
theorem dX8_tale_11 : decode cX8_tale 11 = .ok (.ldc 160, 2) := by decide +kernel
theorem dX8_tale_13 : decode cX8_tale 13 = .ok (.ireturn, 1) := by decide +kernel
theorem dX8_tale_14 : decode cX8_tale 14 = .ok (.aload_n 0, 1) := by decide +kernel
theorem dX8_tale_15 : decode cX8_tale 15 = .ok (.getfield 149, 3) := by decide +kernel
theorem dX8_tale_18 : decode cX8_tale 18 = .ok (.ifCond .ne 6, 3) := by decide +kernel
theorem dX8_tale_21 : decode cX8_tale 21 = .ok (.ldc 164, 2) := by decide +kernel
theorem dX8_tale_23 : decode cX8_tale 23 = .ok (.ireturn, 1) := by decide +kernel
theorem dX8_tale_24 : decode cX8_tale 24 = .ok (.aload_n 0, 1) := by decide +kernel
theorem dX8_tale_25 : decode cX8_tale 25 = .ok (.invokevirtual 165, 3) := by decide +kernel
theorem dX8_tale_28 : decode cX8_tale 28 = .ok (.aload_n 0, 1) := by decide +kernel
theorem dX8_tale_29 : decode cX8_tale 29 = .ok (.getfield 7, 3) := by decide +kernel
theorem dX8_tale_32 : decode cX8_tale 32 = .ok (.iconst 0, 1) := by decide +kernel
theorem dX8_tale_33 : decode cX8_tale 33 = .ok (.iaload, 1) := by decide +kernel
theorem dX8_tale_34 : decode cX8_tale 34 = .ok (.istore_n 1, 1) := by decide +kernel
theorem dX8_tale_35 : decode cX8_tale 35 = .ok (.aload_n 0, 1) := by decide +kernel
theorem dX8_tale_36 : decode cX8_tale 36 = .ok (.getfield 7, 3) := by decide +kernel
theorem dX8_tale_39 : decode cX8_tale 39 = .ok (.bipush 6, 2) := by decide +kernel
theorem dX8_tale_41 : decode cX8_tale 41 = .ok (.iload_n 1, 1) := by decide +kernel
theorem dX8_tale_42 : decode cX8_tale 42 = .ok (.iadd, 1) := by decide +kernel
theorem dX8_tale_43 : decode cX8_tale 43 = .ok (.aload_n 0, 1) := by decide +kernel
theorem dX8_tale_44 : decode cX8_tale 44 = .ok (.getfield 149, 3) := by decide +kernel
theorem dX8_tale_47 : decode cX8_tale 47 = .ok (.iastore, 1) := by decide +kernel
theorem dX8_tale_48 : decode cX8_tale 48 = .ok (.aload_n 0, 1) := by decide +kernel
theorem dX8_tale_49 : decode cX8_tale 49 = .ok (.getfield 7, 3) := by decide +kernel
theorem dX8_tale_52 : decode cX8_tale 52 = .ok (.bipush 14, 2) := by decide +kernel
theorem dX8_tale_54 : decode cX8_tale 54 = .ok (.iload_n 1, 1) := by decide +kernel
theorem dX8_tale_55 : decode cX8_tale 55 = .ok (.iadd, 1) := by decide +kernel
theorem dX8_tale_56 : decode cX8_tale 56 = .ok (.iconst 0, 1) := by decide +kernel
theorem dX8_tale_57 : decode cX8_tale 57 = .ok (.iastore, 1) := by decide +kernel
theorem dX8_tale_58 : decode cX8_tale 58 = .ok (.aload_n 0, 1) := by decide +kernel
theorem dX8_tale_59 : decode cX8_tale 59 = .ok (.getfield 23, 3) := by decide +kernel
theorem dX8_tale_62 : decode cX8_tale 62 = .ok (.iconst 0, 1) := by decide +kernel
theorem dX8_tale_63 : decode cX8_tale 63 = .ok (.aload_n 0, 1) := by decide +kernel
theorem dX8_tale_64 : decode cX8_tale 64 = .ok (.getfield 7, 3) := by decide +kernel
theorem dX8_tale_67 : decode cX8_tale 67 = .ok (.bipush 30, 2) := by decide +kernel
theorem dX8_tale_69 : decode cX8_tale 69 = .ok (.bipush 10, 2) := by decide +kernel
theorem dX8_tale_71 : decode cX8_tale 71 = .ok (.iload_n 1, 1) := by decide +kernel
theorem dX8_tale_72 : decode cX8_tale 72 = .ok (.imul, 1) := by decide +kernel
theorem dX8_tale_73 : decode cX8_tale 73 = .ok (.iadd, 1) := by decide +kernel
theorem dX8_tale_74 : decode cX8_tale 74 = .ok (.aload_n 0, 1) := by decide +kernel
theorem dX8_tale_75 : decode cX8_tale 75 = .ok (.getfield 149, 3) := by decide +kernel
theorem dX8_tale_78 : decode cX8_tale 78 = .ok (.invokestatic 73, 3) := by decide +kernel
theorem dX8_tale_81 : decode cX8_tale 81 = .ok (.aload_n 0, 1) := by decide +kernel
theorem dX8_tale_82 : decode cX8_tale 82 = .ok (.getfield 7, 3) := by decide +kernel
theorem dX8_tale_85 : decode cX8_tale 85 = .ok (.iconst 0, 1) := by decide +kernel
theorem dX8_tale_86 : decode cX8_tale 86 = .ok (.dup2, 1) := by decide +kernel
theorem dX8_tale_87 : decode cX8_tale 87 = .ok (.iaload, 1) := by decide +kernel
theorem dX8_tale_88 : decode cX8_tale 88 = .ok (.iconst 1, 1) := by decide +kernel
theorem dX8_tale_89 : decode cX8_tale 89 = .ok (.iadd, 1) := by decide +kernel
theorem dX8_tale_90 : decode cX8_tale 90 = .ok (.iastore, 1) := by decide +kernel
theorem dX8_tale_91 : decode cX8_tale 91 = .ok (.aload_n 0, 1) := by decide +kernel
theorem dX8_tale_92 : decode cX8_tale 92 = .ok (.iconst 0, 1) := by decide +kernel
theorem dX8_tale_93 : decode cX8_tale 93 = .ok (.putfield 149, 3) := by decide +kernel
theorem dX8_tale_96 : decode cX8_tale 96 = .ok (.iload_n 1, 1) := by decide +kernel
theorem dX8_tale_97 : decode cX8_tale 97 = .ok (.ireturn, 1) := by decide +kernel
theorem dX8_wrong_0 : decode cX8_wrong 0 = .ok (.iconst 0, 1) := by decide +kernel
theorem dX8_wrong_1 : decode cX8_wrong 1 = .ok (.istore_n 1, 1) := by decide +kernel
theorem dX8_wrong_2 : decode cX8_wrong 2 = .ok (.iload_n 1, 1) := by decide +kernel
theorem dX8_wrong_3 : decode cX8_wrong 3 = .ok (.aload_n 0, 1) := by decide +kernel
theorem dX8_wrong_4 : decode cX8_wrong 4 = .ok (.getfield 168, 3) := by decide +kernel
theorem dX8_wrong_7 : decode cX8_wrong 7 = .ok (.if_icmp .ge 66, 3) := by decide +kernel
theorem dX8_wrong_10 : decode cX8_wrong 10 = .ok (.aload_n 0, 1) := by decide +kernel
theorem dX8_wrong_11 : decode cX8_wrong 11 = .ok (.getfield 26, 3) := by decide +kernel
theorem dX8_wrong_14 : decode cX8_wrong 14 = .ok (.iconst 3, 1) := by decide +kernel
theorem dX8_wrong_15 : decode cX8_wrong 15 = .ok (.iload_n 1, 1) := by decide +kernel
theorem dX8_wrong_16 : decode cX8_wrong 16 = .ok (.imul, 1) := by decide +kernel
theorem dX8_wrong_17 : decode cX8_wrong 17 = .ok (.iaload, 1) := by decide +kernel
theorem dX8_wrong_18 : decode cX8_wrong 18 = .ok (.istore_n 2, 1) := by decide +kernel
theorem dX8_wrong_19 : decode cX8_wrong 19 = .ok (.aload_n 0, 1) := by decide +kernel
theorem dX8_wrong_20 : decode cX8_wrong 20 = .ok (.getfield 26, 3) := by decide +kernel
theorem dX8_wrong_23 : decode cX8_wrong 23 = .ok (.iconst 3, 1) := by decide +kernel
theorem dX8_wrong_24 : decode cX8_wrong 24 = .ok (.iload_n 1, 1) := by decide +kernel
theorem dX8_wrong_25 : decode cX8_wrong 25 = .ok (.imul, 1) := by decide +kernel
theorem dX8_wrong_26 : decode cX8_wrong 26 = .ok (.iconst 1, 1) := by decide +kernel
theorem dX8_wrong_27 : decode cX8_wrong 27 = .ok (.iadd, 1) := by decide +kernel
theorem dX8_wrong_28 : decode cX8_wrong 28 = .ok (.iaload, 1) := by decide +kernel
theorem dX8_wrong_29 : decode cX8_wrong 29 = .ok (.istore_n 3, 1) := by decide +kernel
theorem dX8_wrong_30 : decode cX8_wrong 30 = .ok (.aload_n 0, 1) := by decide +kernel
theorem dX8_wrong_31 : decode cX8_wrong 31 = .ok (.iload_n 2, 1) := by decide +kernel
theorem dX8_wrong_32 : decode cX8_wrong 32 = .ok (.invokevirtual 171, 3) := by decide +kernel
theorem dX8_wrong_35 : decode cX8_wrong 35 = .ok (.ifCond .eq 30, 3) := by decide +kernel
theorem dX8_wrong_38 : decode cX8_wrong 38 = .ok (.aload_n 0, 1) := by decide +kernel
theorem dX8_wrong_39 : decode cX8_wrong 39 = .ok (.iload_n 3, 1) := by decide +kernel
theorem dX8_wrong_40 : decode cX8_wrong 40 = .ok (.invokevirtual 171, 3) := by decide +kernel
theorem dX8_wrong_43 : decode cX8_wrong 43 = .ok (.ifCond .eq 22, 3) := by decide +kernel
theorem dX8_wrong_46 : decode cX8_wrong 46 = .ok (.aload_n 0, 1) := by decide +kernel
theorem dX8_wrong_47 : decode cX8_wrong 47 = .ok (.iload_n 2, 1) := by decide +kernel
theorem dX8_wrong_48 : decode cX8_wrong 48 = .ok (.iload_n 3, 1) := by decide +kernel
theorem dX8_wrong_49 : decode cX8_wrong 49 = .ok (.invokevirtual 111, 3) := by decide +kernel
theorem dX8_wrong_52 : decode cX8_wrong 52 = .ok (.aload_n 0, 1) := by decide +kernel
theorem dX8_wrong_53 : decode cX8_wrong 53 = .ok (.getfield 26, 3) := by decide +kernel
theorem dX8_wrong_56 : decode cX8_wrong 56 = .ok (.iconst 3, 1) := by decide +kernel
theorem dX8_wrong_57 : decode cX8_wrong 57 = .ok (.iload_n 1, 1) := by decide +kernel
theorem dX8_wrong_58 : decode cX8_wrong 58 = .ok (.imul, 1) := by decide +kernel
theorem dX8_wrong_59 : decode cX8_wrong 59 = .ok (.iconst 2, 1) := by decide +kernel
theorem dX8_wrong_60 : decode cX8_wrong 60 = .ok (.iadd, 1) := by decide +kernel
theorem dX8_wrong_61 : decode cX8_wrong 61 = .ok (.iaload, 1) := by decide +kernel
theorem dX8_wrong_62 : decode cX8_wrong 62 = .ok (.if_icmp .eq 5, 3) := by decide +kernel
theorem dX8_wrong_65 : decode cX8_wrong 65 = .ok (.iload_n 1, 1) := by decide +kernel
theorem dX8_wrong_66 : decode cX8_wrong 66 = .ok (.ireturn, 1) := by decide +kernel
theorem dX8_wrong_67 : decode cX8_wrong 67 = .ok (.iinc 1 1, 3) := by decide +kernel
theorem dX8_wrong_70 : decode cX8_wrong 70 = .ok (.goto (-68), 3) := by decide +kernel
theorem dX8_wrong_73 : decode cX8_wrong 73 = .ok (.iconst (-1), 1) := by decide +kernel
theorem dX8_wrong_74 : decode cX8_wrong 74 = .ok (.ireturn, 1) := by decide +kernel
theorem dX8_told_0 : decode cX8_told 0 = .ok (.iload_n 1, 1) := by decide +kernel
theorem dX8_told_1 : decode cX8_told 1 = .ok (.tableswitch 103 0 8 #[51, 58, 63, 70, 75, 80, 88, 93, 98], 51) := by decide +kernel
theorem dX8_told_52 : decode cX8_told 52 = .ok (.aload_n 0, 1) := by decide +kernel
theorem dX8_told_53 : decode cX8_told 53 = .ok (.getfield 7, 3) := by decide +kernel
theorem dX8_told_56 : decode cX8_told 56 = .ok (.iconst 0, 1) := by decide +kernel
theorem dX8_told_57 : decode cX8_told 57 = .ok (.iaload, 1) := by decide +kernel
theorem dX8_told_58 : decode cX8_told 58 = .ok (.ireturn, 1) := by decide +kernel
theorem dX8_told_59 : decode cX8_told 59 = .ok (.aload_n 0, 1) := by decide +kernel
theorem dX8_told_60 : decode cX8_told 60 = .ok (.getfield 149, 3) := by decide +kernel
theorem dX8_told_63 : decode cX8_told 63 = .ok (.ireturn, 1) := by decide +kernel
theorem dX8_told_64 : decode cX8_told 64 = .ok (.aload_n 0, 1) := by decide +kernel
theorem dX8_told_65 : decode cX8_told 65 = .ok (.getfield 7, 3) := by decide +kernel
theorem dX8_told_68 : decode cX8_told 68 = .ok (.iconst 1, 1) := by decide +kernel
theorem dX8_told_69 : decode cX8_told 69 = .ok (.iaload, 1) := by decide +kernel
theorem dX8_told_70 : decode cX8_told 70 = .ok (.ireturn, 1) := by decide +kernel
theorem dX8_told_71 : decode cX8_told 71 = .ok (.aload_n 0, 1) := by decide +kernel
theorem dX8_told_72 : decode cX8_told 72 = .ok (.invokevirtual 142, 3) := by decide +kernel
theorem dX8_told_75 : decode cX8_told 75 = .ok (.ireturn, 1) := by decide +kernel
theorem dX8_told_76 : decode cX8_told 76 = .ok (.aload_n 0, 1) := by decide +kernel
theorem dX8_told_77 : decode cX8_told 77 = .ok (.invokevirtual 174, 3) := by decide +kernel
theorem dX8_told_80 : decode cX8_told 80 = .ok (.ireturn, 1) := by decide +kernel
theorem dX8_told_81 : decode cX8_told 81 = .ok (.aload_n 0, 1) := by decide +kernel
theorem dX8_told_82 : decode cX8_told 82 = .ok (.sipush 255, 3) := by decide +kernel
theorem dX8_told_85 : decode cX8_told 85 = .ok (.invokevirtual 177, 3) := by decide +kernel
theorem dX8_told_88 : decode cX8_told 88 = .ok (.ireturn, 1) := by decide +kernel
theorem dX8_told_89 : decode cX8_told 89 = .ok (.aload_n 0, 1) := by decide +kernel
theorem dX8_told_90 : decode cX8_told 90 = .ok (.getfield 168, 3) := by decide +kernel
theorem dX8_told_93 : decode cX8_told 93 = .ok (.ireturn, 1) := by decide +kernel
theorem dX8_told_94 : decode cX8_told 94 = .ok (.aload_n 0, 1) := by decide +kernel
theorem dX8_told_95 : decode cX8_told 95 = .ok (.invokevirtual 180, 3) := by decide +kernel
theorem dX8_told_98 : decode cX8_told 98 = .ok (.ireturn, 1) := by decide +kernel
theorem dX8_told_99 : decode cX8_told 99 = .ok (.aload_n 0, 1) := by decide +kernel
theorem dX8_told_100 : decode cX8_told 100 = .ok (.getfield 161, 3) := by decide +kernel
theorem dX8_told_103 : decode cX8_told 103 = .ok (.ireturn, 1) := by decide +kernel
theorem dX8_told_104 : decode cX8_told 104 = .ok (.ldc 159, 2) := by decide +kernel
theorem dX8_told_106 : decode cX8_told 106 = .ok (.ireturn, 1) := by decide +kernel
theorem dX8_taleAt_0 : decode cX8_taleAt 0 = .ok (.aload_n 0, 1) := by decide +kernel
theorem dX8_taleAt_1 : decode cX8_taleAt 1 = .ok (.iload_n 1, 1) := by decide +kernel
theorem dX8_taleAt_2 : decode cX8_taleAt 2 = .ok (.invokevirtual 171, 3) := by decide +kernel
theorem dX8_taleAt_5 : decode cX8_taleAt 5 = .ok (.ifCond .ne 6, 3) := by decide +kernel
theorem dX8_taleAt_8 : decode cX8_taleAt 8 = .ok (.ldc 183, 2) := by decide +kernel
theorem dX8_taleAt_10 : decode cX8_taleAt 10 = .ok (.ireturn, 1) := by decide +kernel
theorem dX8_taleAt_11 : decode cX8_taleAt 11 = .ok (.iload_n 2, 1) := by decide +kernel
theorem dX8_taleAt_12 : decode cX8_taleAt 12 = .ok (.tableswitch 80 0 3 #[32, 42, 52, 66], 32) := by decide +kernel
theorem dX8_taleAt_44 : decode cX8_taleAt 44 = .ok (.aload_n 0, 1) := by decide +kernel
theorem dX8_taleAt_45 : decode cX8_taleAt 45 = .ok (.getfield 7, 3) := by decide +kernel
theorem dX8_taleAt_48 : decode cX8_taleAt 48 = .ok (.bipush 6, 2) := by decide +kernel
theorem dX8_taleAt_50 : decode cX8_taleAt 50 = .ok (.iload_n 1, 1) := by decide +kernel
theorem dX8_taleAt_51 : decode cX8_taleAt 51 = .ok (.iadd, 1) := by decide +kernel
theorem dX8_taleAt_52 : decode cX8_taleAt 52 = .ok (.iaload, 1) := by decide +kernel
theorem dX8_taleAt_53 : decode cX8_taleAt 53 = .ok (.ireturn, 1) := by decide +kernel
theorem dX8_taleAt_54 : decode cX8_taleAt 54 = .ok (.aload_n 0, 1) := by decide +kernel
theorem dX8_taleAt_55 : decode cX8_taleAt 55 = .ok (.getfield 7, 3) := by decide +kernel
theorem dX8_taleAt_58 : decode cX8_taleAt 58 = .ok (.bipush 14, 2) := by decide +kernel
theorem dX8_taleAt_60 : decode cX8_taleAt 60 = .ok (.iload_n 1, 1) := by decide +kernel
theorem dX8_taleAt_61 : decode cX8_taleAt 61 = .ok (.iadd, 1) := by decide +kernel
theorem dX8_taleAt_62 : decode cX8_taleAt 62 = .ok (.iaload, 1) := by decide +kernel
theorem dX8_taleAt_63 : decode cX8_taleAt 63 = .ok (.ireturn, 1) := by decide +kernel
theorem dX8_taleAt_64 : decode cX8_taleAt 64 = .ok (.aload_n 0, 1) := by decide +kernel
theorem dX8_taleAt_65 : decode cX8_taleAt 65 = .ok (.aload_n 0, 1) := by decide +kernel
theorem dX8_taleAt_66 : decode cX8_taleAt 66 = .ok (.getfield 7, 3) := by decide +kernel
theorem dX8_taleAt_69 : decode cX8_taleAt 69 = .ok (.bipush 14, 2) := by decide +kernel
theorem dX8_taleAt_71 : decode cX8_taleAt 71 = .ok (.iload_n 1, 1) := by decide +kernel
theorem dX8_taleAt_72 : decode cX8_taleAt 72 = .ok (.iadd, 1) := by decide +kernel
theorem dX8_taleAt_73 : decode cX8_taleAt 73 = .ok (.iaload, 1) := by decide +kernel
theorem dX8_taleAt_74 : decode cX8_taleAt 74 = .ok (.invokevirtual 184, 3) := by decide +kernel
theorem dX8_taleAt_77 : decode cX8_taleAt 77 = .ok (.ireturn, 1) := by decide +kernel
theorem dX8_taleAt_78 : decode cX8_taleAt 78 = .ok (.aload_n 0, 1) := by decide +kernel
theorem dX8_taleAt_79 : decode cX8_taleAt 79 = .ok (.aload_n 0, 1) := by decide +kernel
theorem dX8_taleAt_80 : decode cX8_taleAt 80 = .ok (.getfield 7, 3) := by decide +kernel
theorem dX8_taleAt_83 : decode cX8_taleAt 83 = .ok (.bipush 14, 2) := by decide +kernel
theorem dX8_taleAt_85 : decode cX8_taleAt 85 = .ok (.iload_n 1, 1) := by decide +kernel
theorem dX8_taleAt_86 : decode cX8_taleAt 86 = .ok (.iadd, 1) := by decide +kernel
theorem dX8_taleAt_87 : decode cX8_taleAt 87 = .ok (.iaload, 1) := by decide +kernel
theorem dX8_taleAt_88 : decode cX8_taleAt 88 = .ok (.invokevirtual 156, 3) := by decide +kernel
theorem dX8_taleAt_91 : decode cX8_taleAt 91 = .ok (.ireturn, 1) := by decide +kernel
theorem dX8_taleAt_92 : decode cX8_taleAt 92 = .ok (.ldc 159, 2) := by decide +kernel
theorem dX8_taleAt_94 : decode cX8_taleAt 94 = .ok (.ireturn, 1) := by decide +kernel
theorem dX8_motif_0 : decode cX8_motif 0 = .ok (.aload_n 0, 1) := by decide +kernel
theorem dX8_motif_1 : decode cX8_motif 1 = .ok (.iload_n 1, 1) := by decide +kernel
theorem dX8_motif_2 : decode cX8_motif 2 = .ok (.invokevirtual 171, 3) := by decide +kernel
theorem dX8_motif_5 : decode cX8_motif 5 = .ok (.ifCond .ne 6, 3) := by decide +kernel
theorem dX8_motif_8 : decode cX8_motif 8 = .ok (.ldc 183, 2) := by decide +kernel
theorem dX8_motif_10 : decode cX8_motif 10 = .ok (.ireturn, 1) := by decide +kernel
theorem dX8_motif_11 : decode cX8_motif 11 = .ok (.iload_n 2, 1) := by decide +kernel
theorem dX8_motif_12 : decode cX8_motif 12 = .ok (.iconst 0, 1) := by decide +kernel
theorem dX8_motif_13 : decode cX8_motif 13 = .ok (.aload_n 0, 1) := by decide +kernel
theorem dX8_motif_14 : decode cX8_motif 14 = .ok (.getfield 7, 3) := by decide +kernel
theorem dX8_motif_17 : decode cX8_motif 17 = .ok (.bipush 6, 2) := by decide +kernel
theorem dX8_motif_19 : decode cX8_motif 19 = .ok (.iload_n 1, 1) := by decide +kernel
theorem dX8_motif_20 : decode cX8_motif 20 = .ok (.iadd, 1) := by decide +kernel
theorem dX8_motif_21 : decode cX8_motif 21 = .ok (.iaload, 1) := by decide +kernel
theorem dX8_motif_22 : decode cX8_motif 22 = .ok (.iconst 1, 1) := by decide +kernel
theorem dX8_motif_23 : decode cX8_motif 23 = .ok (.isub, 1) := by decide +kernel
theorem dX8_motif_24 : decode cX8_motif 24 = .ok (.invokestatic 62, 3) := by decide +kernel
theorem dX8_motif_27 : decode cX8_motif 27 = .ok (.ifCond .eq 20, 3) := by decide +kernel
theorem dX8_motif_30 : decode cX8_motif 30 = .ok (.aload_n 0, 1) := by decide +kernel
theorem dX8_motif_31 : decode cX8_motif 31 = .ok (.getfield 7, 3) := by decide +kernel
theorem dX8_motif_34 : decode cX8_motif 34 = .ok (.bipush 30, 2) := by decide +kernel
theorem dX8_motif_36 : decode cX8_motif 36 = .ok (.bipush 10, 2) := by decide +kernel
theorem dX8_motif_38 : decode cX8_motif 38 = .ok (.iload_n 1, 1) := by decide +kernel
theorem dX8_motif_39 : decode cX8_motif 39 = .ok (.imul, 1) := by decide +kernel
theorem dX8_motif_40 : decode cX8_motif 40 = .ok (.iadd, 1) := by decide +kernel
theorem dX8_motif_41 : decode cX8_motif 41 = .ok (.iload_n 2, 1) := by decide +kernel
theorem dX8_motif_42 : decode cX8_motif 42 = .ok (.iadd, 1) := by decide +kernel
theorem dX8_motif_43 : decode cX8_motif 43 = .ok (.iaload, 1) := by decide +kernel
theorem dX8_motif_44 : decode cX8_motif 44 = .ok (.goto 4, 3) := by decide +kernel
theorem dX8_motif_47 : decode cX8_motif 47 = .ok (.iconst (-1), 1) := by decide +kernel
theorem dX8_motif_48 : decode cX8_motif 48 = .ok (.ireturn, 1) := by decide +kernel
theorem dX8_costAt_0 : decode cX8_costAt 0 = .ok (.iload_n 1, 1) := by decide +kernel
theorem dX8_costAt_1 : decode cX8_costAt 1 = .ok (.iconst 0, 1) := by decide +kernel
theorem dX8_costAt_2 : decode cX8_costAt 2 = .ok (.iconst 3, 1) := by decide +kernel
theorem dX8_costAt_3 : decode cX8_costAt 3 = .ok (.invokestatic 62, 3) := by decide +kernel
theorem dX8_costAt_6 : decode cX8_costAt 6 = .ok (.ifCond .eq 14, 3) := by decide +kernel
theorem dX8_costAt_9 : decode cX8_costAt 9 = .ok (.aload_n 0, 1) := by decide +kernel
theorem dX8_costAt_10 : decode cX8_costAt 10 = .ok (.getfield 7, 3) := by decide +kernel
theorem dX8_costAt_13 : decode cX8_costAt 13 = .ok (.iconst 2, 1) := by decide +kernel
theorem dX8_costAt_14 : decode cX8_costAt 14 = .ok (.iload_n 1, 1) := by decide +kernel
theorem dX8_costAt_15 : decode cX8_costAt 15 = .ok (.iadd, 1) := by decide +kernel
theorem dX8_costAt_16 : decode cX8_costAt 16 = .ok (.iaload, 1) := by decide +kernel
theorem dX8_costAt_17 : decode cX8_costAt 17 = .ok (.goto 5, 3) := by decide +kernel
theorem dX8_costAt_20 : decode cX8_costAt 20 = .ok (.ldc 159, 2) := by decide +kernel
theorem dX8_costAt_22 : decode cX8_costAt 22 = .ok (.ireturn, 1) := by decide +kernel
theorem dX8_pair_0 : decode cX8_pair 0 = .ok (.aload_n 0, 1) := by decide +kernel
theorem dX8_pair_1 : decode cX8_pair 1 = .ok (.iload_n 1, 1) := by decide +kernel
theorem dX8_pair_2 : decode cX8_pair 2 = .ok (.invokevirtual 171, 3) := by decide +kernel
theorem dX8_pair_5 : decode cX8_pair 5 = .ok (.ifCond .eq 11, 3) := by decide +kernel
theorem dX8_pair_8 : decode cX8_pair 8 = .ok (.aload_n 0, 1) := by decide +kernel
theorem dX8_pair_9 : decode cX8_pair 9 = .ok (.iload_n 2, 1) := by decide +kernel
theorem dX8_pair_10 : decode cX8_pair 10 = .ok (.invokevirtual 171, 3) := by decide +kernel
theorem dX8_pair_13 : decode cX8_pair 13 = .ok (.ifCond .ne 6, 3) := by decide +kernel
theorem dX8_pair_16 : decode cX8_pair 16 = .ok (.ldc 183, 2) := by decide +kernel
theorem dX8_pair_18 : decode cX8_pair 18 = .ok (.ireturn, 1) := by decide +kernel
theorem dX8_pair_19 : decode cX8_pair 19 = .ok (.iload_n 3, 1) := by decide +kernel
theorem dX8_pair_20 : decode cX8_pair 20 = .ok (.tableswitch 75 0 3 #[32, 39, 61, 68], 32) := by decide +kernel
theorem dX8_pair_52 : decode cX8_pair 52 = .ok (.aload_n 0, 1) := by decide +kernel
theorem dX8_pair_53 : decode cX8_pair 53 = .ok (.iload_n 1, 1) := by decide +kernel
theorem dX8_pair_54 : decode cX8_pair 54 = .ok (.iload_n 2, 1) := by decide +kernel
theorem dX8_pair_55 : decode cX8_pair 55 = .ok (.invokevirtual 111, 3) := by decide +kernel
theorem dX8_pair_58 : decode cX8_pair 58 = .ok (.ireturn, 1) := by decide +kernel
theorem dX8_pair_59 : decode cX8_pair 59 = .ok (.aload_n 0, 1) := by decide +kernel
theorem dX8_pair_60 : decode cX8_pair 60 = .ok (.iload_n 1, 1) := by decide +kernel
theorem dX8_pair_61 : decode cX8_pair 61 = .ok (.iload_n 2, 1) := by decide +kernel
theorem dX8_pair_62 : decode cX8_pair 62 = .ok (.invokevirtual 111, 3) := by decide +kernel
theorem dX8_pair_65 : decode cX8_pair 65 = .ok (.ldc 84, 2) := by decide +kernel
theorem dX8_pair_67 : decode cX8_pair 67 = .ok (.if_icmp .ge 12, 3) := by decide +kernel
theorem dX8_pair_70 : decode cX8_pair 70 = .ok (.aload_n 0, 1) := by decide +kernel
theorem dX8_pair_71 : decode cX8_pair 71 = .ok (.getfield 38, 3) := by decide +kernel
theorem dX8_pair_74 : decode cX8_pair 74 = .ok (.iconst 0, 1) := by decide +kernel
theorem dX8_pair_75 : decode cX8_pair 75 = .ok (.iaload, 1) := by decide +kernel
theorem dX8_pair_76 : decode cX8_pair 76 = .ok (.goto 4, 3) := by decide +kernel
theorem dX8_pair_79 : decode cX8_pair 79 = .ok (.iconst (-1), 1) := by decide +kernel
theorem dX8_pair_80 : decode cX8_pair 80 = .ok (.ireturn, 1) := by decide +kernel
theorem dX8_pair_81 : decode cX8_pair 81 = .ok (.aload_n 0, 1) := by decide +kernel
theorem dX8_pair_82 : decode cX8_pair 82 = .ok (.iload_n 1, 1) := by decide +kernel
theorem dX8_pair_83 : decode cX8_pair 83 = .ok (.iload_n 2, 1) := by decide +kernel
theorem dX8_pair_84 : decode cX8_pair 84 = .ok (.invokevirtual 187, 3) := by decide +kernel
theorem dX8_pair_87 : decode cX8_pair 87 = .ok (.ireturn, 1) := by decide +kernel
theorem dX8_pair_88 : decode cX8_pair 88 = .ok (.aload_n 0, 1) := by decide +kernel
theorem dX8_pair_89 : decode cX8_pair 89 = .ok (.iload_n 1, 1) := by decide +kernel
theorem dX8_pair_90 : decode cX8_pair 90 = .ok (.iload_n 2, 1) := by decide +kernel
theorem dX8_pair_91 : decode cX8_pair 91 = .ok (.invokevirtual 190, 3) := by decide +kernel
theorem dX8_pair_94 : decode cX8_pair 94 = .ok (.ireturn, 1) := by decide +kernel
theorem dX8_pair_95 : decode cX8_pair 95 = .ok (.ldc 159, 2) := by decide +kernel
theorem dX8_pair_97 : decode cX8_pair 97 = .ok (.ireturn, 1) := by decide +kernel
theorem dX8_step_0 : decode cX8_step 0 = .ok (.aload_n 0, 1) := by decide +kernel
theorem dX8_step_1 : decode cX8_step 1 = .ok (.iload_n 1, 1) := by decide +kernel
theorem dX8_step_2 : decode cX8_step 2 = .ok (.invokevirtual 171, 3) := by decide +kernel
theorem dX8_step_5 : decode cX8_step 5 = .ok (.ifCond .eq 11, 3) := by decide +kernel
theorem dX8_step_8 : decode cX8_step 8 = .ok (.aload_n 0, 1) := by decide +kernel
theorem dX8_step_9 : decode cX8_step 9 = .ok (.iload_n 2, 1) := by decide +kernel
theorem dX8_step_10 : decode cX8_step 10 = .ok (.invokevirtual 171, 3) := by decide +kernel
theorem dX8_step_13 : decode cX8_step 13 = .ok (.ifCond .ne 6, 3) := by decide +kernel
theorem dX8_step_16 : decode cX8_step 16 = .ok (.ldc 183, 2) := by decide +kernel
theorem dX8_step_18 : decode cX8_step 18 = .ok (.ireturn, 1) := by decide +kernel
theorem dX8_step_19 : decode cX8_step 19 = .ok (.aload_n 0, 1) := by decide +kernel
theorem dX8_step_20 : decode cX8_step 20 = .ok (.iload_n 1, 1) := by decide +kernel
theorem dX8_step_21 : decode cX8_step 21 = .ok (.iload_n 2, 1) := by decide +kernel
theorem dX8_step_22 : decode cX8_step 22 = .ok (.invokevirtual 187, 3) := by decide +kernel
theorem dX8_step_25 : decode cX8_step 25 = .ok (.istore 4, 2) := by decide +kernel
theorem dX8_step_27 : decode cX8_step 27 = .ok (.iload_n 3, 1) := by decide +kernel
theorem dX8_step_28 : decode cX8_step 28 = .ok (.iconst 0, 1) := by decide +kernel
theorem dX8_step_29 : decode cX8_step 29 = .ok (.iload 4, 2) := by decide +kernel
theorem dX8_step_31 : decode cX8_step 31 = .ok (.iconst 1, 1) := by decide +kernel
theorem dX8_step_32 : decode cX8_step 32 = .ok (.isub, 1) := by decide +kernel
theorem dX8_step_33 : decode cX8_step 33 = .ok (.invokestatic 62, 3) := by decide +kernel
theorem dX8_step_36 : decode cX8_step 36 = .ok (.ifCond .eq 12, 3) := by decide +kernel
theorem dX8_step_39 : decode cX8_step 39 = .ok (.aload_n 0, 1) := by decide +kernel
theorem dX8_step_40 : decode cX8_step 40 = .ok (.getfield 41, 3) := by decide +kernel
theorem dX8_step_43 : decode cX8_step 43 = .ok (.iload_n 3, 1) := by decide +kernel
theorem dX8_step_44 : decode cX8_step 44 = .ok (.iaload, 1) := by decide +kernel
theorem dX8_step_45 : decode cX8_step 45 = .ok (.goto 4, 3) := by decide +kernel
theorem dX8_step_48 : decode cX8_step 48 = .ok (.iconst (-1), 1) := by decide +kernel
theorem dX8_step_49 : decode cX8_step 49 = .ok (.ireturn, 1) := by decide +kernel
theorem dX8_node_0 : decode cX8_node 0 = .ok (.iload_n 1, 1) := by decide +kernel
theorem dX8_node_1 : decode cX8_node 1 = .ok (.iconst 0, 1) := by decide +kernel
theorem dX8_node_2 : decode cX8_node 2 = .ok (.aload_n 0, 1) := by decide +kernel
theorem dX8_node_3 : decode cX8_node 3 = .ok (.invokevirtual 142, 3) := by decide +kernel
theorem dX8_node_6 : decode cX8_node 6 = .ok (.iconst 1, 1) := by decide +kernel
theorem dX8_node_7 : decode cX8_node 7 = .ok (.isub, 1) := by decide +kernel
theorem dX8_node_8 : decode cX8_node 8 = .ok (.invokestatic 62, 3) := by decide +kernel
theorem dX8_node_11 : decode cX8_node 11 = .ok (.ifCond .ne 6, 3) := by decide +kernel
theorem dX8_node_14 : decode cX8_node 14 = .ok (.ldc 183, 2) := by decide +kernel
theorem dX8_node_16 : decode cX8_node 16 = .ok (.ireturn, 1) := by decide +kernel
theorem dX8_node_17 : decode cX8_node 17 = .ok (.iload_n 2, 1) := by decide +kernel
theorem dX8_node_18 : decode cX8_node 18 = .ok (.iconst 0, 1) := by decide +kernel
theorem dX8_node_19 : decode cX8_node 19 = .ok (.iconst 3, 1) := by decide +kernel
theorem dX8_node_20 : decode cX8_node 20 = .ok (.invokestatic 62, 3) := by decide +kernel
theorem dX8_node_23 : decode cX8_node 23 = .ok (.ifCond .ne 6, 3) := by decide +kernel
theorem dX8_node_26 : decode cX8_node 26 = .ok (.ldc 159, 2) := by decide +kernel
theorem dX8_node_28 : decode cX8_node 28 = .ok (.ireturn, 1) := by decide +kernel
theorem dX8_node_29 : decode cX8_node 29 = .ok (.aload_n 0, 1) := by decide +kernel
theorem dX8_node_30 : decode cX8_node 30 = .ok (.invokevirtual 193, 3) := by decide +kernel
theorem dX8_node_33 : decode cX8_node 33 = .ok (.iload_n 2, 1) := by decide +kernel
theorem dX8_node_34 : decode cX8_node 34 = .ok (.ifCond .ne 12, 3) := by decide +kernel
theorem dX8_node_37 : decode cX8_node 37 = .ok (.aload_n 0, 1) := by decide +kernel
theorem dX8_node_38 : decode cX8_node 38 = .ok (.getfield 59, 3) := by decide +kernel
theorem dX8_node_41 : decode cX8_node 41 = .ok (.iload_n 1, 1) := by decide +kernel
theorem dX8_node_42 : decode cX8_node 42 = .ok (.iaload, 1) := by decide +kernel
theorem dX8_node_43 : decode cX8_node 43 = .ok (.goto 41, 3) := by decide +kernel
theorem dX8_node_46 : decode cX8_node 46 = .ok (.iload_n 2, 1) := by decide +kernel
theorem dX8_node_47 : decode cX8_node 47 = .ok (.iconst 1, 1) := by decide +kernel
theorem dX8_node_48 : decode cX8_node 48 = .ok (.if_icmp .ne 12, 3) := by decide +kernel
theorem dX8_node_51 : decode cX8_node 51 = .ok (.aload_n 0, 1) := by decide +kernel
theorem dX8_node_52 : decode cX8_node 52 = .ok (.getfield 53, 3) := by decide +kernel
theorem dX8_node_55 : decode cX8_node 55 = .ok (.iload_n 1, 1) := by decide +kernel
theorem dX8_node_56 : decode cX8_node 56 = .ok (.iaload, 1) := by decide +kernel
theorem dX8_node_57 : decode cX8_node 57 = .ok (.goto 27, 3) := by decide +kernel
theorem dX8_node_60 : decode cX8_node 60 = .ok (.iload_n 2, 1) := by decide +kernel
theorem dX8_node_61 : decode cX8_node 61 = .ok (.iconst 2, 1) := by decide +kernel
theorem dX8_node_62 : decode cX8_node 62 = .ok (.if_icmp .ne 12, 3) := by decide +kernel
theorem dX8_node_65 : decode cX8_node 65 = .ok (.aload_n 0, 1) := by decide +kernel
theorem dX8_node_66 : decode cX8_node 66 = .ok (.getfield 56, 3) := by decide +kernel
theorem dX8_node_69 : decode cX8_node 69 = .ok (.iload_n 1, 1) := by decide +kernel
theorem dX8_node_70 : decode cX8_node 70 = .ok (.iaload, 1) := by decide +kernel
theorem dX8_node_71 : decode cX8_node 71 = .ok (.goto 13, 3) := by decide +kernel
theorem dX8_node_74 : decode cX8_node 74 = .ok (.aload_n 0, 1) := by decide +kernel
theorem dX8_node_75 : decode cX8_node 75 = .ok (.aload_n 0, 1) := by decide +kernel
theorem dX8_node_76 : decode cX8_node 76 = .ok (.getfield 53, 3) := by decide +kernel
theorem dX8_node_79 : decode cX8_node 79 = .ok (.iload_n 1, 1) := by decide +kernel
theorem dX8_node_80 : decode cX8_node 80 = .ok (.iaload, 1) := by decide +kernel
theorem dX8_node_81 : decode cX8_node 81 = .ok (.invokevirtual 196, 3) := by decide +kernel
theorem dX8_node_84 : decode cX8_node 84 = .ok (.ireturn, 1) := by decide +kernel
theorem dX8_types_0 : decode cX8_types 0 = .ok (.iload_n 2, 1) := by decide +kernel
theorem dX8_types_1 : decode cX8_types 1 = .ok (.ifCond .le 16, 3) := by decide +kernel
theorem dX8_types_4 : decode cX8_types 4 = .ok (.aload_n 0, 1) := by decide +kernel
theorem dX8_types_5 : decode cX8_types 5 = .ok (.iload_n 2, 1) := by decide +kernel
theorem dX8_types_6 : decode cX8_types 6 = .ok (.iconst 1, 1) := by decide +kernel
theorem dX8_types_7 : decode cX8_types 7 = .ok (.isub, 1) := by decide +kernel
theorem dX8_types_8 : decode cX8_types 8 = .ok (.invokevirtual 171, 3) := by decide +kernel
theorem dX8_types_11 : decode cX8_types 11 = .ok (.ifCond .ne 6, 3) := by decide +kernel
theorem dX8_types_14 : decode cX8_types 14 = .ok (.ldc 183, 2) := by decide +kernel
theorem dX8_types_16 : decode cX8_types 16 = .ok (.ireturn, 1) := by decide +kernel
theorem dX8_types_17 : decode cX8_types 17 = .ok (.iload_n 1, 1) := by decide +kernel
theorem dX8_types_18 : decode cX8_types 18 = .ok (.iconst 0, 1) := by decide +kernel
theorem dX8_types_19 : decode cX8_types 19 = .ok (.sipush 999, 3) := by decide +kernel
theorem dX8_types_22 : decode cX8_types 22 = .ok (.invokestatic 62, 3) := by decide +kernel
theorem dX8_types_25 : decode cX8_types 25 = .ok (.ifCond .eq 7, 3) := by decide +kernel
theorem dX8_types_28 : decode cX8_types 28 = .ok (.iload_n 2, 1) := by decide +kernel
theorem dX8_types_29 : decode cX8_types 29 = .ok (.ifCond .ge 6, 3) := by decide +kernel
theorem dX8_types_32 : decode cX8_types 32 = .ok (.ldc 159, 2) := by decide +kernel
end
section
theorem dX8_types_34 : decode cX8_types 34 = .ok (.ireturn, 1) := by decide +kernel
theorem dX8_types_35 : decode cX8_types 35 = .ok (.aload_n 0, 1) := by decide +kernel
theorem dX8_types_36 : decode cX8_types 36 = .ok (.invokevirtual 193, 3) := by decide +kernel
theorem dX8_types_39 : decode cX8_types 39 = .ok (.iconst 0, 1) := by decide +kernel
theorem dX8_types_40 : decode cX8_types 40 = .ok (.istore_n 3, 1) := by decide +kernel
theorem dX8_types_41 : decode cX8_types 41 = .ok (.iload_n 3, 1) := by decide +kernel
theorem dX8_types_42 : decode cX8_types 42 = .ok (.aload_n 0, 1) := by decide +kernel
theorem dX8_types_43 : decode cX8_types 43 = .ok (.invokevirtual 142, 3) := by decide +kernel
theorem dX8_types_46 : decode cX8_types 46 = .ok (.if_icmp .ge 19, 3) := by decide +kernel
theorem dX8_types_49 : decode cX8_types 49 = .ok (.aload_n 0, 1) := by decide +kernel
theorem dX8_types_50 : decode cX8_types 50 = .ok (.getfield 59, 3) := by decide +kernel
theorem dX8_types_53 : decode cX8_types 53 = .ok (.iload_n 3, 1) := by decide +kernel
theorem dX8_types_54 : decode cX8_types 54 = .ok (.iaload, 1) := by decide +kernel
theorem dX8_types_55 : decode cX8_types 55 = .ok (.iload_n 1, 1) := by decide +kernel
theorem dX8_types_56 : decode cX8_types 56 = .ok (.if_icmp .gt 9, 3) := by decide +kernel
theorem dX8_types_59 : decode cX8_types 59 = .ok (.iinc 3 1, 3) := by decide +kernel
theorem dX8_types_62 : decode cX8_types 62 = .ok (.goto (-21), 3) := by decide +kernel
theorem dX8_types_65 : decode cX8_types 65 = .ok (.iload_n 2, 1) := by decide +kernel
theorem dX8_types_66 : decode cX8_types 66 = .ok (.ifCond .le 11, 3) := by decide +kernel
theorem dX8_types_69 : decode cX8_types 69 = .ok (.iconst 1, 1) := by decide +kernel
theorem dX8_types_70 : decode cX8_types 70 = .ok (.iload_n 2, 1) := by decide +kernel
theorem dX8_types_71 : decode cX8_types 71 = .ok (.iconst 1, 1) := by decide +kernel
theorem dX8_types_72 : decode cX8_types 72 = .ok (.isub, 1) := by decide +kernel
theorem dX8_types_73 : decode cX8_types 73 = .ok (.ishl, 1) := by decide +kernel
theorem dX8_types_74 : decode cX8_types 74 = .ok (.goto 4, 3) := by decide +kernel
theorem dX8_types_77 : decode cX8_types 77 = .ok (.iconst 0, 1) := by decide +kernel
theorem dX8_types_78 : decode cX8_types 78 = .ok (.istore 4, 2) := by decide +kernel
theorem dX8_types_80 : decode cX8_types 80 = .ok (.iconst 0, 1) := by decide +kernel
theorem dX8_types_81 : decode cX8_types 81 = .ok (.istore 5, 2) := by decide +kernel
theorem dX8_types_83 : decode cX8_types 83 = .ok (.iload 5, 2) := by decide +kernel
theorem dX8_types_85 : decode cX8_types 85 = .ok (.iload_n 3, 1) := by decide +kernel
theorem dX8_types_86 : decode cX8_types 86 = .ok (.if_icmp .ge 38, 3) := by decide +kernel
theorem dX8_types_89 : decode cX8_types 89 = .ok (.iload 4, 2) := by decide +kernel
theorem dX8_types_91 : decode cX8_types 91 = .ok (.aload_n 0, 1) := by decide +kernel
theorem dX8_types_92 : decode cX8_types 92 = .ok (.getfield 53, 3) := by decide +kernel
theorem dX8_types_95 : decode cX8_types 95 = .ok (.iload 5, 2) := by decide +kernel
theorem dX8_types_97 : decode cX8_types 97 = .ok (.iaload, 1) := by decide +kernel
theorem dX8_types_98 : decode cX8_types 98 = .ok (.iload 4, 2) := by decide +kernel
theorem dX8_types_100 : decode cX8_types 100 = .ok (.iand, 1) := by decide +kernel
theorem dX8_types_101 : decode cX8_types 101 = .ok (.ifCond .eq 13, 3) := by decide +kernel
theorem dX8_types_104 : decode cX8_types 104 = .ok (.aload_n 0, 1) := by decide +kernel
theorem dX8_types_105 : decode cX8_types 105 = .ok (.getfield 53, 3) := by decide +kernel
theorem dX8_types_108 : decode cX8_types 108 = .ok (.iload 5, 2) := by decide +kernel
theorem dX8_types_110 : decode cX8_types 110 = .ok (.iaload, 1) := by decide +kernel
theorem dX8_types_111 : decode cX8_types 111 = .ok (.goto 4, 3) := by decide +kernel
theorem dX8_types_114 : decode cX8_types 114 = .ok (.iconst 0, 1) := by decide +kernel
theorem dX8_types_115 : decode cX8_types 115 = .ok (.ior, 1) := by decide +kernel
theorem dX8_types_116 : decode cX8_types 116 = .ok (.istore 4, 2) := by decide +kernel
theorem dX8_types_118 : decode cX8_types 118 = .ok (.iinc 5 1, 3) := by decide +kernel
theorem dX8_types_121 : decode cX8_types 121 = .ok (.goto (-38), 3) := by decide +kernel
theorem dX8_types_124 : decode cX8_types 124 = .ok (.iload_n 2, 1) := by decide +kernel
theorem dX8_types_125 : decode cX8_types 125 = .ok (.ifCond .ne 14, 3) := by decide +kernel
theorem dX8_types_128 : decode cX8_types 128 = .ok (.aload_n 0, 1) := by decide +kernel
theorem dX8_types_129 : decode cX8_types 129 = .ok (.getfield 7, 3) := by decide +kernel
theorem dX8_types_132 : decode cX8_types 132 = .ok (.iconst 0, 1) := by decide +kernel
theorem dX8_types_133 : decode cX8_types 133 = .ok (.iaload, 1) := by decide +kernel
theorem dX8_types_134 : decode cX8_types 134 = .ok (.iload_n 3, 1) := by decide +kernel
theorem dX8_types_135 : decode cX8_types 135 = .ok (.isub, 1) := by decide +kernel
theorem dX8_types_136 : decode cX8_types 136 = .ok (.goto 5, 3) := by decide +kernel
theorem dX8_types_139 : decode cX8_types 139 = .ok (.iload 4, 2) := by decide +kernel
theorem dX8_types_141 : decode cX8_types 141 = .ok (.ireturn, 1) := by decide +kernel
theorem dX8_areTales_0 : decode cX8_areTales 0 = .ok (.iload_n 1, 1) := by decide +kernel
theorem dX8_areTales_1 : decode cX8_areTales 1 = .ok (.iconst 0, 1) := by decide +kernel
theorem dX8_areTales_2 : decode cX8_areTales 2 = .ok (.iconst 1, 1) := by decide +kernel
theorem dX8_areTales_3 : decode cX8_areTales 3 = .ok (.aload_n 0, 1) := by decide +kernel
theorem dX8_areTales_4 : decode cX8_areTales 4 = .ok (.getfield 7, 3) := by decide +kernel
theorem dX8_areTales_7 : decode cX8_areTales 7 = .ok (.iconst 0, 1) := by decide +kernel
theorem dX8_areTales_8 : decode cX8_areTales 8 = .ok (.iaload, 1) := by decide +kernel
theorem dX8_areTales_9 : decode cX8_areTales 9 = .ok (.ishl, 1) := by decide +kernel
theorem dX8_areTales_10 : decode cX8_areTales 10 = .ok (.iconst 1, 1) := by decide +kernel
theorem dX8_areTales_11 : decode cX8_areTales 11 = .ok (.isub, 1) := by decide +kernel
theorem dX8_areTales_12 : decode cX8_areTales 12 = .ok (.invokestatic 62, 3) := by decide +kernel
theorem dX8_areTales_15 : decode cX8_areTales 15 = .ok (.ireturn, 1) := by decide +kernel
theorem dX8_middle_0 : decode cX8_middle 0 = .ok (.aload_n 0, 1) := by decide +kernel
theorem dX8_middle_1 : decode cX8_middle 1 = .ok (.iload_n 1, 1) := by decide +kernel
theorem dX8_middle_2 : decode cX8_middle 2 = .ok (.invokevirtual 199, 3) := by decide +kernel
theorem dX8_middle_5 : decode cX8_middle 5 = .ok (.ifCond .ne 6, 3) := by decide +kernel
theorem dX8_middle_8 : decode cX8_middle 8 = .ok (.ldc 183, 2) := by decide +kernel
theorem dX8_middle_10 : decode cX8_middle 10 = .ok (.ireturn, 1) := by decide +kernel
theorem dX8_middle_11 : decode cX8_middle 11 = .ok (.aload_n 0, 1) := by decide +kernel
theorem dX8_middle_12 : decode cX8_middle 12 = .ok (.invokevirtual 136, 3) := by decide +kernel
theorem dX8_middle_15 : decode cX8_middle 15 = .ok (.aload_n 0, 1) := by decide +kernel
theorem dX8_middle_16 : decode cX8_middle 16 = .ok (.iload_n 1, 1) := by decide +kernel
theorem dX8_middle_17 : decode cX8_middle 17 = .ok (.invokevirtual 196, 3) := by decide +kernel
theorem dX8_middle_20 : decode cX8_middle 20 = .ok (.ireturn, 1) := by decide +kernel
theorem dX8_common_0 : decode cX8_common 0 = .ok (.aload_n 0, 1) := by decide +kernel
theorem dX8_common_1 : decode cX8_common 1 = .ok (.iload_n 1, 1) := by decide +kernel
theorem dX8_common_2 : decode cX8_common 2 = .ok (.invokevirtual 199, 3) := by decide +kernel
theorem dX8_common_5 : decode cX8_common 5 = .ok (.ifCond .eq 11, 3) := by decide +kernel
theorem dX8_common_8 : decode cX8_common 8 = .ok (.aload_n 0, 1) := by decide +kernel
theorem dX8_common_9 : decode cX8_common 9 = .ok (.iload_n 1, 1) := by decide +kernel
theorem dX8_common_10 : decode cX8_common 10 = .ok (.invokevirtual 177, 3) := by decide +kernel
theorem dX8_common_13 : decode cX8_common 13 = .ok (.goto 5, 3) := by decide +kernel
theorem dX8_common_16 : decode cX8_common 16 = .ok (.ldc 183, 2) := by decide +kernel
theorem dX8_common_18 : decode cX8_common 18 = .ok (.ireturn, 1) := by decide +kernel
theorem dX8_wandered_0 : decode cX8_wandered 0 = .ok (.iload_n 1, 1) := by decide +kernel
theorem dX8_wandered_1 : decode cX8_wandered 1 = .ok (.iconst 0, 1) := by decide +kernel
theorem dX8_wandered_2 : decode cX8_wandered 2 = .ok (.sipush 255, 3) := by decide +kernel
theorem dX8_wandered_5 : decode cX8_wandered 5 = .ok (.invokestatic 62, 3) := by decide +kernel
theorem dX8_wandered_8 : decode cX8_wandered 8 = .ok (.ifCond .ne 6, 3) := by decide +kernel
theorem dX8_wandered_11 : decode cX8_wandered 11 = .ok (.ldc 183, 2) := by decide +kernel
theorem dX8_wandered_13 : decode cX8_wandered 13 = .ok (.ireturn, 1) := by decide +kernel
theorem dX8_wandered_14 : decode cX8_wandered 14 = .ok (.iload_n 2, 1) := by decide +kernel
theorem dX8_wandered_15 : decode cX8_wandered 15 = .ok (.iconst 0, 1) := by decide +kernel
theorem dX8_wandered_16 : decode cX8_wandered 16 = .ok (.iconst 1, 1) := by decide +kernel
theorem dX8_wandered_17 : decode cX8_wandered 17 = .ok (.invokestatic 62, 3) := by decide +kernel
theorem dX8_wandered_20 : decode cX8_wandered 20 = .ok (.ifCond .ne 6, 3) := by decide +kernel
theorem dX8_wandered_23 : decode cX8_wandered 23 = .ok (.ldc 159, 2) := by decide +kernel
theorem dX8_wandered_25 : decode cX8_wandered 25 = .ok (.ireturn, 1) := by decide +kernel
theorem dX8_wandered_26 : decode cX8_wandered 26 = .ok (.iload_n 2, 1) := by decide +kernel
theorem dX8_wandered_27 : decode cX8_wandered 27 = .ok (.ifCond .ne 11, 3) := by decide +kernel
theorem dX8_wandered_30 : decode cX8_wandered 30 = .ok (.aload_n 0, 1) := by decide +kernel
theorem dX8_wandered_31 : decode cX8_wandered 31 = .ok (.iload_n 1, 1) := by decide +kernel
theorem dX8_wandered_32 : decode cX8_wandered 32 = .ok (.invokevirtual 184, 3) := by decide +kernel
theorem dX8_wandered_35 : decode cX8_wandered 35 = .ok (.goto 8, 3) := by decide +kernel
theorem dX8_wandered_38 : decode cX8_wandered 38 = .ok (.aload_n 0, 1) := by decide +kernel
theorem dX8_wandered_39 : decode cX8_wandered 39 = .ok (.iload_n 1, 1) := by decide +kernel
theorem dX8_wandered_40 : decode cX8_wandered 40 = .ok (.invokevirtual 156, 3) := by decide +kernel
theorem dX8_wandered_43 : decode cX8_wandered 43 = .ok (.ireturn, 1) := by decide +kernel
theorem dX8_take_0 : decode cX8_take 0 = .ok (.aload_n 0, 1) := by decide +kernel
theorem dX8_take_1 : decode cX8_take 1 = .ok (.iload_n 1, 1) := by decide +kernel
theorem dX8_take_2 : decode cX8_take 2 = .ok (.invokevirtual 171, 3) := by decide +kernel
theorem dX8_take_5 : decode cX8_take 5 = .ok (.ifCond .ne 6, 3) := by decide +kernel
theorem dX8_take_8 : decode cX8_take 8 = .ok (.ldc 183, 2) := by decide +kernel
theorem dX8_take_10 : decode cX8_take 10 = .ok (.ireturn, 1) := by decide +kernel
theorem dX8_take_11 : decode cX8_take 11 = .ok (.aload_n 0, 1) := by decide +kernel
theorem dX8_take_12 : decode cX8_take 12 = .ok (.invokevirtual 165, 3) := by decide +kernel
theorem dX8_take_15 : decode cX8_take 15 = .ok (.aload_n 0, 1) := by decide +kernel
theorem dX8_take_16 : decode cX8_take 16 = .ok (.getfield 7, 3) := by decide +kernel
theorem dX8_take_19 : decode cX8_take 19 = .ok (.iconst 0, 1) := by decide +kernel
theorem dX8_take_20 : decode cX8_take 20 = .ok (.dup2, 1) := by decide +kernel
theorem dX8_take_21 : decode cX8_take 21 = .ok (.iaload, 1) := by decide +kernel
theorem dX8_take_22 : decode cX8_take 22 = .ok (.iconst 1, 1) := by decide +kernel
theorem dX8_take_23 : decode cX8_take 23 = .ok (.isub, 1) := by decide +kernel
theorem dX8_take_24 : decode cX8_take 24 = .ok (.iastore, 1) := by decide +kernel
theorem dX8_take_25 : decode cX8_take 25 = .ok (.aload_n 0, 1) := by decide +kernel
theorem dX8_take_26 : decode cX8_take 26 = .ok (.getfield 7, 3) := by decide +kernel
theorem dX8_take_29 : decode cX8_take 29 = .ok (.iconst 0, 1) := by decide +kernel
theorem dX8_take_30 : decode cX8_take 30 = .ok (.iaload, 1) := by decide +kernel
theorem dX8_take_31 : decode cX8_take 31 = .ok (.iload_n 1, 1) := by decide +kernel
theorem dX8_take_32 : decode cX8_take 32 = .ok (.isub, 1) := by decide +kernel
theorem dX8_take_33 : decode cX8_take 33 = .ok (.istore_n 2, 1) := by decide +kernel
theorem dX8_take_34 : decode cX8_take 34 = .ok (.aload_n 0, 1) := by decide +kernel
theorem dX8_take_35 : decode cX8_take 35 = .ok (.getfield 7, 3) := by decide +kernel
theorem dX8_take_38 : decode cX8_take 38 = .ok (.bipush 6, 2) := by decide +kernel
theorem dX8_take_40 : decode cX8_take 40 = .ok (.iload_n 1, 1) := by decide +kernel
theorem dX8_take_41 : decode cX8_take 41 = .ok (.iadd, 1) := by decide +kernel
theorem dX8_take_42 : decode cX8_take 42 = .ok (.iconst 1, 1) := by decide +kernel
theorem dX8_take_43 : decode cX8_take 43 = .ok (.iadd, 1) := by decide +kernel
theorem dX8_take_44 : decode cX8_take 44 = .ok (.aload_n 0, 1) := by decide +kernel
theorem dX8_take_45 : decode cX8_take 45 = .ok (.getfield 7, 3) := by decide +kernel
theorem dX8_take_48 : decode cX8_take 48 = .ok (.bipush 6, 2) := by decide +kernel
theorem dX8_take_50 : decode cX8_take 50 = .ok (.iload_n 1, 1) := by decide +kernel
theorem dX8_take_51 : decode cX8_take 51 = .ok (.iadd, 1) := by decide +kernel
theorem dX8_take_52 : decode cX8_take 52 = .ok (.iload_n 2, 1) := by decide +kernel
theorem dX8_take_53 : decode cX8_take 53 = .ok (.invokestatic 73, 3) := by decide +kernel
theorem dX8_take_56 : decode cX8_take 56 = .ok (.aload_n 0, 1) := by decide +kernel
theorem dX8_take_57 : decode cX8_take 57 = .ok (.getfield 7, 3) := by decide +kernel
theorem dX8_take_60 : decode cX8_take 60 = .ok (.bipush 14, 2) := by decide +kernel
theorem dX8_take_62 : decode cX8_take 62 = .ok (.iload_n 1, 1) := by decide +kernel
theorem dX8_take_63 : decode cX8_take 63 = .ok (.iadd, 1) := by decide +kernel
theorem dX8_take_64 : decode cX8_take 64 = .ok (.iconst 1, 1) := by decide +kernel
theorem dX8_take_65 : decode cX8_take 65 = .ok (.iadd, 1) := by decide +kernel
theorem dX8_take_66 : decode cX8_take 66 = .ok (.aload_n 0, 1) := by decide +kernel
theorem dX8_take_67 : decode cX8_take 67 = .ok (.getfield 7, 3) := by decide +kernel
theorem dX8_take_70 : decode cX8_take 70 = .ok (.bipush 14, 2) := by decide +kernel
theorem dX8_take_72 : decode cX8_take 72 = .ok (.iload_n 1, 1) := by decide +kernel
theorem dX8_take_73 : decode cX8_take 73 = .ok (.iadd, 1) := by decide +kernel
theorem dX8_take_74 : decode cX8_take 74 = .ok (.iload_n 2, 1) := by decide +kernel
theorem dX8_take_75 : decode cX8_take 75 = .ok (.invokestatic 73, 3) := by decide +kernel
theorem dX8_take_78 : decode cX8_take 78 = .ok (.aload_n 0, 1) := by decide +kernel
theorem dX8_take_79 : decode cX8_take 79 = .ok (.getfield 7, 3) := by decide +kernel
theorem dX8_take_82 : decode cX8_take 82 = .ok (.bipush 30, 2) := by decide +kernel
theorem dX8_take_84 : decode cX8_take 84 = .ok (.bipush 10, 2) := by decide +kernel
theorem dX8_take_86 : decode cX8_take 86 = .ok (.iload_n 1, 1) := by decide +kernel
theorem dX8_take_87 : decode cX8_take 87 = .ok (.iconst 1, 1) := by decide +kernel
theorem dX8_take_88 : decode cX8_take 88 = .ok (.iadd, 1) := by decide +kernel
theorem dX8_take_89 : decode cX8_take 89 = .ok (.imul, 1) := by decide +kernel
theorem dX8_take_90 : decode cX8_take 90 = .ok (.iadd, 1) := by decide +kernel
theorem dX8_take_91 : decode cX8_take 91 = .ok (.aload_n 0, 1) := by decide +kernel
theorem dX8_take_92 : decode cX8_take 92 = .ok (.getfield 7, 3) := by decide +kernel
theorem dX8_take_95 : decode cX8_take 95 = .ok (.bipush 30, 2) := by decide +kernel
theorem dX8_take_97 : decode cX8_take 97 = .ok (.bipush 10, 2) := by decide +kernel
theorem dX8_take_99 : decode cX8_take 99 = .ok (.iload_n 1, 1) := by decide +kernel
theorem dX8_take_100 : decode cX8_take 100 = .ok (.imul, 1) := by decide +kernel
theorem dX8_take_101 : decode cX8_take 101 = .ok (.iadd, 1) := by decide +kernel
theorem dX8_take_102 : decode cX8_take 102 = .ok (.bipush 10, 2) := by decide +kernel
theorem dX8_take_104 : decode cX8_take 104 = .ok (.iload_n 2, 1) := by decide +kernel
theorem dX8_take_105 : decode cX8_take 105 = .ok (.imul, 1) := by decide +kernel
theorem dX8_take_106 : decode cX8_take 106 = .ok (.invokestatic 73, 3) := by decide +kernel
theorem dX8_take_109 : decode cX8_take 109 = .ok (.aload_n 0, 1) := by decide +kernel
theorem dX8_take_110 : decode cX8_take 110 = .ok (.getfield 7, 3) := by decide +kernel
theorem dX8_take_113 : decode cX8_take 113 = .ok (.iconst 0, 1) := by decide +kernel
theorem dX8_take_114 : decode cX8_take 114 = .ok (.iaload, 1) := by decide +kernel
theorem dX8_take_115 : decode cX8_take 115 = .ok (.ireturn, 1) := by decide +kernel
theorem dX8_cost_0 : decode cX8_cost 0 = .ok (.iload_n 1, 1) := by decide +kernel
theorem dX8_cost_1 : decode cX8_cost 1 = .ok (.iconst 0, 1) := by decide +kernel
theorem dX8_cost_2 : decode cX8_cost 2 = .ok (.iconst 3, 1) := by decide +kernel
theorem dX8_cost_3 : decode cX8_cost 3 = .ok (.invokestatic 62, 3) := by decide +kernel
theorem dX8_cost_6 : decode cX8_cost 6 = .ok (.ifCond .eq 22, 3) := by decide +kernel
theorem dX8_cost_9 : decode cX8_cost 9 = .ok (.iload_n 2, 1) := by decide +kernel
theorem dX8_cost_10 : decode cX8_cost 10 = .ok (.iload_n 1, 1) := by decide +kernel
theorem dX8_cost_11 : decode cX8_cost 11 = .ok (.iconst 2, 1) := by decide +kernel
theorem dX8_cost_12 : decode cX8_cost 12 = .ok (.if_icmp .ne 7, 3) := by decide +kernel
theorem dX8_cost_15 : decode cX8_cost 15 = .ok (.iconst 0, 1) := by decide +kernel
theorem dX8_cost_16 : decode cX8_cost 16 = .ok (.goto 4, 3) := by decide +kernel
theorem dX8_cost_19 : decode cX8_cost 19 = .ok (.iconst 1, 1) := by decide +kernel
theorem dX8_cost_20 : decode cX8_cost 20 = .ok (.bipush 9, 2) := by decide +kernel
theorem dX8_cost_22 : decode cX8_cost 22 = .ok (.invokestatic 62, 3) := by decide +kernel
theorem dX8_cost_25 : decode cX8_cost 25 = .ok (.ifCond .ne 6, 3) := by decide +kernel
theorem dX8_cost_28 : decode cX8_cost 28 = .ok (.ldc 159, 2) := by decide +kernel
theorem dX8_cost_30 : decode cX8_cost 30 = .ok (.ireturn, 1) := by decide +kernel
theorem dX8_cost_31 : decode cX8_cost 31 = .ok (.aload_n 0, 1) := by decide +kernel
theorem dX8_cost_32 : decode cX8_cost 32 = .ok (.getfield 7, 3) := by decide +kernel
theorem dX8_cost_35 : decode cX8_cost 35 = .ok (.iconst 2, 1) := by decide +kernel
theorem dX8_cost_36 : decode cX8_cost 36 = .ok (.iload_n 1, 1) := by decide +kernel
theorem dX8_cost_37 : decode cX8_cost 37 = .ok (.iadd, 1) := by decide +kernel
theorem dX8_cost_38 : decode cX8_cost 38 = .ok (.iaload, 1) := by decide +kernel
theorem dX8_cost_39 : decode cX8_cost 39 = .ok (.istore_n 3, 1) := by decide +kernel
theorem dX8_cost_40 : decode cX8_cost 40 = .ok (.aload_n 0, 1) := by decide +kernel
theorem dX8_cost_41 : decode cX8_cost 41 = .ok (.invokevirtual 165, 3) := by decide +kernel
theorem dX8_cost_44 : decode cX8_cost 44 = .ok (.aload_n 0, 1) := by decide +kernel
theorem dX8_cost_45 : decode cX8_cost 45 = .ok (.getfield 7, 3) := by decide +kernel
theorem dX8_cost_48 : decode cX8_cost 48 = .ok (.iconst 2, 1) := by decide +kernel
theorem dX8_cost_49 : decode cX8_cost 49 = .ok (.iload_n 1, 1) := by decide +kernel
theorem dX8_cost_50 : decode cX8_cost 50 = .ok (.iadd, 1) := by decide +kernel
theorem dX8_cost_51 : decode cX8_cost 51 = .ok (.iload_n 2, 1) := by decide +kernel
theorem dX8_cost_52 : decode cX8_cost 52 = .ok (.iastore, 1) := by decide +kernel
theorem dX8_cost_53 : decode cX8_cost 53 = .ok (.iload_n 3, 1) := by decide +kernel
theorem dX8_cost_54 : decode cX8_cost 54 = .ok (.ireturn, 1) := by decide +kernel
theorem dX8_kind_0 : decode cX8_kind 0 = .ok (.iload_n 1, 1) := by decide +kernel
theorem dX8_kind_1 : decode cX8_kind 1 = .ok (.iconst 0, 1) := by decide +kernel
theorem dX8_kind_2 : decode cX8_kind 2 = .ok (.iconst 2, 1) := by decide +kernel
theorem dX8_kind_3 : decode cX8_kind 3 = .ok (.invokestatic 62, 3) := by decide +kernel
theorem dX8_kind_6 : decode cX8_kind 6 = .ok (.ifCond .ne 6, 3) := by decide +kernel
theorem dX8_kind_9 : decode cX8_kind 9 = .ok (.ldc 159, 2) := by decide +kernel
theorem dX8_kind_11 : decode cX8_kind 11 = .ok (.ireturn, 1) := by decide +kernel
theorem dX8_kind_12 : decode cX8_kind 12 = .ok (.aload_n 0, 1) := by decide +kernel
theorem dX8_kind_13 : decode cX8_kind 13 = .ok (.getfield 7, 3) := by decide +kernel
theorem dX8_kind_16 : decode cX8_kind 16 = .ok (.iconst 1, 1) := by decide +kernel
theorem dX8_kind_17 : decode cX8_kind 17 = .ok (.iaload, 1) := by decide +kernel
theorem dX8_kind_18 : decode cX8_kind 18 = .ok (.istore_n 2, 1) := by decide +kernel
theorem dX8_kind_19 : decode cX8_kind 19 = .ok (.aload_n 0, 1) := by decide +kernel
theorem dX8_kind_20 : decode cX8_kind 20 = .ok (.invokevirtual 165, 3) := by decide +kernel
theorem dX8_kind_23 : decode cX8_kind 23 = .ok (.aload_n 0, 1) := by decide +kernel
theorem dX8_kind_24 : decode cX8_kind 24 = .ok (.getfield 7, 3) := by decide +kernel
theorem dX8_kind_27 : decode cX8_kind 27 = .ok (.iconst 1, 1) := by decide +kernel
theorem dX8_kind_28 : decode cX8_kind 28 = .ok (.iload_n 1, 1) := by decide +kernel
theorem dX8_kind_29 : decode cX8_kind 29 = .ok (.iastore, 1) := by decide +kernel
theorem dX8_kind_30 : decode cX8_kind 30 = .ok (.iload_n 2, 1) := by decide +kernel
theorem dX8_kind_31 : decode cX8_kind 31 = .ok (.ireturn, 1) := by decide +kernel
theorem dX8_isPlace_0 : decode cX8_isPlace 0 = .ok (.iload_n 0, 1) := by decide +kernel
theorem dX8_isPlace_1 : decode cX8_isPlace 1 = .ok (.iconst 0, 1) := by decide +kernel
theorem dX8_isPlace_2 : decode cX8_isPlace 2 = .ok (.bipush 7, 2) := by decide +kernel
theorem dX8_isPlace_4 : decode cX8_isPlace 4 = .ok (.invokestatic 62, 3) := by decide +kernel
theorem dX8_isPlace_7 : decode cX8_isPlace 7 = .ok (.ireturn, 1) := by decide +kernel
theorem dX8_road_0 : decode cX8_road 0 = .ok (.iload_n 1, 1) := by decide +kernel
theorem dX8_road_1 : decode cX8_road 1 = .ok (.invokestatic 202, 3) := by decide +kernel
theorem dX8_road_4 : decode cX8_road 4 = .ok (.ifCond .eq 15, 3) := by decide +kernel
theorem dX8_road_7 : decode cX8_road 7 = .ok (.iload_n 2, 1) := by decide +kernel
theorem dX8_road_8 : decode cX8_road 8 = .ok (.invokestatic 202, 3) := by decide +kernel
theorem dX8_road_11 : decode cX8_road 11 = .ok (.ifCond .eq 8, 3) := by decide +kernel
theorem dX8_road_14 : decode cX8_road 14 = .ok (.iload_n 1, 1) := by decide +kernel
theorem dX8_road_15 : decode cX8_road 15 = .ok (.iload_n 2, 1) := by decide +kernel
theorem dX8_road_16 : decode cX8_road 16 = .ok (.if_icmp .ne 6, 3) := by decide +kernel
theorem dX8_road_19 : decode cX8_road 19 = .ok (.ldc 183, 2) := by decide +kernel
theorem dX8_road_21 : decode cX8_road 21 = .ok (.ireturn, 1) := by decide +kernel
theorem dX8_road_22 : decode cX8_road 22 = .ok (.aload_n 0, 1) := by decide +kernel
theorem dX8_road_23 : decode cX8_road 23 = .ok (.invokevirtual 165, 3) := by decide +kernel
theorem dX8_road_26 : decode cX8_road 26 = .ok (.aload_n 0, 1) := by decide +kernel
theorem dX8_road_27 : decode cX8_road 27 = .ok (.getfield 7, 3) := by decide +kernel
theorem dX8_road_30 : decode cX8_road 30 = .ok (.bipush 22, 2) := by decide +kernel
theorem dX8_road_32 : decode cX8_road 32 = .ok (.iload_n 1, 1) := by decide +kernel
theorem dX8_road_33 : decode cX8_road 33 = .ok (.iadd, 1) := by decide +kernel
theorem dX8_road_34 : decode cX8_road 34 = .ok (.iload_n 3, 1) := by decide +kernel
theorem dX8_road_35 : decode cX8_road 35 = .ok (.ifCond .eq 19, 3) := by decide +kernel
theorem dX8_road_38 : decode cX8_road 38 = .ok (.aload_n 0, 1) := by decide +kernel
theorem dX8_road_39 : decode cX8_road 39 = .ok (.getfield 7, 3) := by decide +kernel
theorem dX8_road_42 : decode cX8_road 42 = .ok (.bipush 22, 2) := by decide +kernel
theorem dX8_road_44 : decode cX8_road 44 = .ok (.iload_n 1, 1) := by decide +kernel
theorem dX8_road_45 : decode cX8_road 45 = .ok (.iadd, 1) := by decide +kernel
theorem dX8_road_46 : decode cX8_road 46 = .ok (.iaload, 1) := by decide +kernel
theorem dX8_road_47 : decode cX8_road 47 = .ok (.iconst 1, 1) := by decide +kernel
theorem dX8_road_48 : decode cX8_road 48 = .ok (.iload_n 2, 1) := by decide +kernel
theorem dX8_road_49 : decode cX8_road 49 = .ok (.ishl, 1) := by decide +kernel
theorem dX8_road_50 : decode cX8_road 50 = .ok (.ior, 1) := by decide +kernel
theorem dX8_road_51 : decode cX8_road 51 = .ok (.goto 18, 3) := by decide +kernel
theorem dX8_road_54 : decode cX8_road 54 = .ok (.aload_n 0, 1) := by decide +kernel
theorem dX8_road_55 : decode cX8_road 55 = .ok (.getfield 7, 3) := by decide +kernel
theorem dX8_road_58 : decode cX8_road 58 = .ok (.bipush 22, 2) := by decide +kernel
theorem dX8_road_60 : decode cX8_road 60 = .ok (.iload_n 1, 1) := by decide +kernel
theorem dX8_road_61 : decode cX8_road 61 = .ok (.iadd, 1) := by decide +kernel
theorem dX8_road_62 : decode cX8_road 62 = .ok (.iaload, 1) := by decide +kernel
theorem dX8_road_63 : decode cX8_road 63 = .ok (.iconst 1, 1) := by decide +kernel
theorem dX8_road_64 : decode cX8_road 64 = .ok (.iload_n 2, 1) := by decide +kernel
theorem dX8_road_65 : decode cX8_road 65 = .ok (.ishl, 1) := by decide +kernel
theorem dX8_road_66 : decode cX8_road 66 = .ok (.iconst (-1), 1) := by decide +kernel
theorem dX8_road_67 : decode cX8_road 67 = .ok (.ixor, 1) := by decide +kernel
theorem dX8_road_68 : decode cX8_road 68 = .ok (.iand, 1) := by decide +kernel
theorem dX8_road_69 : decode cX8_road 69 = .ok (.iastore, 1) := by decide +kernel
theorem dX8_road_70 : decode cX8_road 70 = .ok (.aload_n 0, 1) := by decide +kernel
theorem dX8_road_71 : decode cX8_road 71 = .ok (.getfield 7, 3) := by decide +kernel
theorem dX8_road_74 : decode cX8_road 74 = .ok (.bipush 22, 2) := by decide +kernel
theorem dX8_road_76 : decode cX8_road 76 = .ok (.iload_n 2, 1) := by decide +kernel
theorem dX8_road_77 : decode cX8_road 77 = .ok (.iadd, 1) := by decide +kernel
theorem dX8_road_78 : decode cX8_road 78 = .ok (.iload_n 3, 1) := by decide +kernel
theorem dX8_road_79 : decode cX8_road 79 = .ok (.ifCond .eq 19, 3) := by decide +kernel
theorem dX8_road_82 : decode cX8_road 82 = .ok (.aload_n 0, 1) := by decide +kernel
theorem dX8_road_83 : decode cX8_road 83 = .ok (.getfield 7, 3) := by decide +kernel
theorem dX8_road_86 : decode cX8_road 86 = .ok (.bipush 22, 2) := by decide +kernel
theorem dX8_road_88 : decode cX8_road 88 = .ok (.iload_n 2, 1) := by decide +kernel
theorem dX8_road_89 : decode cX8_road 89 = .ok (.iadd, 1) := by decide +kernel
theorem dX8_road_90 : decode cX8_road 90 = .ok (.iaload, 1) := by decide +kernel
theorem dX8_road_91 : decode cX8_road 91 = .ok (.iconst 1, 1) := by decide +kernel
theorem dX8_road_92 : decode cX8_road 92 = .ok (.iload_n 1, 1) := by decide +kernel
theorem dX8_road_93 : decode cX8_road 93 = .ok (.ishl, 1) := by decide +kernel
theorem dX8_road_94 : decode cX8_road 94 = .ok (.ior, 1) := by decide +kernel
theorem dX8_road_95 : decode cX8_road 95 = .ok (.goto 18, 3) := by decide +kernel
theorem dX8_road_98 : decode cX8_road 98 = .ok (.aload_n 0, 1) := by decide +kernel
theorem dX8_road_99 : decode cX8_road 99 = .ok (.getfield 7, 3) := by decide +kernel
theorem dX8_road_102 : decode cX8_road 102 = .ok (.bipush 22, 2) := by decide +kernel
theorem dX8_road_104 : decode cX8_road 104 = .ok (.iload_n 2, 1) := by decide +kernel
theorem dX8_road_105 : decode cX8_road 105 = .ok (.iadd, 1) := by decide +kernel
theorem dX8_road_106 : decode cX8_road 106 = .ok (.iaload, 1) := by decide +kernel
theorem dX8_road_107 : decode cX8_road 107 = .ok (.iconst 1, 1) := by decide +kernel
theorem dX8_road_108 : decode cX8_road 108 = .ok (.iload_n 1, 1) := by decide +kernel
theorem dX8_road_109 : decode cX8_road 109 = .ok (.ishl, 1) := by decide +kernel
theorem dX8_road_110 : decode cX8_road 110 = .ok (.iconst (-1), 1) := by decide +kernel
theorem dX8_road_111 : decode cX8_road 111 = .ok (.ixor, 1) := by decide +kernel
theorem dX8_road_112 : decode cX8_road 112 = .ok (.iand, 1) := by decide +kernel
theorem dX8_road_113 : decode cX8_road 113 = .ok (.iastore, 1) := by decide +kernel
theorem dX8_road_114 : decode cX8_road 114 = .ok (.iconst 0, 1) := by decide +kernel
theorem dX8_road_115 : decode cX8_road 115 = .ok (.istore 4, 2) := by decide +kernel
theorem dX8_road_117 : decode cX8_road 117 = .ok (.iconst 0, 1) := by decide +kernel
theorem dX8_road_118 : decode cX8_road 118 = .ok (.istore 5, 2) := by decide +kernel
theorem dX8_road_120 : decode cX8_road 120 = .ok (.iload 5, 2) := by decide +kernel
theorem dX8_road_122 : decode cX8_road 122 = .ok (.bipush 8, 2) := by decide +kernel
theorem dX8_road_124 : decode cX8_road 124 = .ok (.if_icmp .ge 27, 3) := by decide +kernel
theorem dX8_road_127 : decode cX8_road 127 = .ok (.iload 4, 2) := by decide +kernel
theorem dX8_road_129 : decode cX8_road 129 = .ok (.aload_n 0, 1) := by decide +kernel
theorem dX8_road_130 : decode cX8_road 130 = .ok (.getfield 7, 3) := by decide +kernel
theorem dX8_road_133 : decode cX8_road 133 = .ok (.bipush 22, 2) := by decide +kernel
theorem dX8_road_135 : decode cX8_road 135 = .ok (.iload 5, 2) := by decide +kernel
theorem dX8_road_137 : decode cX8_road 137 = .ok (.iadd, 1) := by decide +kernel
theorem dX8_road_138 : decode cX8_road 138 = .ok (.iaload, 1) := by decide +kernel
theorem dX8_road_139 : decode cX8_road 139 = .ok (.invokestatic 121, 3) := by decide +kernel
theorem dX8_road_142 : decode cX8_road 142 = .ok (.iadd, 1) := by decide +kernel
theorem dX8_road_143 : decode cX8_road 143 = .ok (.istore 4, 2) := by decide +kernel
theorem dX8_road_145 : decode cX8_road 145 = .ok (.iinc 5 1, 3) := by decide +kernel
theorem dX8_road_148 : decode cX8_road 148 = .ok (.goto (-28), 3) := by decide +kernel
theorem dX8_road_151 : decode cX8_road 151 = .ok (.iload 4, 2) := by decide +kernel
theorem dX8_road_153 : decode cX8_road 153 = .ok (.iconst 2, 1) := by decide +kernel
theorem dX8_road_154 : decode cX8_road 154 = .ok (.idiv, 1) := by decide +kernel
theorem dX8_road_155 : decode cX8_road 155 = .ok (.ireturn, 1) := by decide +kernel
theorem dX8_at_0 : decode cX8_at 0 = .ok (.aload_n 0, 1) := by decide +kernel
theorem dX8_at_1 : decode cX8_at 1 = .ok (.iload_n 1, 1) := by decide +kernel
theorem dX8_at_2 : decode cX8_at 2 = .ok (.invokevirtual 171, 3) := by decide +kernel
theorem dX8_at_5 : decode cX8_at 5 = .ok (.ifCond .ne 6, 3) := by decide +kernel
theorem dX8_at_8 : decode cX8_at 8 = .ok (.ldc 183, 2) := by decide +kernel
theorem dX8_at_10 : decode cX8_at 10 = .ok (.ireturn, 1) := by decide +kernel
theorem dX8_at_11 : decode cX8_at 11 = .ok (.iload_n 2, 1) := by decide +kernel
theorem dX8_at_12 : decode cX8_at 12 = .ok (.iconst 0, 1) := by decide +kernel
theorem dX8_at_13 : decode cX8_at 13 = .ok (.sipush 255, 3) := by decide +kernel
theorem dX8_at_16 : decode cX8_at 16 = .ok (.invokestatic 62, 3) := by decide +kernel
theorem dX8_at_19 : decode cX8_at 19 = .ok (.ifCond .ne 6, 3) := by decide +kernel
theorem dX8_at_22 : decode cX8_at 22 = .ok (.ldc 159, 2) := by decide +kernel
theorem dX8_at_24 : decode cX8_at 24 = .ok (.ireturn, 1) := by decide +kernel
theorem dX8_at_25 : decode cX8_at 25 = .ok (.aload_n 0, 1) := by decide +kernel
theorem dX8_at_26 : decode cX8_at 26 = .ok (.invokevirtual 165, 3) := by decide +kernel
theorem dX8_at_29 : decode cX8_at 29 = .ok (.aload_n 0, 1) := by decide +kernel
theorem dX8_at_30 : decode cX8_at 30 = .ok (.getfield 7, 3) := by decide +kernel
theorem dX8_at_33 : decode cX8_at 33 = .ok (.bipush 14, 2) := by decide +kernel
theorem dX8_at_35 : decode cX8_at 35 = .ok (.iload_n 1, 1) := by decide +kernel
theorem dX8_at_36 : decode cX8_at 36 = .ok (.iadd, 1) := by decide +kernel
theorem dX8_at_37 : decode cX8_at 37 = .ok (.iload_n 2, 1) := by decide +kernel
theorem dX8_at_38 : decode cX8_at 38 = .ok (.iastore, 1) := by decide +kernel
theorem dX8_at_39 : decode cX8_at 39 = .ok (.aload_n 0, 1) := by decide +kernel
theorem dX8_at_40 : decode cX8_at 40 = .ok (.iload_n 2, 1) := by decide +kernel
theorem dX8_at_41 : decode cX8_at 41 = .ok (.invokevirtual 184, 3) := by decide +kernel
theorem dX8_at_44 : decode cX8_at 44 = .ok (.ireturn, 1) := by decide +kernel
theorem dX8_draw_0 : decode cX8_draw 0 = .ok (.aload_n 0, 1) := by decide +kernel
theorem dX8_draw_1 : decode cX8_draw 1 = .ok (.getfield 205, 3) := by decide +kernel
theorem dX8_draw_4 : decode cX8_draw 4 = .ok (.i2l, 1) := by decide +kernel
theorem dX8_draw_5 : decode cX8_draw 5 = .ok (.ldc2_w 208, 3) := by decide +kernel
theorem dX8_draw_8 : decode cX8_draw 8 = .ok (.lmul, 1) := by decide +kernel
theorem dX8_draw_9 : decode cX8_draw 9 = .ok (.ldc2_w 210, 3) := by decide +kernel
theorem dX8_draw_12 : decode cX8_draw 12 = .ok (.ladd, 1) := by decide +kernel
theorem dX8_draw_13 : decode cX8_draw 13 = .ok (.ldc2_w 212, 3) := by decide +kernel
theorem dX8_draw_16 : decode cX8_draw 16 = .ok (.lrem, 1) := by decide +kernel
theorem dX8_draw_17 : decode cX8_draw 17 = .ok (.lstore_n 2, 1) := by decide +kernel
theorem dX8_draw_18 : decode cX8_draw 18 = .ok (.aload_n 0, 1) := by decide +kernel
theorem dX8_draw_19 : decode cX8_draw 19 = .ok (.lload_n 2, 1) := by decide +kernel
theorem dX8_draw_20 : decode cX8_draw 20 = .ok (.l2i, 1) := by decide +kernel
theorem dX8_draw_21 : decode cX8_draw 21 = .ok (.putfield 205, 3) := by decide +kernel
theorem dX8_draw_24 : decode cX8_draw 24 = .ok (.aload_n 0, 1) := by decide +kernel
theorem dX8_draw_25 : decode cX8_draw 25 = .ok (.getfield 205, 3) := by decide +kernel
theorem dX8_draw_28 : decode cX8_draw 28 = .ok (.ldc 214, 2) := by decide +kernel
theorem dX8_draw_30 : decode cX8_draw 30 = .ok (.idiv, 1) := by decide +kernel
theorem dX8_draw_31 : decode cX8_draw 31 = .ok (.iload_n 1, 1) := by decide +kernel
theorem dX8_draw_32 : decode cX8_draw 32 = .ok (.irem, 1) := by decide +kernel
theorem dX8_draw_33 : decode cX8_draw 33 = .ok (.ireturn, 1) := by decide +kernel
theorem dX8_drift_0 : decode cX8_drift 0 = .ok (.iload_n 1, 1) := by decide +kernel
theorem dX8_drift_1 : decode cX8_drift 1 = .ok (.iconst 1, 1) := by decide +kernel
theorem dX8_drift_2 : decode cX8_drift 2 = .ok (.bipush 8, 2) := by decide +kernel
theorem dX8_drift_4 : decode cX8_drift 4 = .ok (.invokestatic 62, 3) := by decide +kernel
theorem dX8_drift_7 : decode cX8_drift 7 = .ok (.ifCond .ne 6, 3) := by decide +kernel
theorem dX8_drift_10 : decode cX8_drift 10 = .ok (.ldc 159, 2) := by decide +kernel
theorem dX8_drift_12 : decode cX8_drift 12 = .ok (.ireturn, 1) := by decide +kernel
theorem dX8_drift_13 : decode cX8_drift 13 = .ok (.iconst 0, 1) := by decide +kernel
theorem dX8_drift_14 : decode cX8_drift 14 = .ok (.istore_n 2, 1) := by decide +kernel
theorem dX8_drift_15 : decode cX8_drift 15 = .ok (.iload_n 2, 1) := by decide +kernel
theorem dX8_drift_16 : decode cX8_drift 16 = .ok (.iload_n 1, 1) := by decide +kernel
theorem dX8_drift_17 : decode cX8_drift 17 = .ok (.if_icmp .ge 117, 3) := by decide +kernel
theorem dX8_drift_20 : decode cX8_drift 20 = .ok (.aload_n 0, 1) := by decide +kernel
theorem dX8_drift_21 : decode cX8_drift 21 = .ok (.getfield 7, 3) := by decide +kernel
theorem dX8_drift_24 : decode cX8_drift 24 = .ok (.iconst 0, 1) := by decide +kernel
theorem dX8_drift_25 : decode cX8_drift 25 = .ok (.iaload, 1) := by decide +kernel
theorem dX8_drift_26 : decode cX8_drift 26 = .ok (.bipush 8, 2) := by decide +kernel
theorem dX8_drift_28 : decode cX8_drift 28 = .ok (.if_icmp .ge 106, 3) := by decide +kernel
theorem dX8_drift_31 : decode cX8_drift 31 = .ok (.aload_n 0, 1) := by decide +kernel
theorem dX8_drift_32 : decode cX8_drift 32 = .ok (.invokevirtual 165, 3) := by decide +kernel
theorem dX8_drift_35 : decode cX8_drift 35 = .ok (.aload_n 0, 1) := by decide +kernel
theorem dX8_drift_36 : decode cX8_drift 36 = .ok (.getfield 7, 3) := by decide +kernel
theorem dX8_drift_39 : decode cX8_drift 39 = .ok (.iconst 0, 1) := by decide +kernel
theorem dX8_drift_40 : decode cX8_drift 40 = .ok (.iaload, 1) := by decide +kernel
theorem dX8_drift_41 : decode cX8_drift 41 = .ok (.istore_n 3, 1) := by decide +kernel
theorem dX8_drift_42 : decode cX8_drift 42 = .ok (.aload_n 0, 1) := by decide +kernel
theorem dX8_drift_43 : decode cX8_drift 43 = .ok (.getfield 7, 3) := by decide +kernel
theorem dX8_drift_46 : decode cX8_drift 46 = .ok (.bipush 6, 2) := by decide +kernel
theorem dX8_drift_48 : decode cX8_drift 48 = .ok (.iload_n 3, 1) := by decide +kernel
theorem dX8_drift_49 : decode cX8_drift 49 = .ok (.iadd, 1) := by decide +kernel
theorem dX8_drift_50 : decode cX8_drift 50 = .ok (.aload_n 0, 1) := by decide +kernel
theorem dX8_drift_51 : decode cX8_drift 51 = .ok (.bipush 7, 2) := by decide +kernel
theorem dX8_drift_53 : decode cX8_drift 53 = .ok (.invokevirtual 215, 3) := by decide +kernel
theorem dX8_drift_56 : decode cX8_drift 56 = .ok (.iconst 2, 1) := by decide +kernel
theorem dX8_drift_57 : decode cX8_drift 57 = .ok (.iadd, 1) := by decide +kernel
theorem dX8_drift_58 : decode cX8_drift 58 = .ok (.iastore, 1) := by decide +kernel
theorem dX8_drift_59 : decode cX8_drift 59 = .ok (.iconst 0, 1) := by decide +kernel
theorem dX8_drift_60 : decode cX8_drift 60 = .ok (.istore 4, 2) := by decide +kernel
theorem dX8_drift_62 : decode cX8_drift 62 = .ok (.iload 4, 2) := by decide +kernel
theorem dX8_drift_64 : decode cX8_drift 64 = .ok (.aload_n 0, 1) := by decide +kernel
theorem dX8_drift_65 : decode cX8_drift 65 = .ok (.getfield 7, 3) := by decide +kernel
theorem dX8_drift_68 : decode cX8_drift 68 = .ok (.bipush 6, 2) := by decide +kernel
theorem dX8_drift_70 : decode cX8_drift 70 = .ok (.iload_n 3, 1) := by decide +kernel
theorem dX8_drift_71 : decode cX8_drift 71 = .ok (.iadd, 1) := by decide +kernel
theorem dX8_drift_72 : decode cX8_drift 72 = .ok (.iaload, 1) := by decide +kernel
theorem dX8_drift_73 : decode cX8_drift 73 = .ok (.if_icmp .ge 29, 3) := by decide +kernel
theorem dX8_drift_76 : decode cX8_drift 76 = .ok (.aload_n 0, 1) := by decide +kernel
theorem dX8_drift_77 : decode cX8_drift 77 = .ok (.getfield 7, 3) := by decide +kernel
theorem dX8_drift_80 : decode cX8_drift 80 = .ok (.bipush 30, 2) := by decide +kernel
theorem dX8_drift_82 : decode cX8_drift 82 = .ok (.bipush 10, 2) := by decide +kernel
theorem dX8_drift_84 : decode cX8_drift 84 = .ok (.iload_n 3, 1) := by decide +kernel
theorem dX8_drift_85 : decode cX8_drift 85 = .ok (.imul, 1) := by decide +kernel
theorem dX8_drift_86 : decode cX8_drift 86 = .ok (.iadd, 1) := by decide +kernel
theorem dX8_drift_87 : decode cX8_drift 87 = .ok (.iload 4, 2) := by decide +kernel
theorem dX8_drift_89 : decode cX8_drift 89 = .ok (.iadd, 1) := by decide +kernel
theorem dX8_drift_90 : decode cX8_drift 90 = .ok (.aload_n 0, 1) := by decide +kernel
theorem dX8_drift_91 : decode cX8_drift 91 = .ok (.iconst 5, 1) := by decide +kernel
theorem dX8_drift_92 : decode cX8_drift 92 = .ok (.invokevirtual 215, 3) := by decide +kernel
theorem dX8_drift_95 : decode cX8_drift 95 = .ok (.iastore, 1) := by decide +kernel
theorem dX8_drift_96 : decode cX8_drift 96 = .ok (.iinc 4 1, 3) := by decide +kernel
theorem dX8_drift_99 : decode cX8_drift 99 = .ok (.goto (-37), 3) := by decide +kernel
theorem dX8_drift_102 : decode cX8_drift 102 = .ok (.aload_n 0, 1) := by decide +kernel
theorem dX8_drift_103 : decode cX8_drift 103 = .ok (.getfield 7, 3) := by decide +kernel
theorem dX8_drift_106 : decode cX8_drift 106 = .ok (.bipush 14, 2) := by decide +kernel
theorem dX8_drift_108 : decode cX8_drift 108 = .ok (.iload_n 3, 1) := by decide +kernel
theorem dX8_drift_109 : decode cX8_drift 109 = .ok (.iadd, 1) := by decide +kernel
theorem dX8_drift_110 : decode cX8_drift 110 = .ok (.aload_n 0, 1) := by decide +kernel
theorem dX8_drift_111 : decode cX8_drift 111 = .ok (.sipush 256, 3) := by decide +kernel
theorem dX8_drift_114 : decode cX8_drift 114 = .ok (.invokevirtual 215, 3) := by decide +kernel
theorem dX8_drift_117 : decode cX8_drift 117 = .ok (.iastore, 1) := by decide +kernel
theorem dX8_drift_118 : decode cX8_drift 118 = .ok (.aload_n 0, 1) := by decide +kernel
theorem dX8_drift_119 : decode cX8_drift 119 = .ok (.getfield 7, 3) := by decide +kernel
theorem dX8_drift_122 : decode cX8_drift 122 = .ok (.iconst 0, 1) := by decide +kernel
theorem dX8_drift_123 : decode cX8_drift 123 = .ok (.dup2, 1) := by decide +kernel
theorem dX8_drift_124 : decode cX8_drift 124 = .ok (.iaload, 1) := by decide +kernel
theorem dX8_drift_125 : decode cX8_drift 125 = .ok (.iconst 1, 1) := by decide +kernel
theorem dX8_drift_126 : decode cX8_drift 126 = .ok (.iadd, 1) := by decide +kernel
theorem dX8_drift_127 : decode cX8_drift 127 = .ok (.iastore, 1) := by decide +kernel
theorem dX8_drift_128 : decode cX8_drift 128 = .ok (.iinc 2 1, 3) := by decide +kernel
theorem dX8_drift_131 : decode cX8_drift 131 = .ok (.goto (-116), 3) := by decide +kernel
theorem dX8_drift_134 : decode cX8_drift 134 = .ok (.aload_n 0, 1) := by decide +kernel
theorem dX8_drift_135 : decode cX8_drift 135 = .ok (.getfield 7, 3) := by decide +kernel
theorem dX8_drift_138 : decode cX8_drift 138 = .ok (.iconst 0, 1) := by decide +kernel
theorem dX8_drift_139 : decode cX8_drift 139 = .ok (.iaload, 1) := by decide +kernel
theorem dX8_drift_140 : decode cX8_drift 140 = .ok (.ireturn, 1) := by decide +kernel
theorem dX8_undo_0 : decode cX8_undo 0 = .ok (.iload_n 1, 1) := by decide +kernel
theorem dX8_undo_1 : decode cX8_undo 1 = .ok (.iconst 1, 1) := by decide +kernel
theorem dX8_undo_2 : decode cX8_undo 2 = .ok (.bipush 16, 2) := by decide +kernel
theorem dX8_undo_4 : decode cX8_undo 4 = .ok (.invokestatic 62, 3) := by decide +kernel
theorem dX8_undo_7 : decode cX8_undo 7 = .ok (.ifCond .ne 6, 3) := by decide +kernel
theorem dX8_undo_10 : decode cX8_undo 10 = .ok (.ldc 159, 2) := by decide +kernel
theorem dX8_undo_12 : decode cX8_undo 12 = .ok (.ireturn, 1) := by decide +kernel
theorem dX8_undo_13 : decode cX8_undo 13 = .ok (.iload_n 1, 1) := by decide +kernel
theorem dX8_undo_14 : decode cX8_undo 14 = .ok (.aload_n 0, 1) := by decide +kernel
theorem dX8_undo_15 : decode cX8_undo 15 = .ok (.getfield 161, 3) := by decide +kernel
theorem dX8_undo_18 : decode cX8_undo 18 = .ok (.if_icmp .le 6, 3) := by decide +kernel
theorem dX8_undo_21 : decode cX8_undo 21 = .ok (.ldc 164, 2) := by decide +kernel
theorem dX8_undo_23 : decode cX8_undo 23 = .ok (.ireturn, 1) := by decide +kernel
theorem dX8_undo_24 : decode cX8_undo 24 = .ok (.aload_n 0, 1) := by decide +kernel
theorem dX8_undo_25 : decode cX8_undo 25 = .ok (.dup, 1) := by decide +kernel
theorem dX8_undo_26 : decode cX8_undo 26 = .ok (.getfield 161, 3) := by decide +kernel
theorem dX8_undo_29 : decode cX8_undo 29 = .ok (.iload_n 1, 1) := by decide +kernel
theorem dX8_undo_30 : decode cX8_undo 30 = .ok (.isub, 1) := by decide +kernel
theorem dX8_undo_31 : decode cX8_undo 31 = .ok (.putfield 161, 3) := by decide +kernel
theorem dX8_undo_34 : decode cX8_undo 34 = .ok (.aload_n 0, 1) := by decide +kernel
theorem dX8_undo_35 : decode cX8_undo 35 = .ok (.getfield 13, 3) := by decide +kernel
theorem dX8_undo_38 : decode cX8_undo 38 = .ok (.bipush 110, 2) := by decide +kernel
theorem dX8_undo_40 : decode cX8_undo 40 = .ok (.aload_n 0, 1) := by decide +kernel
theorem dX8_undo_41 : decode cX8_undo 41 = .ok (.getfield 161, 3) := by decide +kernel
theorem dX8_undo_44 : decode cX8_undo 44 = .ok (.imul, 1) := by decide +kernel
theorem dX8_undo_45 : decode cX8_undo 45 = .ok (.aload_n 0, 1) := by decide +kernel
theorem dX8_undo_46 : decode cX8_undo 46 = .ok (.getfield 7, 3) := by decide +kernel
theorem dX8_undo_49 : decode cX8_undo 49 = .ok (.iconst 0, 1) := by decide +kernel
theorem dX8_undo_50 : decode cX8_undo 50 = .ok (.bipush 110, 2) := by decide +kernel
theorem dX8_undo_52 : decode cX8_undo 52 = .ok (.invokestatic 73, 3) := by decide +kernel
theorem dX8_undo_55 : decode cX8_undo 55 = .ok (.aload_n 0, 1) := by decide +kernel
theorem dX8_undo_56 : decode cX8_undo 56 = .ok (.getfield 7, 3) := by decide +kernel
theorem dX8_undo_59 : decode cX8_undo 59 = .ok (.iconst 0, 1) := by decide +kernel
theorem dX8_undo_60 : decode cX8_undo 60 = .ok (.iaload, 1) := by decide +kernel
theorem dX8_undo_61 : decode cX8_undo 61 = .ok (.ireturn, 1) := by decide +kernel
theorem dX8_write_0 : decode cX8_write 0 = .ok (.aload_n 0, 1) := by decide +kernel
theorem dX8_write_1 : decode cX8_write 1 = .ok (.iload_n 1, 1) := by decide +kernel
theorem dX8_write_2 : decode cX8_write 2 = .ok (.invokevirtual 171, 3) := by decide +kernel
theorem dX8_write_5 : decode cX8_write 5 = .ok (.ifCond .eq 11, 3) := by decide +kernel
theorem dX8_write_8 : decode cX8_write 8 = .ok (.aload_n 0, 1) := by decide +kernel
theorem dX8_write_9 : decode cX8_write 9 = .ok (.iload_n 2, 1) := by decide +kernel
theorem dX8_write_10 : decode cX8_write 10 = .ok (.invokevirtual 171, 3) := by decide +kernel
theorem dX8_write_13 : decode cX8_write 13 = .ok (.ifCond .ne 6, 3) := by decide +kernel
theorem dX8_write_16 : decode cX8_write 16 = .ok (.ldc 183, 2) := by decide +kernel
theorem dX8_write_18 : decode cX8_write 18 = .ok (.ireturn, 1) := by decide +kernel
theorem dX8_write_19 : decode cX8_write 19 = .ok (.aload_n 0, 1) := by decide +kernel
theorem dX8_write_20 : decode cX8_write 20 = .ok (.getfield 168, 3) := by decide +kernel
theorem dX8_write_23 : decode cX8_write 23 = .ok (.bipush 20, 2) := by decide +kernel
theorem dX8_write_25 : decode cX8_write 25 = .ok (.if_icmp .ne 6, 3) := by decide +kernel
theorem dX8_write_28 : decode cX8_write 28 = .ok (.ldc 160, 2) := by decide +kernel
theorem dX8_write_30 : decode cX8_write 30 = .ok (.ireturn, 1) := by decide +kernel
theorem dX8_write_31 : decode cX8_write 31 = .ok (.aload_n 0, 1) := by decide +kernel
theorem dX8_write_32 : decode cX8_write 32 = .ok (.getfield 26, 3) := by decide +kernel
theorem dX8_write_35 : decode cX8_write 35 = .ok (.iconst 3, 1) := by decide +kernel
theorem dX8_write_36 : decode cX8_write 36 = .ok (.aload_n 0, 1) := by decide +kernel
theorem dX8_write_37 : decode cX8_write 37 = .ok (.getfield 168, 3) := by decide +kernel
theorem dX8_write_40 : decode cX8_write 40 = .ok (.imul, 1) := by decide +kernel
theorem dX8_write_41 : decode cX8_write 41 = .ok (.iload_n 1, 1) := by decide +kernel
theorem dX8_write_42 : decode cX8_write 42 = .ok (.iastore, 1) := by decide +kernel
theorem dX8_write_43 : decode cX8_write 43 = .ok (.aload_n 0, 1) := by decide +kernel
theorem dX8_write_44 : decode cX8_write 44 = .ok (.getfield 26, 3) := by decide +kernel
theorem dX8_write_47 : decode cX8_write 47 = .ok (.iconst 3, 1) := by decide +kernel
theorem dX8_write_48 : decode cX8_write 48 = .ok (.aload_n 0, 1) := by decide +kernel
theorem dX8_write_49 : decode cX8_write 49 = .ok (.getfield 168, 3) := by decide +kernel
theorem dX8_write_52 : decode cX8_write 52 = .ok (.imul, 1) := by decide +kernel
theorem dX8_write_53 : decode cX8_write 53 = .ok (.iconst 1, 1) := by decide +kernel
theorem dX8_write_54 : decode cX8_write 54 = .ok (.iadd, 1) := by decide +kernel
theorem dX8_write_55 : decode cX8_write 55 = .ok (.iload_n 2, 1) := by decide +kernel
theorem dX8_write_56 : decode cX8_write 56 = .ok (.iastore, 1) := by decide +kernel
theorem dX8_write_57 : decode cX8_write 57 = .ok (.aload_n 0, 1) := by decide +kernel
theorem dX8_write_58 : decode cX8_write 58 = .ok (.getfield 26, 3) := by decide +kernel
theorem dX8_write_61 : decode cX8_write 61 = .ok (.iconst 3, 1) := by decide +kernel
theorem dX8_write_62 : decode cX8_write 62 = .ok (.aload_n 0, 1) := by decide +kernel
theorem dX8_write_63 : decode cX8_write 63 = .ok (.getfield 168, 3) := by decide +kernel
theorem dX8_write_66 : decode cX8_write 66 = .ok (.imul, 1) := by decide +kernel
theorem dX8_write_67 : decode cX8_write 67 = .ok (.iconst 2, 1) := by decide +kernel
theorem dX8_write_68 : decode cX8_write 68 = .ok (.iadd, 1) := by decide +kernel
theorem dX8_write_69 : decode cX8_write 69 = .ok (.iload_n 3, 1) := by decide +kernel
theorem dX8_write_70 : decode cX8_write 70 = .ok (.iastore, 1) := by decide +kernel
theorem dX8_write_71 : decode cX8_write 71 = .ok (.aload_n 0, 1) := by decide +kernel
theorem dX8_write_72 : decode cX8_write 72 = .ok (.dup, 1) := by decide +kernel
theorem dX8_write_73 : decode cX8_write 73 = .ok (.getfield 168, 3) := by decide +kernel
theorem dX8_write_76 : decode cX8_write 76 = .ok (.iconst 1, 1) := by decide +kernel
theorem dX8_write_77 : decode cX8_write 77 = .ok (.iadd, 1) := by decide +kernel
theorem dX8_write_78 : decode cX8_write 78 = .ok (.putfield 168, 3) := by decide +kernel
theorem dX8_write_81 : decode cX8_write 81 = .ok (.aload_n 0, 1) := by decide +kernel
theorem dX8_write_82 : decode cX8_write 82 = .ok (.getfield 168, 3) := by decide +kernel
theorem dX8_write_85 : decode cX8_write 85 = .ok (.ireturn, 1) := by decide +kernel
theorem dX8_tear_0 : decode cX8_tear 0 = .ok (.aload_n 0, 1) := by decide +kernel
theorem dX8_tear_1 : decode cX8_tear 1 = .ok (.getfield 168, 3) := by decide +kernel
theorem dX8_tear_4 : decode cX8_tear 4 = .ok (.istore_n 1, 1) := by decide +kernel
theorem dX8_tear_5 : decode cX8_tear 5 = .ok (.aload_n 0, 1) := by decide +kernel
theorem dX8_tear_6 : decode cX8_tear 6 = .ok (.iconst 0, 1) := by decide +kernel
theorem dX8_tear_7 : decode cX8_tear 7 = .ok (.putfield 168, 3) := by decide +kernel
theorem dX8_tear_10 : decode cX8_tear 10 = .ok (.iload_n 1, 1) := by decide +kernel
theorem dX8_tear_11 : decode cX8_tear 11 = .ok (.ireturn, 1) := by decide +kernel
theorem dX8_seed_0 : decode cX8_seed 0 = .ok (.iload_n 1, 1) := by decide +kernel
theorem dX8_seed_1 : decode cX8_seed 1 = .ok (.ifCond .ge 6, 3) := by decide +kernel
theorem dX8_seed_4 : decode cX8_seed 4 = .ok (.ldc 159, 2) := by decide +kernel
theorem dX8_seed_6 : decode cX8_seed 6 = .ok (.ireturn, 1) := by decide +kernel
theorem dX8_seed_7 : decode cX8_seed 7 = .ok (.aload_n 0, 1) := by decide +kernel
theorem dX8_seed_8 : decode cX8_seed 8 = .ok (.getfield 205, 3) := by decide +kernel
theorem dX8_seed_11 : decode cX8_seed 11 = .ok (.istore_n 2, 1) := by decide +kernel
theorem dX8_seed_12 : decode cX8_seed 12 = .ok (.aload_n 0, 1) := by decide +kernel
theorem dX8_seed_13 : decode cX8_seed 13 = .ok (.iload_n 1, 1) := by decide +kernel
theorem dX8_seed_14 : decode cX8_seed 14 = .ok (.putfield 205, 3) := by decide +kernel
theorem dX8_seed_17 : decode cX8_seed 17 = .ok (.iload_n 2, 1) := by decide +kernel
theorem dX8_seed_18 : decode cX8_seed 18 = .ok (.ireturn, 1) := by decide +kernel
theorem dX8_keep_0 : decode cX8_keep 0 = .ok (.iload_n 1, 1) := by decide +kernel
theorem dX8_keep_1 : decode cX8_keep 1 = .ok (.iconst 0, 1) := by decide +kernel
theorem dX8_keep_2 : decode cX8_keep 2 = .ok (.iconst 1, 1) := by decide +kernel
theorem dX8_keep_3 : decode cX8_keep 3 = .ok (.invokestatic 62, 3) := by decide +kernel
theorem dX8_keep_6 : decode cX8_keep 6 = .ok (.ifCond .ne 6, 3) := by decide +kernel
theorem dX8_keep_9 : decode cX8_keep 9 = .ok (.ldc 183, 2) := by decide +kernel
theorem dX8_keep_11 : decode cX8_keep 11 = .ok (.ireturn, 1) := by decide +kernel
theorem dX8_keep_12 : decode cX8_keep 12 = .ok (.aload_n 0, 1) := by decide +kernel
theorem dX8_keep_13 : decode cX8_keep 13 = .ok (.getfield 19, 3) := by decide +kernel
theorem dX8_keep_16 : decode cX8_keep 16 = .ok (.iload_n 1, 1) := by decide +kernel
theorem dX8_keep_17 : decode cX8_keep 17 = .ok (.iconst 1, 1) := by decide +kernel
theorem dX8_keep_18 : decode cX8_keep 18 = .ok (.bastore, 1) := by decide +kernel
theorem dX8_keep_19 : decode cX8_keep 19 = .ok (.aload_n 0, 1) := by decide +kernel
theorem dX8_keep_20 : decode cX8_keep 20 = .ok (.getfield 7, 3) := by decide +kernel
theorem dX8_keep_23 : decode cX8_keep 23 = .ok (.iconst 0, 1) := by decide +kernel
theorem dX8_keep_24 : decode cX8_keep 24 = .ok (.aload_n 0, 1) := by decide +kernel
theorem dX8_keep_25 : decode cX8_keep 25 = .ok (.getfield 16, 3) := by decide +kernel
theorem dX8_keep_28 : decode cX8_keep 28 = .ok (.bipush 111, 2) := by decide +kernel
theorem dX8_keep_30 : decode cX8_keep 30 = .ok (.iload_n 1, 1) := by decide +kernel
theorem dX8_keep_31 : decode cX8_keep 31 = .ok (.imul, 1) := by decide +kernel
theorem dX8_keep_32 : decode cX8_keep 32 = .ok (.bipush 110, 2) := by decide +kernel
theorem dX8_keep_34 : decode cX8_keep 34 = .ok (.invokestatic 73, 3) := by decide +kernel
theorem dX8_keep_37 : decode cX8_keep 37 = .ok (.aload_n 0, 1) := by decide +kernel
theorem dX8_keep_38 : decode cX8_keep 38 = .ok (.getfield 16, 3) := by decide +kernel
theorem dX8_keep_41 : decode cX8_keep 41 = .ok (.bipush 111, 2) := by decide +kernel
theorem dX8_keep_43 : decode cX8_keep 43 = .ok (.iload_n 1, 1) := by decide +kernel
theorem dX8_keep_44 : decode cX8_keep 44 = .ok (.imul, 1) := by decide +kernel
theorem dX8_keep_45 : decode cX8_keep 45 = .ok (.bipush 110, 2) := by decide +kernel
theorem dX8_keep_47 : decode cX8_keep 47 = .ok (.iadd, 1) := by decide +kernel
theorem dX8_keep_48 : decode cX8_keep 48 = .ok (.aload_n 0, 1) := by decide +kernel
theorem dX8_keep_49 : decode cX8_keep 49 = .ok (.getfield 205, 3) := by decide +kernel
theorem dX8_keep_52 : decode cX8_keep 52 = .ok (.iastore, 1) := by decide +kernel
theorem dX8_keep_53 : decode cX8_keep 53 = .ok (.aload_n 0, 1) := by decide +kernel
theorem dX8_keep_54 : decode cX8_keep 54 = .ok (.iconst 0, 1) := by decide +kernel
theorem dX8_keep_55 : decode cX8_keep 55 = .ok (.putfield 161, 3) := by decide +kernel
theorem dX8_keep_58 : decode cX8_keep 58 = .ok (.iconst 1, 1) := by decide +kernel
theorem dX8_keep_59 : decode cX8_keep 59 = .ok (.ireturn, 1) := by decide +kernel
theorem dX8_goBack_0 : decode cX8_goBack 0 = .ok (.iload_n 1, 1) := by decide +kernel
theorem dX8_goBack_1 : decode cX8_goBack 1 = .ok (.iconst 0, 1) := by decide +kernel
theorem dX8_goBack_2 : decode cX8_goBack 2 = .ok (.iconst 1, 1) := by decide +kernel
theorem dX8_goBack_3 : decode cX8_goBack 3 = .ok (.invokestatic 62, 3) := by decide +kernel
theorem dX8_goBack_6 : decode cX8_goBack 6 = .ok (.ifCond .ne 6, 3) := by decide +kernel
theorem dX8_goBack_9 : decode cX8_goBack 9 = .ok (.ldc 183, 2) := by decide +kernel
theorem dX8_goBack_11 : decode cX8_goBack 11 = .ok (.ireturn, 1) := by decide +kernel
theorem dX8_goBack_12 : decode cX8_goBack 12 = .ok (.aload_n 0, 1) := by decide +kernel
theorem dX8_goBack_13 : decode cX8_goBack 13 = .ok (.getfield 19, 3) := by decide +kernel
theorem dX8_goBack_16 : decode cX8_goBack 16 = .ok (.iload_n 1, 1) := by decide +kernel
theorem dX8_goBack_17 : decode cX8_goBack 17 = .ok (.baload, 1) := by decide +kernel
theorem dX8_goBack_18 : decode cX8_goBack 18 = .ok (.ifCond .ne 6, 3) := by decide +kernel
theorem dX8_goBack_21 : decode cX8_goBack 21 = .ok (.ldc 164, 2) := by decide +kernel
theorem dX8_goBack_23 : decode cX8_goBack 23 = .ok (.ireturn, 1) := by decide +kernel
theorem dX8_goBack_24 : decode cX8_goBack 24 = .ok (.aload_n 0, 1) := by decide +kernel
theorem dX8_goBack_25 : decode cX8_goBack 25 = .ok (.getfield 16, 3) := by decide +kernel
theorem dX8_goBack_28 : decode cX8_goBack 28 = .ok (.bipush 111, 2) := by decide +kernel
theorem dX8_goBack_30 : decode cX8_goBack 30 = .ok (.iload_n 1, 1) := by decide +kernel
theorem dX8_goBack_31 : decode cX8_goBack 31 = .ok (.imul, 1) := by decide +kernel
theorem dX8_goBack_32 : decode cX8_goBack 32 = .ok (.aload_n 0, 1) := by decide +kernel
theorem dX8_goBack_33 : decode cX8_goBack 33 = .ok (.getfield 7, 3) := by decide +kernel
theorem dX8_goBack_36 : decode cX8_goBack 36 = .ok (.iconst 0, 1) := by decide +kernel
theorem dX8_goBack_37 : decode cX8_goBack 37 = .ok (.bipush 110, 2) := by decide +kernel
theorem dX8_goBack_39 : decode cX8_goBack 39 = .ok (.invokestatic 73, 3) := by decide +kernel
theorem dX8_goBack_42 : decode cX8_goBack 42 = .ok (.aload_n 0, 1) := by decide +kernel
theorem dX8_goBack_43 : decode cX8_goBack 43 = .ok (.aload_n 0, 1) := by decide +kernel
theorem dX8_goBack_44 : decode cX8_goBack 44 = .ok (.getfield 16, 3) := by decide +kernel
theorem dX8_goBack_47 : decode cX8_goBack 47 = .ok (.bipush 111, 2) := by decide +kernel
theorem dX8_goBack_49 : decode cX8_goBack 49 = .ok (.iload_n 1, 1) := by decide +kernel
theorem dX8_goBack_50 : decode cX8_goBack 50 = .ok (.imul, 1) := by decide +kernel
theorem dX8_goBack_51 : decode cX8_goBack 51 = .ok (.bipush 110, 2) := by decide +kernel
theorem dX8_goBack_53 : decode cX8_goBack 53 = .ok (.iadd, 1) := by decide +kernel
theorem dX8_goBack_54 : decode cX8_goBack 54 = .ok (.iaload, 1) := by decide +kernel
theorem dX8_goBack_55 : decode cX8_goBack 55 = .ok (.putfield 205, 3) := by decide +kernel
theorem dX8_goBack_58 : decode cX8_goBack 58 = .ok (.aload_n 0, 1) := by decide +kernel
theorem dX8_goBack_59 : decode cX8_goBack 59 = .ok (.iconst 0, 1) := by decide +kernel
theorem dX8_goBack_60 : decode cX8_goBack 60 = .ok (.putfield 161, 3) := by decide +kernel
theorem dX8_goBack_63 : decode cX8_goBack 63 = .ok (.iconst 1, 1) := by decide +kernel
theorem dX8_goBack_64 : decode cX8_goBack 64 = .ok (.ireturn, 1) := by decide +kernel
theorem dJ6_bitCount_0f7a4_0 : decode cJ6_bitCount_0f7a4 0 = .ok (.iload_n 0, 1) := by decide +kernel
theorem dJ6_bitCount_0f7a4_1 : decode cJ6_bitCount_0f7a4 1 = .ok (.iload_n 0, 1) := by decide +kernel
theorem dJ6_bitCount_0f7a4_2 : decode cJ6_bitCount_0f7a4 2 = .ok (.iconst 1, 1) := by decide +kernel
theorem dJ6_bitCount_0f7a4_3 : decode cJ6_bitCount_0f7a4 3 = .ok (.iushr, 1) := by decide +kernel
theorem dJ6_bitCount_0f7a4_4 : decode cJ6_bitCount_0f7a4 4 = .ok (.ldc_w 265, 3) := by decide +kernel
theorem dJ6_bitCount_0f7a4_7 : decode cJ6_bitCount_0f7a4 7 = .ok (.iand, 1) := by decide +kernel
theorem dJ6_bitCount_0f7a4_8 : decode cJ6_bitCount_0f7a4 8 = .ok (.isub, 1) := by decide +kernel
theorem dJ6_bitCount_0f7a4_9 : decode cJ6_bitCount_0f7a4 9 = .ok (.istore_n 0, 1) := by decide +kernel
theorem dJ6_bitCount_0f7a4_10 : decode cJ6_bitCount_0f7a4 10 = .ok (.iload_n 0, 1) := by decide +kernel
theorem dJ6_bitCount_0f7a4_11 : decode cJ6_bitCount_0f7a4 11 = .ok (.ldc_w 266, 3) := by decide +kernel
theorem dJ6_bitCount_0f7a4_14 : decode cJ6_bitCount_0f7a4 14 = .ok (.iand, 1) := by decide +kernel
theorem dJ6_bitCount_0f7a4_15 : decode cJ6_bitCount_0f7a4 15 = .ok (.iload_n 0, 1) := by decide +kernel
theorem dJ6_bitCount_0f7a4_16 : decode cJ6_bitCount_0f7a4 16 = .ok (.iconst 2, 1) := by decide +kernel
theorem dJ6_bitCount_0f7a4_17 : decode cJ6_bitCount_0f7a4 17 = .ok (.iushr, 1) := by decide +kernel
theorem dJ6_bitCount_0f7a4_18 : decode cJ6_bitCount_0f7a4 18 = .ok (.ldc_w 266, 3) := by decide +kernel
theorem dJ6_bitCount_0f7a4_21 : decode cJ6_bitCount_0f7a4 21 = .ok (.iand, 1) := by decide +kernel
theorem dJ6_bitCount_0f7a4_22 : decode cJ6_bitCount_0f7a4 22 = .ok (.iadd, 1) := by decide +kernel
theorem dJ6_bitCount_0f7a4_23 : decode cJ6_bitCount_0f7a4 23 = .ok (.istore_n 0, 1) := by decide +kernel
theorem dJ6_bitCount_0f7a4_24 : decode cJ6_bitCount_0f7a4 24 = .ok (.iload_n 0, 1) := by decide +kernel
theorem dJ6_bitCount_0f7a4_25 : decode cJ6_bitCount_0f7a4 25 = .ok (.iload_n 0, 1) := by decide +kernel
theorem dJ6_bitCount_0f7a4_26 : decode cJ6_bitCount_0f7a4 26 = .ok (.iconst 4, 1) := by decide +kernel
theorem dJ6_bitCount_0f7a4_27 : decode cJ6_bitCount_0f7a4 27 = .ok (.iushr, 1) := by decide +kernel
theorem dJ6_bitCount_0f7a4_28 : decode cJ6_bitCount_0f7a4 28 = .ok (.iadd, 1) := by decide +kernel
theorem dJ6_bitCount_0f7a4_29 : decode cJ6_bitCount_0f7a4 29 = .ok (.ldc_w 267, 3) := by decide +kernel
theorem dJ6_bitCount_0f7a4_32 : decode cJ6_bitCount_0f7a4 32 = .ok (.iand, 1) := by decide +kernel
theorem dJ6_bitCount_0f7a4_33 : decode cJ6_bitCount_0f7a4 33 = .ok (.istore_n 0, 1) := by decide +kernel
theorem dJ6_bitCount_0f7a4_34 : decode cJ6_bitCount_0f7a4 34 = .ok (.iload_n 0, 1) := by decide +kernel
theorem dJ6_bitCount_0f7a4_35 : decode cJ6_bitCount_0f7a4 35 = .ok (.iload_n 0, 1) := by decide +kernel
theorem dJ6_bitCount_0f7a4_36 : decode cJ6_bitCount_0f7a4 36 = .ok (.bipush 8, 2) := by decide +kernel
theorem dJ6_bitCount_0f7a4_38 : decode cJ6_bitCount_0f7a4 38 = .ok (.iushr, 1) := by decide +kernel
theorem dJ6_bitCount_0f7a4_39 : decode cJ6_bitCount_0f7a4 39 = .ok (.iadd, 1) := by decide +kernel
theorem dJ6_bitCount_0f7a4_40 : decode cJ6_bitCount_0f7a4 40 = .ok (.istore_n 0, 1) := by decide +kernel
theorem dJ6_bitCount_0f7a4_41 : decode cJ6_bitCount_0f7a4 41 = .ok (.iload_n 0, 1) := by decide +kernel
theorem dJ6_bitCount_0f7a4_42 : decode cJ6_bitCount_0f7a4 42 = .ok (.iload_n 0, 1) := by decide +kernel
theorem dJ6_bitCount_0f7a4_43 : decode cJ6_bitCount_0f7a4 43 = .ok (.bipush 16, 2) := by decide +kernel
theorem dJ6_bitCount_0f7a4_45 : decode cJ6_bitCount_0f7a4 45 = .ok (.iushr, 1) := by decide +kernel
theorem dJ6_bitCount_0f7a4_46 : decode cJ6_bitCount_0f7a4 46 = .ok (.iadd, 1) := by decide +kernel
theorem dJ6_bitCount_0f7a4_47 : decode cJ6_bitCount_0f7a4 47 = .ok (.istore_n 0, 1) := by decide +kernel
theorem dJ6_bitCount_0f7a4_48 : decode cJ6_bitCount_0f7a4 48 = .ok (.iload_n 0, 1) := by decide +kernel
theorem dJ6_bitCount_0f7a4_49 : decode cJ6_bitCount_0f7a4 49 = .ok (.bipush 63, 2) := by decide +kernel
theorem dJ6_bitCount_0f7a4_51 : decode cJ6_bitCount_0f7a4 51 = .ok (.iand, 1) := by decide +kernel
theorem dJ6_bitCount_0f7a4_52 : decode cJ6_bitCount_0f7a4 52 = .ok (.ireturn, 1) := by decide +kernel
theorem dJ9_abs_0f7a4_0 : decode cJ9_abs_0f7a4 0 = .ok (.iload_n 0, 1) := by decide +kernel
theorem dJ9_abs_0f7a4_1 : decode cJ9_abs_0f7a4 1 = .ok (.ifCond .ge 8, 3) := by decide +kernel
theorem dJ9_abs_0f7a4_4 : decode cJ9_abs_0f7a4 4 = .ok (.iload_n 0, 1) := by decide +kernel
theorem dJ9_abs_0f7a4_5 : decode cJ9_abs_0f7a4 5 = .ok (.ineg, 1) := by decide +kernel
theorem dJ9_abs_0f7a4_6 : decode cJ9_abs_0f7a4 6 = .ok (.goto 4, 3) := by decide +kernel
theorem dJ9_abs_0f7a4_9 : decode cJ9_abs_0f7a4 9 = .ok (.iload_n 0, 1) := by decide +kernel
theorem dJ9_abs_0f7a4_10 : decode cJ9_abs_0f7a4 10 = .ok (.ireturn, 1) := by decide +kernel
theorem dJ9_max_7cf53_0 : decode cJ9_max_7cf53 0 = .ok (.iload_n 0, 1) := by decide +kernel
theorem dJ9_max_7cf53_1 : decode cJ9_max_7cf53 1 = .ok (.iload_n 1, 1) := by decide +kernel
theorem dJ9_max_7cf53_2 : decode cJ9_max_7cf53 2 = .ok (.if_icmp .lt 7, 3) := by decide +kernel
theorem dJ9_max_7cf53_5 : decode cJ9_max_7cf53 5 = .ok (.iload_n 0, 1) := by decide +kernel
theorem dJ9_max_7cf53_6 : decode cJ9_max_7cf53 6 = .ok (.goto 4, 3) := by decide +kernel
theorem dJ9_max_7cf53_9 : decode cJ9_max_7cf53 9 = .ok (.iload_n 1, 1) := by decide +kernel
theorem dJ9_max_7cf53_10 : decode cJ9_max_7cf53 10 = .ok (.ireturn, 1) := by decide +kernel
theorem dJ9_min_7cf53_0 : decode cJ9_min_7cf53 0 = .ok (.iload_n 0, 1) := by decide +kernel
theorem dJ9_min_7cf53_1 : decode cJ9_min_7cf53 1 = .ok (.iload_n 1, 1) := by decide +kernel
theorem dJ9_min_7cf53_2 : decode cJ9_min_7cf53 2 = .ok (.if_icmp .gt 7, 3) := by decide +kernel
theorem dJ9_min_7cf53_5 : decode cJ9_min_7cf53 5 = .ok (.iload_n 0, 1) := by decide +kernel
theorem dJ9_min_7cf53_6 : decode cJ9_min_7cf53 6 = .ok (.goto 4, 3) := by decide +kernel
theorem dJ9_min_7cf53_9 : decode cJ9_min_7cf53 9 = .ok (.iload_n 1, 1) := by decide +kernel
theorem dJ9_min_7cf53_10 : decode cJ9_min_7cf53 10 = .ok (.ireturn, 1) := by decide +kernel
theorem dL_law_0 : decode cL_law 0 = .ok (.new 7, 3) := by decide +kernel
theorem dL_law_3 : decode cL_law 3 = .ok (.dup, 1) := by decide +kernel
theorem dL_law_4 : decode cL_law 4 = .ok (.invokespecial 9, 3) := by decide +kernel
theorem dL_law_7 : decode cL_law 7 = .ok (.astore_n 1, 1) := by decide +kernel
theorem dL_law_8 : decode cL_law 8 = .ok (.new 10, 3) := by decide +kernel
theorem dL_law_11 : decode cL_law 11 = .ok (.dup, 1) := by decide +kernel
theorem dL_law_12 : decode cL_law 12 = .ok (.invokespecial 12, 3) := by decide +kernel
theorem dL_law_15 : decode cL_law 15 = .ok (.astore_n 2, 1) := by decide +kernel
theorem dL_law_16 : decode cL_law 16 = .ok (.iconst 0, 1) := by decide +kernel
theorem dL_law_17 : decode cL_law 17 = .ok (.istore_n 3, 1) := by decide +kernel
theorem dL_law_18 : decode cL_law 18 = .ok (.iload_n 3, 1) := by decide +kernel
theorem dL_law_19 : decode cL_law 19 = .ok (.aload_n 0, 1) := by decide +kernel
theorem dL_law_20 : decode cL_law 20 = .ok (.arraylength, 1) := by decide +kernel
theorem dL_law_21 : decode cL_law 21 = .ok (.iconst 4, 1) := by decide +kernel
theorem dL_law_22 : decode cL_law 22 = .ok (.isub, 1) := by decide +kernel
theorem dL_law_23 : decode cL_law 23 = .ok (.if_icmp .gt 852, 3) := by decide +kernel
theorem dL_law_26 : decode cL_law 26 = .ok (.aload_n 0, 1) := by decide +kernel
theorem dL_law_27 : decode cL_law 27 = .ok (.iload_n 3, 1) := by decide +kernel
theorem dL_law_28 : decode cL_law 28 = .ok (.iaload, 1) := by decide +kernel
theorem dL_law_29 : decode cL_law 29 = .ok (.bipush 31, 2) := by decide +kernel
theorem dL_law_31 : decode cL_law 31 = .ok (.iand, 1) := by decide +kernel
theorem dL_law_32 : decode cL_law 32 = .ok (.tableswitch 837 0 24 #[116, 139, 152, 175, 208, 241, 264, 307, 350, 383, 416, 439, 462, 495, 518, 551, 574, 633, 666, 689, 712, 755, 768, 791, 814], 116) := by decide +kernel
theorem dL_law_148 : decode cL_law 148 = .ok (.aload_n 1, 1) := by decide +kernel
theorem dL_law_149 : decode cL_law 149 = .ok (.aload_n 0, 1) := by decide +kernel
theorem dL_law_150 : decode cL_law 150 = .ok (.iload_n 3, 1) := by decide +kernel
theorem dL_law_151 : decode cL_law 151 = .ok (.iconst 1, 1) := by decide +kernel
theorem dL_law_152 : decode cL_law 152 = .ok (.iadd, 1) := by decide +kernel
theorem dL_law_153 : decode cL_law 153 = .ok (.iaload, 1) := by decide +kernel
theorem dL_law_154 : decode cL_law 154 = .ok (.invokevirtual 13, 3) := by decide +kernel
theorem dL_law_157 : decode cL_law 157 = .ok (.pop, 1) := by decide +kernel
theorem dL_law_158 : decode cL_law 158 = .ok (.aload_n 2, 1) := by decide +kernel
theorem dL_law_159 : decode cL_law 159 = .ok (.aload_n 0, 1) := by decide +kernel
theorem dL_law_160 : decode cL_law 160 = .ok (.iload_n 3, 1) := by decide +kernel
theorem dL_law_161 : decode cL_law 161 = .ok (.iconst 1, 1) := by decide +kernel
theorem dL_law_162 : decode cL_law 162 = .ok (.iadd, 1) := by decide +kernel
theorem dL_law_163 : decode cL_law 163 = .ok (.iaload, 1) := by decide +kernel
theorem dL_law_164 : decode cL_law 164 = .ok (.invokevirtual 17, 3) := by decide +kernel
theorem dL_law_167 : decode cL_law 167 = .ok (.pop, 1) := by decide +kernel
theorem dL_law_168 : decode cL_law 168 = .ok (.goto 701, 3) := by decide +kernel
theorem dL_law_171 : decode cL_law 171 = .ok (.aload_n 1, 1) := by decide +kernel
theorem dL_law_172 : decode cL_law 172 = .ok (.invokevirtual 18, 3) := by decide +kernel
theorem dL_law_175 : decode cL_law 175 = .ok (.pop, 1) := by decide +kernel
theorem dL_law_176 : decode cL_law 176 = .ok (.aload_n 2, 1) := by decide +kernel
theorem dL_law_177 : decode cL_law 177 = .ok (.invokevirtual 22, 3) := by decide +kernel
theorem dL_law_180 : decode cL_law 180 = .ok (.pop, 1) := by decide +kernel
theorem dL_law_181 : decode cL_law 181 = .ok (.goto 688, 3) := by decide +kernel
theorem dL_law_184 : decode cL_law 184 = .ok (.aload_n 1, 1) := by decide +kernel
theorem dL_law_185 : decode cL_law 185 = .ok (.aload_n 0, 1) := by decide +kernel
theorem dL_law_186 : decode cL_law 186 = .ok (.iload_n 3, 1) := by decide +kernel
theorem dL_law_187 : decode cL_law 187 = .ok (.iconst 1, 1) := by decide +kernel
theorem dL_law_188 : decode cL_law 188 = .ok (.iadd, 1) := by decide +kernel
theorem dL_law_189 : decode cL_law 189 = .ok (.iaload, 1) := by decide +kernel
theorem dL_law_190 : decode cL_law 190 = .ok (.invokevirtual 23, 3) := by decide +kernel
theorem dL_law_193 : decode cL_law 193 = .ok (.pop, 1) := by decide +kernel
theorem dL_law_194 : decode cL_law 194 = .ok (.aload_n 2, 1) := by decide +kernel
theorem dL_law_195 : decode cL_law 195 = .ok (.aload_n 0, 1) := by decide +kernel
theorem dL_law_196 : decode cL_law 196 = .ok (.iload_n 3, 1) := by decide +kernel
theorem dL_law_197 : decode cL_law 197 = .ok (.iconst 1, 1) := by decide +kernel
theorem dL_law_198 : decode cL_law 198 = .ok (.iadd, 1) := by decide +kernel
theorem dL_law_199 : decode cL_law 199 = .ok (.iaload, 1) := by decide +kernel
theorem dL_law_200 : decode cL_law 200 = .ok (.invokevirtual 26, 3) := by decide +kernel
theorem dL_law_203 : decode cL_law 203 = .ok (.pop, 1) := by decide +kernel
theorem dL_law_204 : decode cL_law 204 = .ok (.goto 665, 3) := by decide +kernel
theorem dL_law_207 : decode cL_law 207 = .ok (.aload_n 1, 1) := by decide +kernel
theorem dL_law_208 : decode cL_law 208 = .ok (.aload_n 0, 1) := by decide +kernel
theorem dL_law_209 : decode cL_law 209 = .ok (.iload_n 3, 1) := by decide +kernel
theorem dL_law_210 : decode cL_law 210 = .ok (.iconst 1, 1) := by decide +kernel
theorem dL_law_211 : decode cL_law 211 = .ok (.iadd, 1) := by decide +kernel
theorem dL_law_212 : decode cL_law 212 = .ok (.iaload, 1) := by decide +kernel
theorem dL_law_213 : decode cL_law 213 = .ok (.aload_n 0, 1) := by decide +kernel
theorem dL_law_214 : decode cL_law 214 = .ok (.iload_n 3, 1) := by decide +kernel
theorem dL_law_215 : decode cL_law 215 = .ok (.iconst 2, 1) := by decide +kernel
theorem dL_law_216 : decode cL_law 216 = .ok (.iadd, 1) := by decide +kernel
theorem dL_law_217 : decode cL_law 217 = .ok (.iaload, 1) := by decide +kernel
theorem dL_law_218 : decode cL_law 218 = .ok (.invokevirtual 27, 3) := by decide +kernel
theorem dL_law_221 : decode cL_law 221 = .ok (.pop, 1) := by decide +kernel
theorem dL_law_222 : decode cL_law 222 = .ok (.aload_n 2, 1) := by decide +kernel
theorem dL_law_223 : decode cL_law 223 = .ok (.aload_n 0, 1) := by decide +kernel
theorem dL_law_224 : decode cL_law 224 = .ok (.iload_n 3, 1) := by decide +kernel
theorem dL_law_225 : decode cL_law 225 = .ok (.iconst 1, 1) := by decide +kernel
theorem dL_law_226 : decode cL_law 226 = .ok (.iadd, 1) := by decide +kernel
theorem dL_law_227 : decode cL_law 227 = .ok (.iaload, 1) := by decide +kernel
theorem dL_law_228 : decode cL_law 228 = .ok (.aload_n 0, 1) := by decide +kernel
theorem dL_law_229 : decode cL_law 229 = .ok (.iload_n 3, 1) := by decide +kernel
theorem dL_law_230 : decode cL_law 230 = .ok (.iconst 2, 1) := by decide +kernel
theorem dL_law_231 : decode cL_law 231 = .ok (.iadd, 1) := by decide +kernel
theorem dL_law_232 : decode cL_law 232 = .ok (.iaload, 1) := by decide +kernel
theorem dL_law_233 : decode cL_law 233 = .ok (.invokevirtual 31, 3) := by decide +kernel
theorem dL_law_236 : decode cL_law 236 = .ok (.pop, 1) := by decide +kernel
theorem dL_law_237 : decode cL_law 237 = .ok (.goto 632, 3) := by decide +kernel
theorem dL_law_240 : decode cL_law 240 = .ok (.aload_n 1, 1) := by decide +kernel
theorem dL_law_241 : decode cL_law 241 = .ok (.aload_n 0, 1) := by decide +kernel
theorem dL_law_242 : decode cL_law 242 = .ok (.iload_n 3, 1) := by decide +kernel
theorem dL_law_243 : decode cL_law 243 = .ok (.iconst 1, 1) := by decide +kernel
theorem dL_law_244 : decode cL_law 244 = .ok (.iadd, 1) := by decide +kernel
theorem dL_law_245 : decode cL_law 245 = .ok (.iaload, 1) := by decide +kernel
theorem dL_law_246 : decode cL_law 246 = .ok (.aload_n 0, 1) := by decide +kernel
theorem dL_law_247 : decode cL_law 247 = .ok (.iload_n 3, 1) := by decide +kernel
theorem dL_law_248 : decode cL_law 248 = .ok (.iconst 2, 1) := by decide +kernel
theorem dL_law_249 : decode cL_law 249 = .ok (.iadd, 1) := by decide +kernel
theorem dL_law_250 : decode cL_law 250 = .ok (.iaload, 1) := by decide +kernel
theorem dL_law_251 : decode cL_law 251 = .ok (.invokevirtual 32, 3) := by decide +kernel
theorem dL_law_254 : decode cL_law 254 = .ok (.pop, 1) := by decide +kernel
theorem dL_law_255 : decode cL_law 255 = .ok (.aload_n 2, 1) := by decide +kernel
theorem dL_law_256 : decode cL_law 256 = .ok (.aload_n 0, 1) := by decide +kernel
theorem dL_law_257 : decode cL_law 257 = .ok (.iload_n 3, 1) := by decide +kernel
theorem dL_law_258 : decode cL_law 258 = .ok (.iconst 1, 1) := by decide +kernel
theorem dL_law_259 : decode cL_law 259 = .ok (.iadd, 1) := by decide +kernel
theorem dL_law_260 : decode cL_law 260 = .ok (.iaload, 1) := by decide +kernel
theorem dL_law_261 : decode cL_law 261 = .ok (.aload_n 0, 1) := by decide +kernel
theorem dL_law_262 : decode cL_law 262 = .ok (.iload_n 3, 1) := by decide +kernel
theorem dL_law_263 : decode cL_law 263 = .ok (.iconst 2, 1) := by decide +kernel
theorem dL_law_264 : decode cL_law 264 = .ok (.iadd, 1) := by decide +kernel
theorem dL_law_265 : decode cL_law 265 = .ok (.iaload, 1) := by decide +kernel
theorem dL_law_266 : decode cL_law 266 = .ok (.invokevirtual 35, 3) := by decide +kernel
theorem dL_law_269 : decode cL_law 269 = .ok (.pop, 1) := by decide +kernel
theorem dL_law_270 : decode cL_law 270 = .ok (.goto 599, 3) := by decide +kernel
theorem dL_law_273 : decode cL_law 273 = .ok (.aload_n 1, 1) := by decide +kernel
theorem dL_law_274 : decode cL_law 274 = .ok (.aload_n 0, 1) := by decide +kernel
theorem dL_law_275 : decode cL_law 275 = .ok (.iload_n 3, 1) := by decide +kernel
theorem dL_law_276 : decode cL_law 276 = .ok (.iconst 1, 1) := by decide +kernel
theorem dL_law_277 : decode cL_law 277 = .ok (.iadd, 1) := by decide +kernel
theorem dL_law_278 : decode cL_law 278 = .ok (.iaload, 1) := by decide +kernel
theorem dL_law_279 : decode cL_law 279 = .ok (.invokevirtual 36, 3) := by decide +kernel
theorem dL_law_282 : decode cL_law 282 = .ok (.pop, 1) := by decide +kernel
theorem dL_law_283 : decode cL_law 283 = .ok (.aload_n 2, 1) := by decide +kernel
theorem dL_law_284 : decode cL_law 284 = .ok (.aload_n 0, 1) := by decide +kernel
theorem dL_law_285 : decode cL_law 285 = .ok (.iload_n 3, 1) := by decide +kernel
theorem dL_law_286 : decode cL_law 286 = .ok (.iconst 1, 1) := by decide +kernel
theorem dL_law_287 : decode cL_law 287 = .ok (.iadd, 1) := by decide +kernel
theorem dL_law_288 : decode cL_law 288 = .ok (.iaload, 1) := by decide +kernel
theorem dL_law_289 : decode cL_law 289 = .ok (.invokevirtual 39, 3) := by decide +kernel
theorem dL_law_292 : decode cL_law 292 = .ok (.pop, 1) := by decide +kernel
theorem dL_law_293 : decode cL_law 293 = .ok (.goto 576, 3) := by decide +kernel
theorem dL_law_296 : decode cL_law 296 = .ok (.aload_n 1, 1) := by decide +kernel
theorem dL_law_297 : decode cL_law 297 = .ok (.aload_n 0, 1) := by decide +kernel
theorem dL_law_298 : decode cL_law 298 = .ok (.iload_n 3, 1) := by decide +kernel
theorem dL_law_299 : decode cL_law 299 = .ok (.iconst 1, 1) := by decide +kernel
theorem dL_law_300 : decode cL_law 300 = .ok (.iadd, 1) := by decide +kernel
theorem dL_law_301 : decode cL_law 301 = .ok (.iaload, 1) := by decide +kernel
theorem dL_law_302 : decode cL_law 302 = .ok (.aload_n 0, 1) := by decide +kernel
theorem dL_law_303 : decode cL_law 303 = .ok (.iload_n 3, 1) := by decide +kernel
theorem dL_law_304 : decode cL_law 304 = .ok (.iconst 2, 1) := by decide +kernel
theorem dL_law_305 : decode cL_law 305 = .ok (.iadd, 1) := by decide +kernel
theorem dL_law_306 : decode cL_law 306 = .ok (.iaload, 1) := by decide +kernel
theorem dL_law_307 : decode cL_law 307 = .ok (.aload_n 0, 1) := by decide +kernel
theorem dL_law_308 : decode cL_law 308 = .ok (.iload_n 3, 1) := by decide +kernel
theorem dL_law_309 : decode cL_law 309 = .ok (.iconst 3, 1) := by decide +kernel
theorem dL_law_310 : decode cL_law 310 = .ok (.iadd, 1) := by decide +kernel
theorem dL_law_311 : decode cL_law 311 = .ok (.iaload, 1) := by decide +kernel
theorem dL_law_312 : decode cL_law 312 = .ok (.invokevirtual 40, 3) := by decide +kernel
theorem dL_law_315 : decode cL_law 315 = .ok (.pop, 1) := by decide +kernel
theorem dL_law_316 : decode cL_law 316 = .ok (.aload_n 2, 1) := by decide +kernel
theorem dL_law_317 : decode cL_law 317 = .ok (.aload_n 0, 1) := by decide +kernel
theorem dL_law_318 : decode cL_law 318 = .ok (.iload_n 3, 1) := by decide +kernel
theorem dL_law_319 : decode cL_law 319 = .ok (.iconst 1, 1) := by decide +kernel
theorem dL_law_320 : decode cL_law 320 = .ok (.iadd, 1) := by decide +kernel
theorem dL_law_321 : decode cL_law 321 = .ok (.iaload, 1) := by decide +kernel
theorem dL_law_322 : decode cL_law 322 = .ok (.aload_n 0, 1) := by decide +kernel
theorem dL_law_323 : decode cL_law 323 = .ok (.iload_n 3, 1) := by decide +kernel
theorem dL_law_324 : decode cL_law 324 = .ok (.iconst 2, 1) := by decide +kernel
theorem dL_law_325 : decode cL_law 325 = .ok (.iadd, 1) := by decide +kernel
theorem dL_law_326 : decode cL_law 326 = .ok (.iaload, 1) := by decide +kernel
theorem dL_law_327 : decode cL_law 327 = .ok (.aload_n 0, 1) := by decide +kernel
theorem dL_law_328 : decode cL_law 328 = .ok (.iload_n 3, 1) := by decide +kernel
theorem dL_law_329 : decode cL_law 329 = .ok (.iconst 3, 1) := by decide +kernel
theorem dL_law_330 : decode cL_law 330 = .ok (.iadd, 1) := by decide +kernel
theorem dL_law_331 : decode cL_law 331 = .ok (.iaload, 1) := by decide +kernel
theorem dL_law_332 : decode cL_law 332 = .ok (.invokevirtual 44, 3) := by decide +kernel
theorem dL_law_335 : decode cL_law 335 = .ok (.pop, 1) := by decide +kernel
theorem dL_law_336 : decode cL_law 336 = .ok (.goto 533, 3) := by decide +kernel
theorem dL_law_339 : decode cL_law 339 = .ok (.aload_n 1, 1) := by decide +kernel
theorem dL_law_340 : decode cL_law 340 = .ok (.aload_n 0, 1) := by decide +kernel
theorem dL_law_341 : decode cL_law 341 = .ok (.iload_n 3, 1) := by decide +kernel
theorem dL_law_342 : decode cL_law 342 = .ok (.iconst 1, 1) := by decide +kernel
theorem dL_law_343 : decode cL_law 343 = .ok (.iadd, 1) := by decide +kernel
theorem dL_law_344 : decode cL_law 344 = .ok (.iaload, 1) := by decide +kernel
theorem dL_law_345 : decode cL_law 345 = .ok (.aload_n 0, 1) := by decide +kernel
theorem dL_law_346 : decode cL_law 346 = .ok (.iload_n 3, 1) := by decide +kernel
theorem dL_law_347 : decode cL_law 347 = .ok (.iconst 2, 1) := by decide +kernel
theorem dL_law_348 : decode cL_law 348 = .ok (.iadd, 1) := by decide +kernel
theorem dL_law_349 : decode cL_law 349 = .ok (.iaload, 1) := by decide +kernel
theorem dL_law_350 : decode cL_law 350 = .ok (.aload_n 0, 1) := by decide +kernel
theorem dL_law_351 : decode cL_law 351 = .ok (.iload_n 3, 1) := by decide +kernel
theorem dL_law_352 : decode cL_law 352 = .ok (.iconst 3, 1) := by decide +kernel
theorem dL_law_353 : decode cL_law 353 = .ok (.iadd, 1) := by decide +kernel
theorem dL_law_354 : decode cL_law 354 = .ok (.iaload, 1) := by decide +kernel
theorem dL_law_355 : decode cL_law 355 = .ok (.invokevirtual 45, 3) := by decide +kernel
theorem dL_law_358 : decode cL_law 358 = .ok (.pop, 1) := by decide +kernel
theorem dL_law_359 : decode cL_law 359 = .ok (.aload_n 2, 1) := by decide +kernel
theorem dL_law_360 : decode cL_law 360 = .ok (.aload_n 0, 1) := by decide +kernel
theorem dL_law_361 : decode cL_law 361 = .ok (.iload_n 3, 1) := by decide +kernel
theorem dL_law_362 : decode cL_law 362 = .ok (.iconst 1, 1) := by decide +kernel
theorem dL_law_363 : decode cL_law 363 = .ok (.iadd, 1) := by decide +kernel
theorem dL_law_364 : decode cL_law 364 = .ok (.iaload, 1) := by decide +kernel
theorem dL_law_365 : decode cL_law 365 = .ok (.aload_n 0, 1) := by decide +kernel
theorem dL_law_366 : decode cL_law 366 = .ok (.iload_n 3, 1) := by decide +kernel
theorem dL_law_367 : decode cL_law 367 = .ok (.iconst 2, 1) := by decide +kernel
theorem dL_law_368 : decode cL_law 368 = .ok (.iadd, 1) := by decide +kernel
theorem dL_law_369 : decode cL_law 369 = .ok (.iaload, 1) := by decide +kernel
theorem dL_law_370 : decode cL_law 370 = .ok (.aload_n 0, 1) := by decide +kernel
theorem dL_law_371 : decode cL_law 371 = .ok (.iload_n 3, 1) := by decide +kernel
theorem dL_law_372 : decode cL_law 372 = .ok (.iconst 3, 1) := by decide +kernel
theorem dL_law_373 : decode cL_law 373 = .ok (.iadd, 1) := by decide +kernel
theorem dL_law_374 : decode cL_law 374 = .ok (.iaload, 1) := by decide +kernel
theorem dL_law_375 : decode cL_law 375 = .ok (.invokevirtual 48, 3) := by decide +kernel
theorem dL_law_378 : decode cL_law 378 = .ok (.pop, 1) := by decide +kernel
theorem dL_law_379 : decode cL_law 379 = .ok (.goto 490, 3) := by decide +kernel
theorem dL_law_382 : decode cL_law 382 = .ok (.aload_n 1, 1) := by decide +kernel
theorem dL_law_383 : decode cL_law 383 = .ok (.aload_n 0, 1) := by decide +kernel
theorem dL_law_384 : decode cL_law 384 = .ok (.iload_n 3, 1) := by decide +kernel
theorem dL_law_385 : decode cL_law 385 = .ok (.iconst 1, 1) := by decide +kernel
theorem dL_law_386 : decode cL_law 386 = .ok (.iadd, 1) := by decide +kernel
theorem dL_law_387 : decode cL_law 387 = .ok (.iaload, 1) := by decide +kernel
theorem dL_law_388 : decode cL_law 388 = .ok (.aload_n 0, 1) := by decide +kernel
theorem dL_law_389 : decode cL_law 389 = .ok (.iload_n 3, 1) := by decide +kernel
theorem dL_law_390 : decode cL_law 390 = .ok (.iconst 2, 1) := by decide +kernel
theorem dL_law_391 : decode cL_law 391 = .ok (.iadd, 1) := by decide +kernel
theorem dL_law_392 : decode cL_law 392 = .ok (.iaload, 1) := by decide +kernel
theorem dL_law_393 : decode cL_law 393 = .ok (.invokevirtual 49, 3) := by decide +kernel
theorem dL_law_396 : decode cL_law 396 = .ok (.pop, 1) := by decide +kernel
theorem dL_law_397 : decode cL_law 397 = .ok (.aload_n 2, 1) := by decide +kernel
theorem dL_law_398 : decode cL_law 398 = .ok (.aload_n 0, 1) := by decide +kernel
theorem dL_law_399 : decode cL_law 399 = .ok (.iload_n 3, 1) := by decide +kernel
theorem dL_law_400 : decode cL_law 400 = .ok (.iconst 1, 1) := by decide +kernel
theorem dL_law_401 : decode cL_law 401 = .ok (.iadd, 1) := by decide +kernel
theorem dL_law_402 : decode cL_law 402 = .ok (.iaload, 1) := by decide +kernel
theorem dL_law_403 : decode cL_law 403 = .ok (.aload_n 0, 1) := by decide +kernel
theorem dL_law_404 : decode cL_law 404 = .ok (.iload_n 3, 1) := by decide +kernel
theorem dL_law_405 : decode cL_law 405 = .ok (.iconst 2, 1) := by decide +kernel
theorem dL_law_406 : decode cL_law 406 = .ok (.iadd, 1) := by decide +kernel
theorem dL_law_407 : decode cL_law 407 = .ok (.iaload, 1) := by decide +kernel
theorem dL_law_408 : decode cL_law 408 = .ok (.invokevirtual 52, 3) := by decide +kernel
theorem dL_law_411 : decode cL_law 411 = .ok (.pop, 1) := by decide +kernel
theorem dL_law_412 : decode cL_law 412 = .ok (.goto 457, 3) := by decide +kernel
theorem dL_law_415 : decode cL_law 415 = .ok (.aload_n 1, 1) := by decide +kernel
theorem dL_law_416 : decode cL_law 416 = .ok (.aload_n 0, 1) := by decide +kernel
theorem dL_law_417 : decode cL_law 417 = .ok (.iload_n 3, 1) := by decide +kernel
theorem dL_law_418 : decode cL_law 418 = .ok (.iconst 1, 1) := by decide +kernel
theorem dL_law_419 : decode cL_law 419 = .ok (.iadd, 1) := by decide +kernel
theorem dL_law_420 : decode cL_law 420 = .ok (.iaload, 1) := by decide +kernel
theorem dL_law_421 : decode cL_law 421 = .ok (.aload_n 0, 1) := by decide +kernel
theorem dL_law_422 : decode cL_law 422 = .ok (.iload_n 3, 1) := by decide +kernel
theorem dL_law_423 : decode cL_law 423 = .ok (.iconst 2, 1) := by decide +kernel
theorem dL_law_424 : decode cL_law 424 = .ok (.iadd, 1) := by decide +kernel
theorem dL_law_425 : decode cL_law 425 = .ok (.iaload, 1) := by decide +kernel
theorem dL_law_426 : decode cL_law 426 = .ok (.invokevirtual 53, 3) := by decide +kernel
theorem dL_law_429 : decode cL_law 429 = .ok (.pop, 1) := by decide +kernel
theorem dL_law_430 : decode cL_law 430 = .ok (.aload_n 2, 1) := by decide +kernel
theorem dL_law_431 : decode cL_law 431 = .ok (.aload_n 0, 1) := by decide +kernel
theorem dL_law_432 : decode cL_law 432 = .ok (.iload_n 3, 1) := by decide +kernel
theorem dL_law_433 : decode cL_law 433 = .ok (.iconst 1, 1) := by decide +kernel
theorem dL_law_434 : decode cL_law 434 = .ok (.iadd, 1) := by decide +kernel
theorem dL_law_435 : decode cL_law 435 = .ok (.iaload, 1) := by decide +kernel
theorem dL_law_436 : decode cL_law 436 = .ok (.aload_n 0, 1) := by decide +kernel
theorem dL_law_437 : decode cL_law 437 = .ok (.iload_n 3, 1) := by decide +kernel
theorem dL_law_438 : decode cL_law 438 = .ok (.iconst 2, 1) := by decide +kernel
theorem dL_law_439 : decode cL_law 439 = .ok (.iadd, 1) := by decide +kernel
theorem dL_law_440 : decode cL_law 440 = .ok (.iaload, 1) := by decide +kernel
theorem dL_law_441 : decode cL_law 441 = .ok (.invokevirtual 56, 3) := by decide +kernel
theorem dL_law_444 : decode cL_law 444 = .ok (.pop, 1) := by decide +kernel
theorem dL_law_445 : decode cL_law 445 = .ok (.goto 424, 3) := by decide +kernel
theorem dL_law_448 : decode cL_law 448 = .ok (.aload_n 1, 1) := by decide +kernel
theorem dL_law_449 : decode cL_law 449 = .ok (.aload_n 0, 1) := by decide +kernel
theorem dL_law_450 : decode cL_law 450 = .ok (.iload_n 3, 1) := by decide +kernel
theorem dL_law_451 : decode cL_law 451 = .ok (.iconst 1, 1) := by decide +kernel
theorem dL_law_452 : decode cL_law 452 = .ok (.iadd, 1) := by decide +kernel
theorem dL_law_453 : decode cL_law 453 = .ok (.iaload, 1) := by decide +kernel
theorem dL_law_454 : decode cL_law 454 = .ok (.invokevirtual 57, 3) := by decide +kernel
theorem dL_law_457 : decode cL_law 457 = .ok (.pop, 1) := by decide +kernel
theorem dL_law_458 : decode cL_law 458 = .ok (.aload_n 2, 1) := by decide +kernel
theorem dL_law_459 : decode cL_law 459 = .ok (.aload_n 0, 1) := by decide +kernel
theorem dL_law_460 : decode cL_law 460 = .ok (.iload_n 3, 1) := by decide +kernel
theorem dL_law_461 : decode cL_law 461 = .ok (.iconst 1, 1) := by decide +kernel
theorem dL_law_462 : decode cL_law 462 = .ok (.iadd, 1) := by decide +kernel
theorem dL_law_463 : decode cL_law 463 = .ok (.iaload, 1) := by decide +kernel
theorem dL_law_464 : decode cL_law 464 = .ok (.invokevirtual 60, 3) := by decide +kernel
theorem dL_law_467 : decode cL_law 467 = .ok (.pop, 1) := by decide +kernel
theorem dL_law_468 : decode cL_law 468 = .ok (.goto 401, 3) := by decide +kernel
theorem dL_law_471 : decode cL_law 471 = .ok (.aload_n 1, 1) := by decide +kernel
theorem dL_law_472 : decode cL_law 472 = .ok (.aload_n 0, 1) := by decide +kernel
theorem dL_law_473 : decode cL_law 473 = .ok (.iload_n 3, 1) := by decide +kernel
theorem dL_law_474 : decode cL_law 474 = .ok (.iconst 1, 1) := by decide +kernel
theorem dL_law_475 : decode cL_law 475 = .ok (.iadd, 1) := by decide +kernel
theorem dL_law_476 : decode cL_law 476 = .ok (.iaload, 1) := by decide +kernel
theorem dL_law_477 : decode cL_law 477 = .ok (.invokevirtual 61, 3) := by decide +kernel
theorem dL_law_480 : decode cL_law 480 = .ok (.pop, 1) := by decide +kernel
theorem dL_law_481 : decode cL_law 481 = .ok (.aload_n 2, 1) := by decide +kernel
theorem dL_law_482 : decode cL_law 482 = .ok (.aload_n 0, 1) := by decide +kernel
theorem dL_law_483 : decode cL_law 483 = .ok (.iload_n 3, 1) := by decide +kernel
theorem dL_law_484 : decode cL_law 484 = .ok (.iconst 1, 1) := by decide +kernel
theorem dL_law_485 : decode cL_law 485 = .ok (.iadd, 1) := by decide +kernel
theorem dL_law_486 : decode cL_law 486 = .ok (.iaload, 1) := by decide +kernel
theorem dL_law_487 : decode cL_law 487 = .ok (.invokevirtual 64, 3) := by decide +kernel
theorem dL_law_490 : decode cL_law 490 = .ok (.pop, 1) := by decide +kernel
theorem dL_law_491 : decode cL_law 491 = .ok (.goto 378, 3) := by decide +kernel
theorem dL_law_494 : decode cL_law 494 = .ok (.aload_n 1, 1) := by decide +kernel
theorem dL_law_495 : decode cL_law 495 = .ok (.aload_n 0, 1) := by decide +kernel
theorem dL_law_496 : decode cL_law 496 = .ok (.iload_n 3, 1) := by decide +kernel
theorem dL_law_497 : decode cL_law 497 = .ok (.iconst 1, 1) := by decide +kernel
theorem dL_law_498 : decode cL_law 498 = .ok (.iadd, 1) := by decide +kernel
theorem dL_law_499 : decode cL_law 499 = .ok (.iaload, 1) := by decide +kernel
theorem dL_law_500 : decode cL_law 500 = .ok (.aload_n 0, 1) := by decide +kernel
theorem dL_law_501 : decode cL_law 501 = .ok (.iload_n 3, 1) := by decide +kernel
theorem dL_law_502 : decode cL_law 502 = .ok (.iconst 2, 1) := by decide +kernel
theorem dL_law_503 : decode cL_law 503 = .ok (.iadd, 1) := by decide +kernel
theorem dL_law_504 : decode cL_law 504 = .ok (.iaload, 1) := by decide +kernel
theorem dL_law_505 : decode cL_law 505 = .ok (.invokevirtual 65, 3) := by decide +kernel
theorem dL_law_508 : decode cL_law 508 = .ok (.pop, 1) := by decide +kernel
theorem dL_law_509 : decode cL_law 509 = .ok (.aload_n 2, 1) := by decide +kernel
theorem dL_law_510 : decode cL_law 510 = .ok (.aload_n 0, 1) := by decide +kernel
theorem dL_law_511 : decode cL_law 511 = .ok (.iload_n 3, 1) := by decide +kernel
theorem dL_law_512 : decode cL_law 512 = .ok (.iconst 1, 1) := by decide +kernel
theorem dL_law_513 : decode cL_law 513 = .ok (.iadd, 1) := by decide +kernel
theorem dL_law_514 : decode cL_law 514 = .ok (.iaload, 1) := by decide +kernel
theorem dL_law_515 : decode cL_law 515 = .ok (.aload_n 0, 1) := by decide +kernel
theorem dL_law_516 : decode cL_law 516 = .ok (.iload_n 3, 1) := by decide +kernel
theorem dL_law_517 : decode cL_law 517 = .ok (.iconst 2, 1) := by decide +kernel
theorem dL_law_518 : decode cL_law 518 = .ok (.iadd, 1) := by decide +kernel
theorem dL_law_519 : decode cL_law 519 = .ok (.iaload, 1) := by decide +kernel
theorem dL_law_520 : decode cL_law 520 = .ok (.invokevirtual 68, 3) := by decide +kernel
theorem dL_law_523 : decode cL_law 523 = .ok (.pop, 1) := by decide +kernel
theorem dL_law_524 : decode cL_law 524 = .ok (.goto 345, 3) := by decide +kernel
theorem dL_law_527 : decode cL_law 527 = .ok (.aload_n 1, 1) := by decide +kernel
theorem dL_law_528 : decode cL_law 528 = .ok (.aload_n 0, 1) := by decide +kernel
theorem dL_law_529 : decode cL_law 529 = .ok (.iload_n 3, 1) := by decide +kernel
theorem dL_law_530 : decode cL_law 530 = .ok (.iconst 1, 1) := by decide +kernel
theorem dL_law_531 : decode cL_law 531 = .ok (.iadd, 1) := by decide +kernel
theorem dL_law_532 : decode cL_law 532 = .ok (.iaload, 1) := by decide +kernel
theorem dL_law_533 : decode cL_law 533 = .ok (.invokevirtual 69, 3) := by decide +kernel
theorem dL_law_536 : decode cL_law 536 = .ok (.pop, 1) := by decide +kernel
theorem dL_law_537 : decode cL_law 537 = .ok (.aload_n 2, 1) := by decide +kernel
theorem dL_law_538 : decode cL_law 538 = .ok (.aload_n 0, 1) := by decide +kernel
theorem dL_law_539 : decode cL_law 539 = .ok (.iload_n 3, 1) := by decide +kernel
theorem dL_law_540 : decode cL_law 540 = .ok (.iconst 1, 1) := by decide +kernel
theorem dL_law_541 : decode cL_law 541 = .ok (.iadd, 1) := by decide +kernel
theorem dL_law_542 : decode cL_law 542 = .ok (.iaload, 1) := by decide +kernel
theorem dL_law_543 : decode cL_law 543 = .ok (.invokevirtual 72, 3) := by decide +kernel
theorem dL_law_546 : decode cL_law 546 = .ok (.pop, 1) := by decide +kernel
theorem dL_law_547 : decode cL_law 547 = .ok (.goto 322, 3) := by decide +kernel
theorem dL_law_550 : decode cL_law 550 = .ok (.aload_n 1, 1) := by decide +kernel
theorem dL_law_551 : decode cL_law 551 = .ok (.aload_n 0, 1) := by decide +kernel
theorem dL_law_552 : decode cL_law 552 = .ok (.iload_n 3, 1) := by decide +kernel
theorem dL_law_553 : decode cL_law 553 = .ok (.iconst 1, 1) := by decide +kernel
theorem dL_law_554 : decode cL_law 554 = .ok (.iadd, 1) := by decide +kernel
theorem dL_law_555 : decode cL_law 555 = .ok (.iaload, 1) := by decide +kernel
theorem dL_law_556 : decode cL_law 556 = .ok (.aload_n 0, 1) := by decide +kernel
theorem dL_law_557 : decode cL_law 557 = .ok (.iload_n 3, 1) := by decide +kernel
theorem dL_law_558 : decode cL_law 558 = .ok (.iconst 2, 1) := by decide +kernel
theorem dL_law_559 : decode cL_law 559 = .ok (.iadd, 1) := by decide +kernel
theorem dL_law_560 : decode cL_law 560 = .ok (.iaload, 1) := by decide +kernel
theorem dL_law_561 : decode cL_law 561 = .ok (.invokevirtual 73, 3) := by decide +kernel
theorem dL_law_564 : decode cL_law 564 = .ok (.pop, 1) := by decide +kernel
theorem dL_law_565 : decode cL_law 565 = .ok (.aload_n 2, 1) := by decide +kernel
theorem dL_law_566 : decode cL_law 566 = .ok (.aload_n 0, 1) := by decide +kernel
theorem dL_law_567 : decode cL_law 567 = .ok (.iload_n 3, 1) := by decide +kernel
theorem dL_law_568 : decode cL_law 568 = .ok (.iconst 1, 1) := by decide +kernel
theorem dL_law_569 : decode cL_law 569 = .ok (.iadd, 1) := by decide +kernel
theorem dL_law_570 : decode cL_law 570 = .ok (.iaload, 1) := by decide +kernel
theorem dL_law_571 : decode cL_law 571 = .ok (.aload_n 0, 1) := by decide +kernel
theorem dL_law_572 : decode cL_law 572 = .ok (.iload_n 3, 1) := by decide +kernel
theorem dL_law_573 : decode cL_law 573 = .ok (.iconst 2, 1) := by decide +kernel
theorem dL_law_574 : decode cL_law 574 = .ok (.iadd, 1) := by decide +kernel
theorem dL_law_575 : decode cL_law 575 = .ok (.iaload, 1) := by decide +kernel
theorem dL_law_576 : decode cL_law 576 = .ok (.invokevirtual 76, 3) := by decide +kernel
theorem dL_law_579 : decode cL_law 579 = .ok (.pop, 1) := by decide +kernel
theorem dL_law_580 : decode cL_law 580 = .ok (.goto 289, 3) := by decide +kernel
theorem dL_law_583 : decode cL_law 583 = .ok (.aload_n 1, 1) := by decide +kernel
theorem dL_law_584 : decode cL_law 584 = .ok (.aload_n 0, 1) := by decide +kernel
theorem dL_law_585 : decode cL_law 585 = .ok (.iload_n 3, 1) := by decide +kernel
theorem dL_law_586 : decode cL_law 586 = .ok (.iconst 1, 1) := by decide +kernel
theorem dL_law_587 : decode cL_law 587 = .ok (.iadd, 1) := by decide +kernel
theorem dL_law_588 : decode cL_law 588 = .ok (.iaload, 1) := by decide +kernel
theorem dL_law_589 : decode cL_law 589 = .ok (.invokevirtual 77, 3) := by decide +kernel
theorem dL_law_592 : decode cL_law 592 = .ok (.pop, 1) := by decide +kernel
theorem dL_law_593 : decode cL_law 593 = .ok (.aload_n 2, 1) := by decide +kernel
theorem dL_law_594 : decode cL_law 594 = .ok (.aload_n 0, 1) := by decide +kernel
theorem dL_law_595 : decode cL_law 595 = .ok (.iload_n 3, 1) := by decide +kernel
theorem dL_law_596 : decode cL_law 596 = .ok (.iconst 1, 1) := by decide +kernel
theorem dL_law_597 : decode cL_law 597 = .ok (.iadd, 1) := by decide +kernel
theorem dL_law_598 : decode cL_law 598 = .ok (.iaload, 1) := by decide +kernel
theorem dL_law_599 : decode cL_law 599 = .ok (.invokevirtual 80, 3) := by decide +kernel
theorem dL_law_602 : decode cL_law 602 = .ok (.pop, 1) := by decide +kernel
theorem dL_law_603 : decode cL_law 603 = .ok (.goto 266, 3) := by decide +kernel
theorem dL_law_606 : decode cL_law 606 = .ok (.aload_n 1, 1) := by decide +kernel
theorem dL_law_607 : decode cL_law 607 = .ok (.aload_n 0, 1) := by decide +kernel
theorem dL_law_608 : decode cL_law 608 = .ok (.iload_n 3, 1) := by decide +kernel
theorem dL_law_609 : decode cL_law 609 = .ok (.iconst 1, 1) := by decide +kernel
theorem dL_law_610 : decode cL_law 610 = .ok (.iadd, 1) := by decide +kernel
theorem dL_law_611 : decode cL_law 611 = .ok (.iaload, 1) := by decide +kernel
theorem dL_law_612 : decode cL_law 612 = .ok (.aload_n 0, 1) := by decide +kernel
theorem dL_law_613 : decode cL_law 613 = .ok (.iload_n 3, 1) := by decide +kernel
theorem dL_law_614 : decode cL_law 614 = .ok (.iconst 2, 1) := by decide +kernel
theorem dL_law_615 : decode cL_law 615 = .ok (.iadd, 1) := by decide +kernel
theorem dL_law_616 : decode cL_law 616 = .ok (.iaload, 1) := by decide +kernel
theorem dL_law_617 : decode cL_law 617 = .ok (.aload_n 0, 1) := by decide +kernel
theorem dL_law_618 : decode cL_law 618 = .ok (.iload_n 3, 1) := by decide +kernel
theorem dL_law_619 : decode cL_law 619 = .ok (.iconst 3, 1) := by decide +kernel
theorem dL_law_620 : decode cL_law 620 = .ok (.iadd, 1) := by decide +kernel
theorem dL_law_621 : decode cL_law 621 = .ok (.iaload, 1) := by decide +kernel
theorem dL_law_622 : decode cL_law 622 = .ok (.ifCond .eq 7, 3) := by decide +kernel
theorem dL_law_625 : decode cL_law 625 = .ok (.iconst 1, 1) := by decide +kernel
theorem dL_law_626 : decode cL_law 626 = .ok (.goto 4, 3) := by decide +kernel
theorem dL_law_629 : decode cL_law 629 = .ok (.iconst 0, 1) := by decide +kernel
theorem dL_law_630 : decode cL_law 630 = .ok (.invokevirtual 81, 3) := by decide +kernel
theorem dL_law_633 : decode cL_law 633 = .ok (.pop, 1) := by decide +kernel
theorem dL_law_634 : decode cL_law 634 = .ok (.aload_n 2, 1) := by decide +kernel
theorem dL_law_635 : decode cL_law 635 = .ok (.aload_n 0, 1) := by decide +kernel
theorem dL_law_636 : decode cL_law 636 = .ok (.iload_n 3, 1) := by decide +kernel
theorem dL_law_637 : decode cL_law 637 = .ok (.iconst 1, 1) := by decide +kernel
theorem dL_law_638 : decode cL_law 638 = .ok (.iadd, 1) := by decide +kernel
theorem dL_law_639 : decode cL_law 639 = .ok (.iaload, 1) := by decide +kernel
theorem dL_law_640 : decode cL_law 640 = .ok (.aload_n 0, 1) := by decide +kernel
theorem dL_law_641 : decode cL_law 641 = .ok (.iload_n 3, 1) := by decide +kernel
theorem dL_law_642 : decode cL_law 642 = .ok (.iconst 2, 1) := by decide +kernel
theorem dL_law_643 : decode cL_law 643 = .ok (.iadd, 1) := by decide +kernel
theorem dL_law_644 : decode cL_law 644 = .ok (.iaload, 1) := by decide +kernel
theorem dL_law_645 : decode cL_law 645 = .ok (.aload_n 0, 1) := by decide +kernel
theorem dL_law_646 : decode cL_law 646 = .ok (.iload_n 3, 1) := by decide +kernel
theorem dL_law_647 : decode cL_law 647 = .ok (.iconst 3, 1) := by decide +kernel
theorem dL_law_648 : decode cL_law 648 = .ok (.iadd, 1) := by decide +kernel
theorem dL_law_649 : decode cL_law 649 = .ok (.iaload, 1) := by decide +kernel
theorem dL_law_650 : decode cL_law 650 = .ok (.ifCond .eq 7, 3) := by decide +kernel
theorem dL_law_653 : decode cL_law 653 = .ok (.iconst 1, 1) := by decide +kernel
theorem dL_law_654 : decode cL_law 654 = .ok (.goto 4, 3) := by decide +kernel
theorem dL_law_657 : decode cL_law 657 = .ok (.iconst 0, 1) := by decide +kernel
theorem dL_law_658 : decode cL_law 658 = .ok (.invokevirtual 85, 3) := by decide +kernel
theorem dL_law_661 : decode cL_law 661 = .ok (.pop, 1) := by decide +kernel
theorem dL_law_662 : decode cL_law 662 = .ok (.goto 207, 3) := by decide +kernel
theorem dL_law_665 : decode cL_law 665 = .ok (.aload_n 1, 1) := by decide +kernel
theorem dL_law_666 : decode cL_law 666 = .ok (.aload_n 0, 1) := by decide +kernel
theorem dL_law_667 : decode cL_law 667 = .ok (.iload_n 3, 1) := by decide +kernel
theorem dL_law_668 : decode cL_law 668 = .ok (.iconst 1, 1) := by decide +kernel
theorem dL_law_669 : decode cL_law 669 = .ok (.iadd, 1) := by decide +kernel
theorem dL_law_670 : decode cL_law 670 = .ok (.iaload, 1) := by decide +kernel
theorem dL_law_671 : decode cL_law 671 = .ok (.aload_n 0, 1) := by decide +kernel
theorem dL_law_672 : decode cL_law 672 = .ok (.iload_n 3, 1) := by decide +kernel
theorem dL_law_673 : decode cL_law 673 = .ok (.iconst 2, 1) := by decide +kernel
theorem dL_law_674 : decode cL_law 674 = .ok (.iadd, 1) := by decide +kernel
theorem dL_law_675 : decode cL_law 675 = .ok (.iaload, 1) := by decide +kernel
theorem dL_law_676 : decode cL_law 676 = .ok (.invokevirtual 86, 3) := by decide +kernel
theorem dL_law_679 : decode cL_law 679 = .ok (.pop, 1) := by decide +kernel
theorem dL_law_680 : decode cL_law 680 = .ok (.aload_n 2, 1) := by decide +kernel
theorem dL_law_681 : decode cL_law 681 = .ok (.aload_n 0, 1) := by decide +kernel
theorem dL_law_682 : decode cL_law 682 = .ok (.iload_n 3, 1) := by decide +kernel
theorem dL_law_683 : decode cL_law 683 = .ok (.iconst 1, 1) := by decide +kernel
theorem dL_law_684 : decode cL_law 684 = .ok (.iadd, 1) := by decide +kernel
theorem dL_law_685 : decode cL_law 685 = .ok (.iaload, 1) := by decide +kernel
theorem dL_law_686 : decode cL_law 686 = .ok (.aload_n 0, 1) := by decide +kernel
theorem dL_law_687 : decode cL_law 687 = .ok (.iload_n 3, 1) := by decide +kernel
theorem dL_law_688 : decode cL_law 688 = .ok (.iconst 2, 1) := by decide +kernel
theorem dL_law_689 : decode cL_law 689 = .ok (.iadd, 1) := by decide +kernel
theorem dL_law_690 : decode cL_law 690 = .ok (.iaload, 1) := by decide +kernel
theorem dL_law_691 : decode cL_law 691 = .ok (.invokevirtual 89, 3) := by decide +kernel
theorem dL_law_694 : decode cL_law 694 = .ok (.pop, 1) := by decide +kernel
theorem dL_law_695 : decode cL_law 695 = .ok (.goto 174, 3) := by decide +kernel
theorem dL_law_698 : decode cL_law 698 = .ok (.aload_n 1, 1) := by decide +kernel
theorem dL_law_699 : decode cL_law 699 = .ok (.aload_n 0, 1) := by decide +kernel
theorem dL_law_700 : decode cL_law 700 = .ok (.iload_n 3, 1) := by decide +kernel
theorem dL_law_701 : decode cL_law 701 = .ok (.iconst 1, 1) := by decide +kernel
theorem dL_law_702 : decode cL_law 702 = .ok (.iadd, 1) := by decide +kernel
theorem dL_law_703 : decode cL_law 703 = .ok (.iaload, 1) := by decide +kernel
theorem dL_law_704 : decode cL_law 704 = .ok (.invokevirtual 90, 3) := by decide +kernel
theorem dL_law_707 : decode cL_law 707 = .ok (.pop, 1) := by decide +kernel
theorem dL_law_708 : decode cL_law 708 = .ok (.aload_n 2, 1) := by decide +kernel
theorem dL_law_709 : decode cL_law 709 = .ok (.aload_n 0, 1) := by decide +kernel
theorem dL_law_710 : decode cL_law 710 = .ok (.iload_n 3, 1) := by decide +kernel
theorem dL_law_711 : decode cL_law 711 = .ok (.iconst 1, 1) := by decide +kernel
theorem dL_law_712 : decode cL_law 712 = .ok (.iadd, 1) := by decide +kernel
theorem dL_law_713 : decode cL_law 713 = .ok (.iaload, 1) := by decide +kernel
theorem dL_law_714 : decode cL_law 714 = .ok (.invokevirtual 93, 3) := by decide +kernel
theorem dL_law_717 : decode cL_law 717 = .ok (.pop, 1) := by decide +kernel
theorem dL_law_718 : decode cL_law 718 = .ok (.goto 151, 3) := by decide +kernel
theorem dL_law_721 : decode cL_law 721 = .ok (.aload_n 1, 1) := by decide +kernel
theorem dL_law_722 : decode cL_law 722 = .ok (.aload_n 0, 1) := by decide +kernel
theorem dL_law_723 : decode cL_law 723 = .ok (.iload_n 3, 1) := by decide +kernel
theorem dL_law_724 : decode cL_law 724 = .ok (.iconst 1, 1) := by decide +kernel
theorem dL_law_725 : decode cL_law 725 = .ok (.iadd, 1) := by decide +kernel
theorem dL_law_726 : decode cL_law 726 = .ok (.iaload, 1) := by decide +kernel
theorem dL_law_727 : decode cL_law 727 = .ok (.invokevirtual 94, 3) := by decide +kernel
theorem dL_law_730 : decode cL_law 730 = .ok (.pop, 1) := by decide +kernel
theorem dL_law_731 : decode cL_law 731 = .ok (.aload_n 2, 1) := by decide +kernel
theorem dL_law_732 : decode cL_law 732 = .ok (.aload_n 0, 1) := by decide +kernel
theorem dL_law_733 : decode cL_law 733 = .ok (.iload_n 3, 1) := by decide +kernel
theorem dL_law_734 : decode cL_law 734 = .ok (.iconst 1, 1) := by decide +kernel
theorem dL_law_735 : decode cL_law 735 = .ok (.iadd, 1) := by decide +kernel
theorem dL_law_736 : decode cL_law 736 = .ok (.iaload, 1) := by decide +kernel
theorem dL_law_737 : decode cL_law 737 = .ok (.invokevirtual 97, 3) := by decide +kernel
theorem dL_law_740 : decode cL_law 740 = .ok (.pop, 1) := by decide +kernel
theorem dL_law_741 : decode cL_law 741 = .ok (.goto 128, 3) := by decide +kernel
theorem dL_law_744 : decode cL_law 744 = .ok (.aload_n 1, 1) := by decide +kernel
theorem dL_law_745 : decode cL_law 745 = .ok (.aload_n 0, 1) := by decide +kernel
theorem dL_law_746 : decode cL_law 746 = .ok (.iload_n 3, 1) := by decide +kernel
theorem dL_law_747 : decode cL_law 747 = .ok (.iconst 1, 1) := by decide +kernel
theorem dL_law_748 : decode cL_law 748 = .ok (.iadd, 1) := by decide +kernel
theorem dL_law_749 : decode cL_law 749 = .ok (.iaload, 1) := by decide +kernel
theorem dL_law_750 : decode cL_law 750 = .ok (.aload_n 0, 1) := by decide +kernel
theorem dL_law_751 : decode cL_law 751 = .ok (.iload_n 3, 1) := by decide +kernel
theorem dL_law_752 : decode cL_law 752 = .ok (.iconst 2, 1) := by decide +kernel
theorem dL_law_753 : decode cL_law 753 = .ok (.iadd, 1) := by decide +kernel
theorem dL_law_754 : decode cL_law 754 = .ok (.iaload, 1) := by decide +kernel
theorem dL_law_755 : decode cL_law 755 = .ok (.aload_n 0, 1) := by decide +kernel
theorem dL_law_756 : decode cL_law 756 = .ok (.iload_n 3, 1) := by decide +kernel
theorem dL_law_757 : decode cL_law 757 = .ok (.iconst 3, 1) := by decide +kernel
theorem dL_law_758 : decode cL_law 758 = .ok (.iadd, 1) := by decide +kernel
theorem dL_law_759 : decode cL_law 759 = .ok (.iaload, 1) := by decide +kernel
theorem dL_law_760 : decode cL_law 760 = .ok (.invokevirtual 98, 3) := by decide +kernel
theorem dL_law_763 : decode cL_law 763 = .ok (.pop, 1) := by decide +kernel
theorem dL_law_764 : decode cL_law 764 = .ok (.aload_n 2, 1) := by decide +kernel
theorem dL_law_765 : decode cL_law 765 = .ok (.aload_n 0, 1) := by decide +kernel
theorem dL_law_766 : decode cL_law 766 = .ok (.iload_n 3, 1) := by decide +kernel
theorem dL_law_767 : decode cL_law 767 = .ok (.iconst 1, 1) := by decide +kernel
theorem dL_law_768 : decode cL_law 768 = .ok (.iadd, 1) := by decide +kernel
theorem dL_law_769 : decode cL_law 769 = .ok (.iaload, 1) := by decide +kernel
theorem dL_law_770 : decode cL_law 770 = .ok (.aload_n 0, 1) := by decide +kernel
theorem dL_law_771 : decode cL_law 771 = .ok (.iload_n 3, 1) := by decide +kernel
theorem dL_law_772 : decode cL_law 772 = .ok (.iconst 2, 1) := by decide +kernel
theorem dL_law_773 : decode cL_law 773 = .ok (.iadd, 1) := by decide +kernel
theorem dL_law_774 : decode cL_law 774 = .ok (.iaload, 1) := by decide +kernel
theorem dL_law_775 : decode cL_law 775 = .ok (.aload_n 0, 1) := by decide +kernel
theorem dL_law_776 : decode cL_law 776 = .ok (.iload_n 3, 1) := by decide +kernel
theorem dL_law_777 : decode cL_law 777 = .ok (.iconst 3, 1) := by decide +kernel
theorem dL_law_778 : decode cL_law 778 = .ok (.iadd, 1) := by decide +kernel
theorem dL_law_779 : decode cL_law 779 = .ok (.iaload, 1) := by decide +kernel
theorem dL_law_780 : decode cL_law 780 = .ok (.invokevirtual 101, 3) := by decide +kernel
theorem dL_law_783 : decode cL_law 783 = .ok (.pop, 1) := by decide +kernel
theorem dL_law_784 : decode cL_law 784 = .ok (.goto 85, 3) := by decide +kernel
theorem dL_law_787 : decode cL_law 787 = .ok (.aload_n 1, 1) := by decide +kernel
theorem dL_law_788 : decode cL_law 788 = .ok (.invokevirtual 102, 3) := by decide +kernel
theorem dL_law_791 : decode cL_law 791 = .ok (.pop, 1) := by decide +kernel
theorem dL_law_792 : decode cL_law 792 = .ok (.aload_n 2, 1) := by decide +kernel
theorem dL_law_793 : decode cL_law 793 = .ok (.invokevirtual 105, 3) := by decide +kernel
theorem dL_law_796 : decode cL_law 796 = .ok (.pop, 1) := by decide +kernel
theorem dL_law_797 : decode cL_law 797 = .ok (.goto 72, 3) := by decide +kernel
theorem dL_law_800 : decode cL_law 800 = .ok (.aload_n 1, 1) := by decide +kernel
theorem dL_law_801 : decode cL_law 801 = .ok (.aload_n 0, 1) := by decide +kernel
theorem dL_law_802 : decode cL_law 802 = .ok (.iload_n 3, 1) := by decide +kernel
theorem dL_law_803 : decode cL_law 803 = .ok (.iconst 1, 1) := by decide +kernel
theorem dL_law_804 : decode cL_law 804 = .ok (.iadd, 1) := by decide +kernel
theorem dL_law_805 : decode cL_law 805 = .ok (.iaload, 1) := by decide +kernel
theorem dL_law_806 : decode cL_law 806 = .ok (.invokevirtual 106, 3) := by decide +kernel
theorem dL_law_809 : decode cL_law 809 = .ok (.pop, 1) := by decide +kernel
theorem dL_law_810 : decode cL_law 810 = .ok (.aload_n 2, 1) := by decide +kernel
theorem dL_law_811 : decode cL_law 811 = .ok (.aload_n 0, 1) := by decide +kernel
theorem dL_law_812 : decode cL_law 812 = .ok (.iload_n 3, 1) := by decide +kernel
theorem dL_law_813 : decode cL_law 813 = .ok (.iconst 1, 1) := by decide +kernel
theorem dL_law_814 : decode cL_law 814 = .ok (.iadd, 1) := by decide +kernel
theorem dL_law_815 : decode cL_law 815 = .ok (.iaload, 1) := by decide +kernel
theorem dL_law_816 : decode cL_law 816 = .ok (.invokevirtual 109, 3) := by decide +kernel
theorem dL_law_819 : decode cL_law 819 = .ok (.pop, 1) := by decide +kernel
theorem dL_law_820 : decode cL_law 820 = .ok (.goto 49, 3) := by decide +kernel
theorem dL_law_823 : decode cL_law 823 = .ok (.aload_n 1, 1) := by decide +kernel
theorem dL_law_824 : decode cL_law 824 = .ok (.aload_n 0, 1) := by decide +kernel
theorem dL_law_825 : decode cL_law 825 = .ok (.iload_n 3, 1) := by decide +kernel
theorem dL_law_826 : decode cL_law 826 = .ok (.iconst 1, 1) := by decide +kernel
theorem dL_law_827 : decode cL_law 827 = .ok (.iadd, 1) := by decide +kernel
theorem dL_law_828 : decode cL_law 828 = .ok (.iaload, 1) := by decide +kernel
theorem dL_law_829 : decode cL_law 829 = .ok (.invokevirtual 110, 3) := by decide +kernel
theorem dL_law_832 : decode cL_law 832 = .ok (.pop, 1) := by decide +kernel
theorem dL_law_833 : decode cL_law 833 = .ok (.aload_n 2, 1) := by decide +kernel
theorem dL_law_834 : decode cL_law 834 = .ok (.aload_n 0, 1) := by decide +kernel
theorem dL_law_835 : decode cL_law 835 = .ok (.iload_n 3, 1) := by decide +kernel
theorem dL_law_836 : decode cL_law 836 = .ok (.iconst 1, 1) := by decide +kernel
theorem dL_law_837 : decode cL_law 837 = .ok (.iadd, 1) := by decide +kernel
theorem dL_law_838 : decode cL_law 838 = .ok (.iaload, 1) := by decide +kernel
theorem dL_law_839 : decode cL_law 839 = .ok (.invokevirtual 113, 3) := by decide +kernel
theorem dL_law_842 : decode cL_law 842 = .ok (.pop, 1) := by decide +kernel
theorem dL_law_843 : decode cL_law 843 = .ok (.goto 26, 3) := by decide +kernel
theorem dL_law_846 : decode cL_law 846 = .ok (.aload_n 1, 1) := by decide +kernel
theorem dL_law_847 : decode cL_law 847 = .ok (.aload_n 0, 1) := by decide +kernel
theorem dL_law_848 : decode cL_law 848 = .ok (.iload_n 3, 1) := by decide +kernel
theorem dL_law_849 : decode cL_law 849 = .ok (.iconst 1, 1) := by decide +kernel
theorem dL_law_850 : decode cL_law 850 = .ok (.iadd, 1) := by decide +kernel
theorem dL_law_851 : decode cL_law 851 = .ok (.iaload, 1) := by decide +kernel
theorem dL_law_852 : decode cL_law 852 = .ok (.invokevirtual 114, 3) := by decide +kernel
theorem dL_law_855 : decode cL_law 855 = .ok (.aload_n 2, 1) := by decide +kernel
theorem dL_law_856 : decode cL_law 856 = .ok (.aload_n 0, 1) := by decide +kernel
theorem dL_law_857 : decode cL_law 857 = .ok (.iload_n 3, 1) := by decide +kernel
theorem dL_law_858 : decode cL_law 858 = .ok (.iconst 1, 1) := by decide +kernel
theorem dL_law_859 : decode cL_law 859 = .ok (.iadd, 1) := by decide +kernel
theorem dL_law_860 : decode cL_law 860 = .ok (.iaload, 1) := by decide +kernel
theorem dL_law_861 : decode cL_law 861 = .ok (.invokevirtual 117, 3) := by decide +kernel
theorem dL_law_864 : decode cL_law 864 = .ok (.if_icmp .eq 5, 3) := by decide +kernel
theorem dL_law_867 : decode cL_law 867 = .ok (.iconst 0, 1) := by decide +kernel
theorem dL_law_868 : decode cL_law 868 = .ok (.ireturn, 1) := by decide +kernel
theorem dL_law_869 : decode cL_law 869 = .ok (.iinc 3 4, 3) := by decide +kernel
theorem dL_law_872 : decode cL_law 872 = .ok (.goto (-854), 3) := by decide +kernel
theorem dL_law_875 : decode cL_law 875 = .ok (.iconst 1, 1) := by decide +kernel
theorem dL_law_876 : decode cL_law 876 = .ok (.ireturn, 1) := by decide +kernel
end
section
/-! ===== whole numbers: an int of the machine is Int32.ofInt of a number ===== -/
abbrev xrg (x : Int) : Prop := -2147483648 ≤ x ∧ x ≤ 2147483647
abbrev xrl (x : Int) : Prop := -9223372036854775808 ≤ x ∧ x ≤ 9223372036854775807
theorem xn_i {x : Int} (h : xrg x) : (Int32.ofInt x).toInt = x := Int32.toInt_ofInt_of_le (by omega) (by omega)
theorem xn_l {x : Int} (h : xrl x) : (Int64.ofInt x).toInt = x := Int64.toInt_ofInt_of_le (by omega) (by omega)
theorem xn_lt {x y : Int} (hx : xrg x) (hy : xrg y) : Int32.ofInt x < Int32.ofInt y ↔ x < y := by
  rw [Int32.lt_iff_toInt_lt, xn_i hx, xn_i hy]
theorem xn_le {x y : Int} (hx : xrg x) (hy : xrg y) : Int32.ofInt x ≤ Int32.ofInt y ↔ x ≤ y := by
  rw [Int32.le_iff_toInt_le, xn_i hx, xn_i hy]
theorem xn_eq {x y : Int} (hx : xrg x) (hy : xrg y) : Int32.ofInt x = Int32.ofInt y ↔ x = y := by
  rw [← Int32.toInt_inj, xn_i hx, xn_i hy]
theorem xn_zero : (0 : Int32) = Int32.ofInt 0 := rfl
theorem xn_cl {x : Int} (h0 : 0 ≤ x) (h1 : x < 2147483648) : (Int32.ofInt x).toNatClampNeg = x.toNat := by
  rw [← Int32.toNat_toInt, xn_i (by omega)]
theorem xn_in {x : Int} {n : Nat} (h0 : 0 ≤ x) (h1 : x < n) (hn : n ≤ 2147483647) : vp_in (Int32.ofInt x) n := by
  rw [vp_in_iff, xn_i (by omega)]
  exact ⟨h0, h1⟩
theorem xn_rg (x : Int32) : xrg x.toInt := by
  have h1 := x.toInt_lt
  have h2 := x.le_toInt
  omega
theorem xn_rl (x : Int64) : xrl x.toInt := by
  have h1 := x.toInt_lt
  have h2 := x.le_toInt
  omega
theorem xn_of (x : Int32) : Int32.ofInt x.toInt = x := Int32.ofInt_toInt x
theorem xn_ofl (x : Int64) : Int64.ofInt x.toInt = x := Int64.ofInt_toInt x
def xand (x y : Int) : Int := (Int32.ofInt x &&& Int32.ofInt y).toInt
def xor' (x y : Int) : Int := (Int32.ofInt x ||| Int32.ofInt y).toInt
def xxor (x y : Int) : Int := (Int32.ofInt x ^^^ Int32.ofInt y).toInt
def xshl (x y : Int) : Int := (Int32.ofInt x <<< (Int32.ofInt y &&& 31)).toInt
def xshr (x y : Int) : Int := (Int32.ofInt x >>> (Int32.ofInt y &&& 31)).toInt
def xushr (x y : Int) : Int := ((Int32.ofInt x).toUInt32 >>> ((Int32.ofInt y).toUInt32 &&& Int32.toUInt32 31)).toInt32.toInt
def xdiv (x y : Int) : Int := (Int32.ofInt x / Int32.ofInt y).toInt
def xrem (x y : Int) : Int := (Int32.ofInt x - Int32.ofInt x / Int32.ofInt y * Int32.ofInt y).toInt
def xland (x y : Int) : Int := (Int64.ofInt x &&& Int64.ofInt y).toInt
def xlor (x y : Int) : Int := (Int64.ofInt x ||| Int64.ofInt y).toInt
def xlshl (x y : Int) : Int := (Int64.ofInt x <<< ((Int32.ofInt y).toInt64 &&& 63)).toInt
def xlushr (x y : Int) : Int := ((Int64.ofInt x).toUInt64 >>> ((Int32.ofInt y).toInt64.toUInt64 &&& Int64.toUInt64 63)).toInt64.toInt
def xlrem (x y : Int) : Int := (Int64.ofInt x - Int64.ofInt x / Int64.ofInt y * Int64.ofInt y).toInt
/-! ===== values, shapes, memory ===== -/
/-- an int, a long, a cell by its number, an address -/
abbrev xV : Type := Int ⊕ (Int ⊕ (Nat ⊕ Nat))
abbrev xI (x : Int) : xV := .inl x
abbrev xL (x : Int) : xV := .inr (.inl x)
abbrev xR (k : Nat) : xV := .inr (.inr (.inl k))
abbrev xA (a : Nat) : xV := .inr (.inr (.inr a))
def xt (ad : Nat → Nat) (v : xV) : Value := match v with
  | .inl x => .int (Int32.ofInt x)
  | .inr (.inl x) => .long (Int64.ofInt x)
  | .inr (.inr (.inl k)) => .ref (ad k)
  | .inr (.inr (.inr a)) => .ref a
abbrev xM : Type := Nat → Int → Int
/-- how many cells, their shapes, what their references are -/
abbrev xW : Type := Nat × (Nat → Nat × Nat) × (Nat → Int → Int)
abbrev xG : Type := va_G × (Nat → ClassId) × Nat × Nat
def xup (μ : xM) (k : Nat) (j v : Int) : xM := fun a b => if a = k ∧ b = j then v else μ a b
def xput (μ : xM) (k : Nat) (f : Int → Int) : xM := fun a => if a = k then f else μ a
def xf1 (f : Int → Int) (j v : Int) : Int → Int := fun b => if b = j then v else f b
theorem xup_put (μ : xM) (k : Nat) (j v : Int) : xup μ k j v = xput μ k (xf1 (μ k) j v) := by
  funext a b
  simp only [xup, xput, xf1]
  by_cases ha : a = k
  · subst ha; simp [xf1]
  · simp [ha]
theorem xup_s (μ : xM) (k : Nat) (j v : Int) : xup μ k j v k j = v := by simp [xup]
theorem xup_c {μ : xM} {k a : Nat} {j v : Int} (h : a ≠ k) : xup μ k j v a = μ a := by funext b; simp [xup, h]
theorem xup_j {μ : xM} {k a : Nat} {j v b : Int} (h : b ≠ j) : xup μ k j v a b = μ a b := by simp [xup, h]
/-- the kinds of a class's fields: 0 int, 1 long, 2 a reference, 3 boolean -/
def xks (ci : Nat) : List Nat := match ci with
  | 0 => [2, 2, 2, 0]
  | 1 => [2, 0, 0]
  | 2 => [2]
  | 3 => [2, 0, 3]
  | 4 => [2, 2, 2, 2, 2, 2, 2, 0, 0]
  | 5 => [2, 2, 2, 2, 0, 0]
  | 6 => [2, 2, 2, 2, 0, 0, 0, 0, 0, 0, 0]
  | 7 => [2, 2, 2, 2, 2, 2, 2, 1, 0, 3]
  | _ => [2, 2, 0, 2, 2, 2, 0, 2, 0, 0, 2, 0, 2, 0, 2, 2, 2, 2, 2, 2, 0, 2, 2, 2]
def xfv (ad : Nat → Nat) (kd : Nat) (r x : Int) : Value := match kd with
  | 1 => .long (Int64.ofInt x)
  | 2 => if r < 0 then .null else .ref (ad r.toNat)
  | _ => .int (Int32.ofInt x)
def xfs (ad : Nat → Nat) (ks : List Nat) (rf f : Int → Int) : List Value := (List.range ks.length).map fun j => xfv ad (ks.getD j 0) (rf j) (f j)
theorem xfs_get {ad : Nat → Nat} {ks : List Nat} {rf f : Int → Int} {j : Nat} (h : j < ks.length) : (xfs ad ks rf f)[j]? = some (xfv ad (ks.getD j 0) (rf j) (f j)) := by
  simp [xfs, h]
theorem xfs_len {ad : Nat → Nat} {ks : List Nat} {rf f : Int → Int} : (xfs ad ks rf f).length = ks.length := by simp [xfs]
theorem xfs_set {ad : Nat → Nat} {ks : List Nat} {rf f : Int → Int} {j : Nat} {x : Int} (hj : j < ks.length) : (xfs ad ks rf f).set j (xfv ad (ks.getD j 0) (rf j) x) = xfs ad ks rf (xf1 f j x) := by
  apply List.ext_getElem?
  intro i
  by_cases hi : i = j
  · subst hi
    rw [List.getElem?_set_self (by rw [xfs_len]; exact hj), xfs_get hj]
    simp [xf1]
  · rw [List.getElem?_set_ne (fun h => hi h.symm)]
    by_cases hl : i < ks.length
    · rw [xfs_get hl, xfs_get hl]
      simp [xf1, show ¬ ((i : Int) = (j : Int)) by omega]
    · rw [List.getElem?_eq_none (by rw [xfs_len]; omega), List.getElem?_eq_none (by rw [xfs_len]; omega)]
theorem xfs_setr {ad : Nat → Nat} {ks : List Nat} {rf f : Int → Int} {j : Nat} {r : Int} (hj : j < ks.length) : (xfs ad ks rf f).set j (xfv ad (ks.getD j 0) r (f j)) = xfs ad ks (xf1 rf j r) f := by
  apply List.ext_getElem?
  intro i
  by_cases hi : i = j
  · subst hi
    rw [List.getElem?_set_self (by rw [xfs_len]; exact hj), xfs_get hj]
    simp [xf1]
  · rw [List.getElem?_set_ne (fun h => hi h.symm)]
    by_cases hl : i < ks.length
    · rw [xfs_get hl, xfs_get hl]
      simp [xf1, show ¬ ((i : Int) = (j : Int)) by omega]
    · rw [List.getElem?_eq_none (by rw [xfs_len]; omega), List.getElem?_eq_none (by rw [xfs_len]; omega)]
/-- what a cell holds: an object of a class (0, its number); an array (1 int, 2 long, 3 boolean, 4 State, 5 Image; its length) -/
def xent (g : xG) (ad : Nat → Nat) (s : Nat × Nat) (rf f : Int → Int) : va_E := match s.1 with
  | 0 => .inr (s.2, xfs ad (xks s.2) rf f)
  | 1 => .inl (g.2.1 0, s.2, .inl fun j => Int32.ofInt (f j))
  | 2 => .inl (g.2.1 1, s.2, .inr (.inl fun j => Int64.ofInt (f j)))
  | 3 => .inl (g.2.1 2, s.2, .inl fun j => Int32.ofInt (f j))
  | k + 4 => .inl (g.2.1 (k + 3), s.2, .inr (.inr (.inr (.inr fun j => if rf j < 0 then none else some (ad (rf j).toNat)))))
def xw (g : xG) (w : xW) (μ : xM) (ad : Nat → Nat) : va_W := (List.range w.1).map fun k => (ad k, xent g ad (w.2.1 k) (w.2.2 k) (μ k))
theorem xw_get {g : xG} {w : xW} {μ : xM} {ad : Nat → Nat} {k : Nat} (h : k < w.1) : (xw g w μ ad)[k]? = some (ad k, xent g ad (w.2.1 k) (w.2.2 k) (μ k)) := by
  simp [xw, h]
theorem xw_len {g : xG} {w : xW} {μ : xM} {ad : Nat → Nat} : (xw g w μ ad).length = w.1 := by simp [xw]
theorem xw_inv {g : xG} {w : xW} {μ : xM} {ad : Nat → Nat} {k : Nat} {q : Nat × va_E} (h : (xw g w μ ad)[k]? = some q) : k < w.1 ∧ q = (ad k, xent g ad (w.2.1 k) (w.2.2 k) (μ k)) := by
  have hk : k < w.1 := by
    have := (List.getElem?_eq_some_iff.mp h).1
    rwa [xw_len] at this
  rw [xw_get hk] at h
  exact ⟨hk, (Option.some.inj h).symm⟩
theorem xw_set {g : xG} {w : xW} {μ : xM} {ad : Nat → Nat} {k : Nat} {f : Int → Int} (h : k < w.1) : (xw g w μ ad).set k (ad k, xent g ad (w.2.1 k) (w.2.2 k) f) = xw g w (xput μ k f) ad := by
  apply List.ext_getElem?
  intro i
  by_cases hi : i = k
  · subst hi
    rw [List.getElem?_set_self (by rw [xw_len]; exact h), xw_get h]
    simp [xput]
  · rw [List.getElem?_set_ne (fun h => hi h.symm)]
    by_cases hl : i < w.1
    · rw [xw_get hl, xw_get hl]
      simp [xput, hi]
    · rw [List.getElem?_eq_none (by rw [xw_len]; omega), List.getElem?_eq_none (by rw [xw_len]; omega)]
/-- the same world with other references -/
def xrf (w : xW) (k : Nat) (j r : Int) : xW := (w.1, w.2.1, xup w.2.2 k j r)
theorem xw_setr {g : xG} {w : xW} {μ : xM} {ad : Nat → Nat} {k : Nat} {j r : Int} (h : k < w.1) : (xw g w μ ad).set k (ad k, xent g ad (w.2.1 k) (xf1 (w.2.2 k) j r) (μ k)) = xw g (xrf w k j r) μ ad := by
  apply List.ext_getElem?
  intro i
  by_cases hi : i = k
  · subst hi
    rw [List.getElem?_set_self (by rw [xw_len]; exact h), xw_get (w := xrf w i j r) h]
    simp [xrf, xup_put, xput]
  · rw [List.getElem?_set_ne (fun h => hi h.symm)]
    by_cases hl : i < w.1
    · rw [xw_get hl, xw_get (w := xrf w k j r) hl]
      simp [xrf, xup_c hi]
    · rw [List.getElem?_eq_none (by rw [xw_len]; omega), List.getElem?_eq_none (by rw [xw_len]; exact Nat.not_lt.mp hl)]
/-- is a slot a long -/
def xsk (s : Nat × Nat) (j : Int) : Nat := match s.1 with
  | 0 => (xks s.2).getD j.toNat 0
  | 2 => 1
  | _ => 0
/-- what a memory must keep: ints are ints, longs are longs, references are of cells that there are -/
def xok (w : xW) (μ : xM) : Prop := (∀ k j, k < w.1 → xsk (w.2.1 k) j ≠ 1 → xrg (μ k j)) ∧ (∀ k j, k < w.1 → xsk (w.2.1 k) j = 1 → xrl (μ k j)) ∧ ∀ k j, k < w.1 → w.2.2 k j < (w.1 : Int)
theorem xok.upi {w : xW} {μ : xM} (h : xok w μ) {k : Nat} {j v : Int} (hk : xsk (w.2.1 k) j ≠ 1) (hv : xrg v) : xok w (xup μ k j v) := by
  refine ⟨fun a b ha hs => ?_, fun a b ha hs => ?_, h.2.2⟩
  · by_cases hb : a = k ∧ b = j
    · simp [xup, hb]; exact hv
    · simp only [xup, if_neg hb]; exact h.1 a b ha hs
  · by_cases hb : a = k ∧ b = j
    · rw [hb.1, hb.2] at hs; exact absurd hs hk
    · simp only [xup, if_neg hb]; exact h.2.1 a b ha hs
theorem xok.upl {w : xW} {μ : xM} (h : xok w μ) {k : Nat} {j v : Int} (hk : xsk (w.2.1 k) j = 1) (hv : xrl v) : xok w (xup μ k j v) := by
  refine ⟨fun a b ha hs => ?_, fun a b ha hs => ?_, h.2.2⟩
  · by_cases hb : a = k ∧ b = j
    · rw [hb.1, hb.2] at hs; exact absurd hk hs
    · simp only [xup, if_neg hb]; exact h.1 a b ha hs
  · by_cases hb : a = k ∧ b = j
    · simp [xup, hb]; exact hv
    · simp only [xup, if_neg hb]; exact h.2.1 a b ha hs
/-- the cells that a method may change -/
def xAs (w : xW) (ad : Nat → Nat) (sz : Nat) : Nat → Prop := fun q => (∃ k, k < w.1 ∧ ad k = q) ∨ sz ≤ q
abbrev vwCl : List vw_C := [(RX0, TX0, 4), (RX1, TX1, 3), (RX2, TX2, 1), (RX3, TX3, 3), (RX4, TX4, 9), (RX5, TX5, 6), (RX6, TX6, 11), (RX7, TX7, 10), (RX8, TX8, 24)]
def xtys (g : xG) : List (ClassId × FieldType) := [(g.2.1 0, .int), (g.2.1 1, .long), (g.2.1 2, .boolean), (g.2.1 3, .object "TaleTypes$State"), (g.2.1 4, .object "TaleTypes$Image")]
/-- the two static rows of Lineup -/
def xOF (j : Int) : Int := if j = 2 then 0 else if j = 3 then 2 else 1
def xOO (j : Int) : Int := if j = 1 then 0 else if j = 3 then 2 else 1
def xSt (g : xG) (A : Nat → Prop) (U : State) (H : Heap) : Prop := va_Z "TaleTypes$Lineup" "OF_FIRST" "[I" (.ref g.2.2.1) A U H ∧ va_Z "TaleTypes$Lineup" "OF_OTHER" "[I" (.ref g.2.2.2) A U H ∧ va_T .int g.2.2.1 4 (fun j => .int (Int32.ofInt (xOF j))) A U H ∧ va_T .int g.2.2.2 4 (fun j => .int (Int32.ofInt (xOO j))) A U H
theorem xSt.moved {g : xG} {A : Nat → Prop} {u U : State} {H : Heap} (hvm : u.vm.Alike U.vm) (h : xSt g A u H) : xSt g A U H := ⟨h.1.moved hvm, h.2.1.moved hvm, h.2.2.1.moved hvm, h.2.2.2.moved hvm⟩
theorem xSt.kept {g : xG} {A : Nat → Prop} {U : State} {H H1 : Heap} (h : xSt g A U H) (hq : ∀ a : Nat, a < H.size → ¬ A a → H1[a]? = H[a]?) : xSt g A U H1 := ⟨h.1.kept hq, h.2.1.kept hq, h.2.2.1.kept hq, h.2.2.2.kept hq⟩
theorem xSt.narrow {g : xG} {A B : Nat → Prop} {U : State} {H : Heap} (h : xSt g A U H) (hAB : ∀ q, B q → A q) : xSt g B U H := ⟨h.1.narrow hAB, h.2.1.narrow hAB, h.2.2.1.narrow hAB, h.2.2.2.narrow hAB⟩
/-- the tables' words, at a state -/
def xgw (w : Cond) : Bool := match w with
  | .fieldLinkNest _ _ _ _ _ _ => true
  | .methodLinkNest _ _ _ _ => true
  | .arrayOver (.object _) => true
  | w => goodWord w
def xWd (w : Cond) : Prop := w ∈ lw_tbl ∧ xgw w = true
def xTab (U : State) : Prop := ∀ w, xWd w → ∀ a : Array Value, w.before a U = true
theorem xTab.warm {s U : State} (h : xTab s) (hW : s.WarmedH U.vm) : xTab U := by
  intro w hw a
  have h0 := h w hw
  obtain ⟨hm, hg⟩ := hw
  unfold xgw at hg
  split at hg
  · exact va_Nw.use rfl (va_Nw.warmF hW (va_Nw.of rfl (h0 #[])))
  · exact va_Nw.use rfl (va_Nw.warmM hW (va_Nw.of rfl (h0 #[])))
  · exact va_AO.use (va_AO.moved hW.alike (va_AO.of (h0 #[])))
  · exact word_at hW (good_of_word hg) (h0 #[])
theorem xWd.at {i : Nat} {w : Cond} (h : lw_tbl[i]? = some w) (hg : xgw w = true) : xWd w := ⟨List.mem_of_getElem? h, hg⟩
end
section
/-! ===== locals: a value a place, or nothing known ===== -/
abbrev xLoc : Type := List (Option xV)
def xLo (ls : Array Slot) (nL : Nat) (lo : xLoc) (ad : Nat → Nat) : Prop := ls.size = nL ∧ lv_wf ls ∧ ∀ (i : Nat) (v : xV), lo[i]? = some (some v) → ls[i]? = some (.val (xt ad v))
def xll (lo : xLoc) (ad : Nat → Nat) : List (Nat × Value) := (List.range lo.length).filterMap fun i => match lo[i]? with
  | some (some v) => some (i, xt ad v)
  | _ => none
theorem xll_mem {lo : xLoc} {ad : Nat → Nat} {i : Nat} {v : xV} (h : lo[i]? = some (some v)) : (i, xt ad v) ∈ xll lo ad := by
  refine List.mem_filterMap.mpr ⟨i, List.mem_range.mpr (List.getElem?_eq_some_iff.mp h).1, ?_⟩
  rw [h]
theorem xll_inv {lo : xLoc} {ad : Nat → Nat} {q : Nat × Value} (h : q ∈ xll lo ad) : ∃ v, lo[q.1]? = some (some v) ∧ q.2 = xt ad v := by
  obtain ⟨i, -, hi⟩ := List.mem_filterMap.mp h
  split at hi
  · rename_i v hv
    cases hi
    exact ⟨v, hv, rfl⟩
  · cases hi
theorem xLo.has {ls : Array Slot} {nL : Nat} {lo : xLoc} {ad : Nat → Nat} (h : xLo ls nL lo ad) : lv_has ls nL (xll lo ad) := by
  refine ⟨h.1, h.2.1, fun q hq => ?_⟩
  obtain ⟨v, h1, h2⟩ := xll_inv hq
  rw [h2]
  exact h.2.2 _ _ h1
/-- is it a long -/
def xlg (o : Option (Option xV)) : Bool := match o with
  | some (some (.inr (.inl _))) => true
  | _ => false
theorem xlg_cat {ad : Nat → Nat} {v : xV} (h : xlg (some (some v)) = false) : ¬ (xt ad v).category = 2 := by
  match v with
  | .inl _ => simp [xt, Value.category]
  | .inr (.inl _) => simp [xlg] at h
  | .inr (.inr (.inl _)) => simp [xt, Value.category]
  | .inr (.inr (.inr _)) => simp [xt, Value.category]
/-- the locals behind a store at a place, of one word -/
def xs1 (lo : xLoc) (i : Nat) (v : xV) : xLoc := match i with
  | 0 => lo.set 0 (some v)
  | j + 1 => if xlg lo[j]? then (lo.set j none).set (j + 1) (some v) else lo.set (j + 1) (some v)
/-- .. of two words -/
def xs2 (lo : xLoc) (i : Nat) (v : xV) : xLoc := (xs1 lo i v).set (i + 1) none
theorem xs1_get {lo : xLoc} {i j : Nat} {v u : xV} (h : (xs1 lo i v)[j]? = some (some u)) : (j = i ∧ u = v) ∨ (j ≠ i ∧ lo[j]? = some (some u) ∧ (j + 1 = i → xlg lo[j]? = false)) := by
  cases i with
  | zero =>
    by_cases hj : j = 0
    · subst hj
      simp only [xs1] at h
      have hl := (List.getElem?_eq_some_iff.mp h).1
      rw [List.length_set] at hl
      rw [List.getElem?_set_self hl] at h
      exact Or.inl ⟨rfl, by cases h; rfl⟩
    · simp only [xs1] at h
      rw [List.getElem?_set_ne (fun q => hj q.symm)] at h
      exact Or.inr ⟨hj, h, fun q => by omega⟩
  | succ i =>
    by_cases hj : j = i + 1
    · subst hj
      refine Or.inl ⟨rfl, ?_⟩
      have hl := (List.getElem?_eq_some_iff.mp h).1
      simp only [xs1] at h hl
      split at h
      · rename_i hx
        rw [if_pos hx, List.length_set] at hl
        rw [List.getElem?_set_self (by simpa using hl)] at h
        cases h; rfl
      · rename_i hx
        rw [if_neg hx, List.length_set] at hl
        rw [List.getElem?_set_self hl] at h
        cases h; rfl
    · refine Or.inr ⟨hj, ?_⟩
      simp only [xs1] at h
      split at h
      · rw [List.getElem?_set_ne (fun q => hj q.symm)] at h
        by_cases hji : j = i
        · subst hji
          have hl := (List.getElem?_eq_some_iff.mp h).1
          rw [List.length_set] at hl
          rw [List.getElem?_set_self hl] at h
          cases h
        · rw [List.getElem?_set_ne (fun q => hji q.symm)] at h
          exact ⟨h, fun q => by omega⟩
      · rename_i hx
        rw [List.getElem?_set_ne (fun q => hj q.symm)] at h
        refine ⟨h, fun q => ?_⟩
        have : j = i := by omega
        subst this
        simpa using hx
theorem xLo.of1 {ls : Array Slot} {nL : Nat} {lo : xLoc} {ad : Nat → Nat} {i : Nat} {v : xV} (h : lv_has ls nL ((i, xt ad v) :: (xll lo ad).filter (fun q => !(q.1 == i) && !(q.1 + 1 == i && q.2.category == 2)))) : xLo ls nL (xs1 lo i v) ad := by
  refine ⟨h.1, h.2.1, fun j u hj => ?_⟩
  rcases xs1_get hj with ⟨rfl, rfl⟩ | ⟨h1, h2, h3⟩
  · exact h.2.2 (j, xt ad u) List.mem_cons_self
  · refine h.2.2 (j, xt ad u) (List.mem_cons_of_mem _ (List.mem_filter.mpr ⟨xll_mem h2, ?_⟩))
    simp only [Bool.and_eq_true, Bool.not_eq_true', beq_eq_false_iff_ne, ne_eq, Bool.and_eq_false_iff]
    refine ⟨h1, ?_⟩
    by_cases h4 : j + 1 = i
    · exact Or.inr (xlg_cat (by rw [← h2]; exact h3 h4))
    · exact Or.inl h4
theorem xLo.of2 {ls : Array Slot} {nL : Nat} {lo : xLoc} {ad : Nat → Nat} {i : Nat} {v : xV} (h : lv_has ls nL ((i, xt ad v) :: (xll lo ad).filter (fun q => !(q.1 == i) && (!(q.1 == i + 1) && !(q.1 + 1 == i && q.2.category == 2))))) : xLo ls nL (xs2 lo i v) ad := by
  refine ⟨h.1, h.2.1, fun j u hj => ?_⟩
  by_cases hji : j = i + 1
  · subst hji
    simp only [xs2] at hj
    have hl := (List.getElem?_eq_some_iff.mp hj).1
    rw [List.length_set] at hl
    rw [List.getElem?_set_self hl] at hj
    cases hj
  · simp only [xs2] at hj
    rw [List.getElem?_set_ne (fun q => hji q.symm)] at hj
    rcases xs1_get hj with ⟨rfl, rfl⟩ | ⟨h1, h2, h3⟩
    · exact h.2.2 (j, xt ad u) List.mem_cons_self
    · refine h.2.2 (j, xt ad u) (List.mem_cons_of_mem _ (List.mem_filter.mpr ⟨xll_mem h2, ?_⟩))
      simp only [Bool.and_eq_true, Bool.not_eq_true', beq_eq_false_iff_ne, ne_eq, Bool.and_eq_false_iff]
      refine ⟨h1, hji, ?_⟩
      by_cases h4 : j + 1 = i
      · exact Or.inr (xlg_cat (by rw [← h2]; exact h3 h4))
      · exact Or.inl h4
/-- less is known -/
theorem xLo.less {ls : Array Slot} {nL : Nat} {lo lo' : xLoc} {ad : Nat → Nat} (h : xLo ls nL lo ad) (hl : ∀ (i : Nat) (v : xV), lo'[i]? = some (some v) → lo[i]? = some (some v)) : xLo ls nL lo' ad := ⟨h.1, h.2.1, fun i v hv => h.2.2 i v (hl i v hv)⟩
/-! ===== the walk of a method ===== -/
/-- a method's end -/
def xQ (g : xG) (w0 : xW) (ad0 : Nat → Nat) (A : Nat → Prop) (K : Option xV → xW → xM → Prop) : Array Value → State → Outcome → State → Prop := fun _ st oc t =>
  (∃ (r : Option xV) (w : xW) (μ : xM) (ad : Nat → Nat), oc = .returned (r.map (xt ad)) ∧ K r w μ ∧ w0.1 ≤ w.1 ∧ (∀ k, k < w0.1 → ad k = ad0 k) ∧ (w.1 = w0.1 → ad = ad0) ∧ va_P g.1 vwCl (xw g w μ ad) t.heap ∧ va_D A (xw g w μ ad) ∧ xok w μ) ∧ va_F A st t
/-- what a method needs -/
def xPre (g : xG) (w : xW) (μ : xM) (ad : Nat → Nat) (sz : Nat) (U : State) : Prop := U.heap.size = sz ∧ xTab U ∧ va_K g.1 vwCl (xtys g) U ∧ xSt g (xAs w ad sz) U U.heap ∧ va_P g.1 vwCl (xw g w μ ad) U.heap ∧ va_D (fun _ => True) (xw g w μ ad) ∧ xok w μ
theorem xPre.moved {g : xG} {w : xW} {μ : xM} {ad : Nat → Nat} {sz : Nat} {s U : State} (h : xPre g w μ ad sz s) (hW : s.WarmedH U.vm) (hh : U.heap = s.heap) : xPre g w μ ad sz U := by
  obtain ⟨h1, h2, h3, h4, h5, h6, h7⟩ := h
  exact ⟨by rw [hh]; exact h1, h2.warm hW, va_K.moved hW.alike h3, by rw [hh]; exact h4.moved hW.alike, by rw [hh]; exact h5, h6, h7⟩
/-- a method's contract -/
def xMet (y : MethodName) (cc : ByteArray) (maxL : Nat) (ret : Option FieldType) (fr lc mc ms : Nat) (av : List xV) (w : xW) (μ : xM) (K : Option xV → xW → xM → Prop) : Prop :=
  ∀ (l : Launch) (g : xG) (ad : Nat → Nat) (sz : Nat), Met l y [.code y cc maxL ret] { frames := fr, cells := mc, slots := ms, locals := lc } (va_Pc (av.map (xt ad)) (xPre g w μ ad sz)) (xQ g w ad (xAs w ad sz) K) mc ms (xAs w ad sz)
def xX (p : Program) (l : Launch) (e : Env) (R : Room) (s : State) (m : MethodId) (args : Array Value) (below : List Frame) (meth : Method) (c : Code) (g : xG) (w0 : xW) (ad0 : Nat → Nat) (A : Nat → Prop) (nL : Nat) (Q : State → Prop) (cu su : Nat) (w : xW) (μ : xM) (pc : Nat) (lo : xLoc) (st : List xV) : Prop :=
  ∀ (H : Heap) (locs : List Loc) (ls : Array Slot) (ad : Nat → Nat), w0.1 ≤ w.1 → (∀ k, k < w0.1 → ad k = ad0 k) → (w.1 = w0.1 → ad = ad0) → va_P g.1 vwCl (xw g w μ ad) H → va_D A (xw g w μ ad) → va_S A s.heap H locs → xok w μ → xLo ls nL lo ad →
    W p l e R s m args below meth c H locs cu su Q (F0 m pc ls (st.map (xt ad)))
def xCx (p : Program) (s : State) (m : MethodId) (c : Code) (cc : ByteArray) (nL : Nat) (own : String) (g : xG) (A : Nat → Prop) : Prop := p.tables.exec = Jvm.exec ∧ c.code = cc ∧ c.maxLocals = nL ∧ s.vm.findClass own = some m.cls ∧ xTab s ∧ va_K g.1 vwCl (xtys g) s ∧ xSt g A s s.heap ∧ ∀ q, s.heap.size ≤ q → A q
/-- X is the walk of a method: of class own, with these bytes, this room, this end -/
def Lg (own nm : String) (cc : ByteArray) (nL : Nat) (R : Room) (ret : Option FieldType) (mc ms : Nat) (K : Option xV → xW → xM → Prop) (X : Nat → Nat → xW → xM → Nat → xLoc → List xV → Prop) : Prop :=
  ∃ (p : Program) (l : Launch) (e : Env) (s : State) (m : MethodId) (args : Array Value) (below : List Frame) (meth : Method) (c : Code) (g : xG) (w0 : xW) (ad0 : Nat → Nat) (A : Nat → Prop),
    xCx p s m c cc nL own g A ∧ meth.sig.returnType = ret ∧ meth.locks = false ∧ meth.name = nm ∧ X = xX p l e R s m args below meth c g w0 ad0 A nL (MQ below (xQ g w0 ad0 A K) args s mc ms A)
/-- the arguments' places -/
def xpl : List xV → xLoc
  | [] => []
  | .inr (.inl x) :: l => some (.inr (.inl x)) :: none :: xpl l
  | v :: l => some v :: xpl l
theorem xpl_args (ad : Nat → Nat) : ∀ (av : List xV) (o i : Nat) (v : xV), (xpl av)[i]? = some (some v) → (o + i, xt ad v) ∈ lv_args o (av.map (xt ad)) := by
  intro av
  induction av with
  | nil => intro o i v h; simp [xpl] at h
  | cons a l ih =>
    intro o i v h
    match a, h with
    | .inl x, h =>
      cases i with
      | zero =>
        simp only [xpl, List.getElem?_cons_zero, Option.some.injEq] at h
        subst h
        simp [lv_args, xt]
      | succ i =>
        simp only [xpl, List.getElem?_cons_succ] at h
        have := ih (o + 1) i v h
        simp only [List.map_cons, xt, lv_args, Value.category] at this ⊢
        rw [show o + (i + 1) = o + 1 + i by omega]
        exact List.mem_cons_of_mem _ this
    | .inr (.inl x), h =>
      match i, h with
      | 0, h =>
        simp only [xpl, List.getElem?_cons_zero, Option.some.injEq] at h
        subst h
        simp [lv_args, xt]
      | 1, h => simp [xpl] at h
      | i + 2, h =>
        simp only [xpl, List.getElem?_cons_succ] at h
        have := ih (o + 2) i v h
        simp only [List.map_cons, xt, lv_args, Value.category] at this ⊢
        rw [show o + (i + 2) = o + 2 + i by omega]
        exact List.mem_cons_of_mem _ this
    | .inr (.inr (.inl x)), h =>
      cases i with
      | zero =>
        simp only [xpl, List.getElem?_cons_zero, Option.some.injEq] at h
        subst h
        simp [lv_args, xt]
      | succ i =>
        simp only [xpl, List.getElem?_cons_succ] at h
        have := ih (o + 1) i v h
        simp only [List.map_cons, xt, lv_args, Value.category] at this ⊢
        rw [show o + (i + 1) = o + 1 + i by omega]
        exact List.mem_cons_of_mem _ this
    | .inr (.inr (.inr x)), h =>
      cases i with
      | zero =>
        simp only [xpl, List.getElem?_cons_zero, Option.some.injEq] at h
        subst h
        simp [lv_args, xt]
      | succ i =>
        simp only [xpl, List.getElem?_cons_succ] at h
        have := ih (o + 1) i v h
        simp only [List.map_cons, xt, lv_args, Value.category] at this ⊢
        rw [show o + (i + 1) = o + 1 + i by omega]
        exact List.mem_cons_of_mem _ this
def xwd (av : List xV) : Nat := (av.map (fun v => match v with | .inr (.inl _) => 2 | _ => 1)).sum
theorem xpl_len (ad : Nat → Nat) : ∀ av : List xV, (lg_sl (av.map (xt ad))).length = (xpl av).length := by
  intro av
  induction av with
  | nil => rfl
  | cons a l ih =>
    match a with
    | .inl x => simp [lg_sl, xpl, xt, Value.category] at ih ⊢; omega
    | .inr (.inl x) => simp [lg_sl, xpl, xt, Value.category] at ih ⊢; omega
    | .inr (.inr (.inl x)) => simp [lg_sl, xpl, xt, Value.category] at ih ⊢; omega
    | .inr (.inr (.inr x)) => simp [lg_sl, xpl, xt, Value.category] at ih ⊢; omega
/-- a contract out of a walk -/
theorem xMet.of {y : MethodName} {cc : ByteArray} {maxL : Nat} {ret : Option FieldType} {fr lc mc ms : Nat} {av : List xV} {w : xW} {μ : xM} {K : Option xV → xW → xM → Prop} (hy : plainName y.cls = true) (lo : xLoc) (hlen : (xpl av).length ≤ maxL) (hlo : xpl av ++ List.replicate (maxL - (xpl av).length) none = lo)
    (body : ∀ X, Lg y.cls y.name cc maxL { frames := fr, cells := mc, slots := ms, locals := lc } ret mc ms K X → X 0 0 w μ 0 lo []) : xMet y cc maxL ret fr lc mc ms av w μ K := by
  intro l g ad sz
  refine Met.ofW (cc := cc) (maxL := maxL) (ret := ret) hy rfl ?_
  intro p e s m args below meth c s₁ B hml hv
  obtain ⟨rfl, hsz, hT, hK, hS, hP, hD, hok⟩ := hv
  have hX := body (xX p l e { frames := fr, cells := mc, slots := ms, locals := lc } s m (av.map (xt ad)).toArray below meth c g w ad (xAs w ad sz) maxL (MQ below (xQ g w ad (xAs w ad sz) K) (av.map (xt ad)).toArray s mc ms (xAs w ad sz))) ⟨p, l, e, s, m, (av.map (xt ad)).toArray, below, meth, c, g, w, ad, xAs w ad sz, ⟨B.exec, B.bytes, hml, findClass_of_methodNamed B.named, hT, hK, hS, fun q h => Or.inr (by omega)⟩, B.returns, B.notSynchronized, (name_of_methodNamed B.named B.method).1, rfl⟩
  rw [lg_entry_eq]
  refine hX s.heap [] _ ad (Nat.le_refl _) (fun _ _ => rfl) (fun _ => rfl) hP (hD.weaken fun k q hq _ => ?_) va_S.rf hok ?_
  · obtain ⟨hk, rfl⟩ := xw_inv hq
    exact Or.inl ⟨k, hk, rfl⟩
  · have hent := lv_entry (av.map (xt ad)) (n := maxL) (by rw [xpl_len]; exact hlen)
    refine ⟨hent.1, hent.2.1, fun i v hv => ?_⟩
    rw [← hlo] at hv
    by_cases hi : i < (xpl av).length
    · rw [List.getElem?_append_left hi] at hv
      have := hent.2.2 _ (xpl_args ad av 0 i v hv)
      rwa [Nat.zero_add] at this
    · rw [List.getElem?_append_right (by omega)] at hv
      have := List.eq_of_mem_replicate (List.mem_of_getElem? hv)
      cases this
end
section
section
variable {own nm : String} {cc : ByteArray} {nL : Nat} {R : Room} {ret : Option FieldType} {mc ms : Nat} {K : Option xV → xW → xM → Prop} {X : Nat → Nat → xW → xM → Nat → xLoc → List xV → Prop}
variable {cu su : Nat} {w : xW} {μ : xM} {pc : Nat} {lo : xLoc} {st : List xV}

theorem r_iadd (hL : Lg own nm cc nL R ret mc ms K X) {x y : Int} (hd : decode cc pc = .ok (.iadd, 1)) (k : X cu su w μ (pc + 1) lo (xI (x + y) :: st)) : X cu su w μ pc lo (xI y :: xI x :: st) := by
  obtain ⟨p, l, e, s, m, args, below, meth, c, g, w0, ad0, A, ⟨hx, hb, hml, hown, hT, hK, hSt, hA⟩, hr, hlk, hnm, rfl⟩ := hL
  intro H locs ls ad a1 a2 a3 hP hD hS hok hlo
  have kk := k H locs ls ad a1 a2 a3 hP hD hS hok hlo
  simp only [List.map_cons, xt, Int32.ofInt_add] at kk ⊢
  exact lv_iadd hx hb hd kk

theorem r_isub (hL : Lg own nm cc nL R ret mc ms K X) {x y : Int} (hd : decode cc pc = .ok (.isub, 1)) (k : X cu su w μ (pc + 1) lo (xI (x - y) :: st)) : X cu su w μ pc lo (xI y :: xI x :: st) := by
  obtain ⟨p, l, e, s, m, args, below, meth, c, g, w0, ad0, A, ⟨hx, hb, hml, hown, hT, hK, hSt, hA⟩, hr, hlk, hnm, rfl⟩ := hL
  intro H locs ls ad a1 a2 a3 hP hD hS hok hlo
  have kk := k H locs ls ad a1 a2 a3 hP hD hS hok hlo
  simp only [List.map_cons, xt, Int32.ofInt_sub] at kk ⊢
  exact lv_isub hx hb hd kk

theorem r_imul (hL : Lg own nm cc nL R ret mc ms K X) {x y : Int} (hd : decode cc pc = .ok (.imul, 1)) (k : X cu su w μ (pc + 1) lo (xI (x * y) :: st)) : X cu su w μ pc lo (xI y :: xI x :: st) := by
  obtain ⟨p, l, e, s, m, args, below, meth, c, g, w0, ad0, A, ⟨hx, hb, hml, hown, hT, hK, hSt, hA⟩, hr, hlk, hnm, rfl⟩ := hL
  intro H locs ls ad a1 a2 a3 hP hD hS hok hlo
  have kk := k H locs ls ad a1 a2 a3 hP hD hS hok hlo
  simp only [List.map_cons, xt, Int32.ofInt_mul] at kk ⊢
  exact lv_imul hx hb hd kk

theorem r_iand (hL : Lg own nm cc nL R ret mc ms K X) {x y : Int} (hd : decode cc pc = .ok (.iand, 1)) (k : X cu su w μ (pc + 1) lo (xI (xand x y) :: st)) : X cu su w μ pc lo (xI y :: xI x :: st) := by
  obtain ⟨p, l, e, s, m, args, below, meth, c, g, w0, ad0, A, ⟨hx, hb, hml, hown, hT, hK, hSt, hA⟩, hr, hlk, hnm, rfl⟩ := hL
  intro H locs ls ad a1 a2 a3 hP hD hS hok hlo
  have kk := k H locs ls ad a1 a2 a3 hP hD hS hok hlo
  simp only [List.map_cons, xt, xand, xn_of] at kk ⊢
  exact lv_iand hx hb hd kk

theorem r_ior (hL : Lg own nm cc nL R ret mc ms K X) {x y : Int} (hd : decode cc pc = .ok (.ior, 1)) (k : X cu su w μ (pc + 1) lo (xI (xor' x y) :: st)) : X cu su w μ pc lo (xI y :: xI x :: st) := by
  obtain ⟨p, l, e, s, m, args, below, meth, c, g, w0, ad0, A, ⟨hx, hb, hml, hown, hT, hK, hSt, hA⟩, hr, hlk, hnm, rfl⟩ := hL
  intro H locs ls ad a1 a2 a3 hP hD hS hok hlo
  have kk := k H locs ls ad a1 a2 a3 hP hD hS hok hlo
  simp only [List.map_cons, xt, xor', xn_of] at kk ⊢
  exact lv_ior hx hb hd kk

theorem r_ixor (hL : Lg own nm cc nL R ret mc ms K X) {x y : Int} (hd : decode cc pc = .ok (.ixor, 1)) (k : X cu su w μ (pc + 1) lo (xI (xxor x y) :: st)) : X cu su w μ pc lo (xI y :: xI x :: st) := by
  obtain ⟨p, l, e, s, m, args, below, meth, c, g, w0, ad0, A, ⟨hx, hb, hml, hown, hT, hK, hSt, hA⟩, hr, hlk, hnm, rfl⟩ := hL
  intro H locs ls ad a1 a2 a3 hP hD hS hok hlo
  have kk := k H locs ls ad a1 a2 a3 hP hD hS hok hlo
  simp only [List.map_cons, xt, xxor, xn_of] at kk ⊢
  exact lv_ixor hx hb hd kk

theorem r_ishl (hL : Lg own nm cc nL R ret mc ms K X) {x y : Int} (hd : decode cc pc = .ok (.ishl, 1)) (k : X cu su w μ (pc + 1) lo (xI (xshl x y) :: st)) : X cu su w μ pc lo (xI y :: xI x :: st) := by
  obtain ⟨p, l, e, s, m, args, below, meth, c, g, w0, ad0, A, ⟨hx, hb, hml, hown, hT, hK, hSt, hA⟩, hr, hlk, hnm, rfl⟩ := hL
  intro H locs ls ad a1 a2 a3 hP hD hS hok hlo
  have kk := k H locs ls ad a1 a2 a3 hP hD hS hok hlo
  simp only [List.map_cons, xt, xshl, xn_of] at kk ⊢
  exact lv_ishl hx hb hd kk

theorem r_ishr (hL : Lg own nm cc nL R ret mc ms K X) {x y : Int} (hd : decode cc pc = .ok (.ishr, 1)) (k : X cu su w μ (pc + 1) lo (xI (xshr x y) :: st)) : X cu su w μ pc lo (xI y :: xI x :: st) := by
  obtain ⟨p, l, e, s, m, args, below, meth, c, g, w0, ad0, A, ⟨hx, hb, hml, hown, hT, hK, hSt, hA⟩, hr, hlk, hnm, rfl⟩ := hL
  intro H locs ls ad a1 a2 a3 hP hD hS hok hlo
  have kk := k H locs ls ad a1 a2 a3 hP hD hS hok hlo
  simp only [List.map_cons, xt, xshr, xn_of] at kk ⊢
  exact lv_ishr hx hb hd kk

theorem r_idiv (hL : Lg own nm cc nL R ret mc ms K X) {x y : Int} (hd : decode cc pc = .ok (.idiv, 1)) (hy : xrg y) (h0 : y ≠ 0) (k : X cu su w μ (pc + 1) lo (xI (xdiv x y) :: st)) : X cu su w μ pc lo (xI y :: xI x :: st) := by
  obtain ⟨p, l, e, s, m, args, below, meth, c, g, w0, ad0, A, ⟨hx, hb, hml, hown, hT, hK, hSt, hA⟩, hr, hlk, hnm, rfl⟩ := hL
  intro H locs ls ad a1 a2 a3 hP hD hS hok hlo
  have kk := k H locs ls ad a1 a2 a3 hP hD hS hok hlo
  simp only [List.map_cons, xt, xdiv, xrem, xn_of] at kk ⊢
  exact lv_idiv hx hb hd (fun q => h0 ((xn_eq hy (by omega)).mp (q.trans xn_zero))) kk

theorem r_irem (hL : Lg own nm cc nL R ret mc ms K X) {x y : Int} (hd : decode cc pc = .ok (.irem, 1)) (hy : xrg y) (h0 : y ≠ 0) (k : X cu su w μ (pc + 1) lo (xI (xrem x y) :: st)) : X cu su w μ pc lo (xI y :: xI x :: st) := by
  obtain ⟨p, l, e, s, m, args, below, meth, c, g, w0, ad0, A, ⟨hx, hb, hml, hown, hT, hK, hSt, hA⟩, hr, hlk, hnm, rfl⟩ := hL
  intro H locs ls ad a1 a2 a3 hP hD hS hok hlo
  have kk := k H locs ls ad a1 a2 a3 hP hD hS hok hlo
  simp only [List.map_cons, xt, xdiv, xrem, xn_of] at kk ⊢
  exact lv_irem hx hb hd (fun q => h0 ((xn_eq hy (by omega)).mp (q.trans xn_zero))) kk

theorem r_iushr (hL : Lg own nm cc nL R ret mc ms K X) {x y : Int} (hd : decode cc pc = .ok (.iushr, 1)) (k : X cu su w μ (pc + 1) lo (xI (xushr x y) :: st)) : X cu su w μ pc lo (xI y :: xI x :: st) := by
  obtain ⟨p, l, e, s, m, args, below, meth, c, g, w0, ad0, A, ⟨hx, hb, hml, hown, hT, hK, hSt, hA⟩, hr, hlk, hnm, rfl⟩ := hL
  intro H locs ls ad a1 a2 a3 hP hD hS hok hlo
  have kk := k H locs ls ad a1 a2 a3 hP hD hS hok hlo
  simp only [List.map_cons, xt, xushr, xn_of] at kk ⊢
  exact lv_iushr hx hb hd rfl kk

theorem r_ineg (hL : Lg own nm cc nL R ret mc ms K X) {x : Int} (hd : decode cc pc = .ok (.ineg, 1)) (k : X cu su w μ (pc + 1) lo (xI (-x) :: st)) : X cu su w μ pc lo (xI x :: st) := by
  obtain ⟨p, l, e, s, m, args, below, meth, c, g, w0, ad0, A, ⟨hx, hb, hml, hown, hT, hK, hSt, hA⟩, hr, hlk, hnm, rfl⟩ := hL
  intro H locs ls ad a1 a2 a3 hP hD hS hok hlo
  have kk := k H locs ls ad a1 a2 a3 hP hD hS hok hlo
  simp only [List.map_cons, xt, Int32.ofInt_neg] at kk ⊢
  exact lv_ineg hx hb hd kk

theorem r_ladd (hL : Lg own nm cc nL R ret mc ms K X) {x y : Int} (hd : decode cc pc = .ok (.ladd, 1)) (k : X cu su w μ (pc + 1) lo (xL (x + y) :: st)) : X cu su w μ pc lo (xL y :: xL x :: st) := by
  obtain ⟨p, l, e, s, m, args, below, meth, c, g, w0, ad0, A, ⟨hx, hb, hml, hown, hT, hK, hSt, hA⟩, hr, hlk, hnm, rfl⟩ := hL
  intro H locs ls ad a1 a2 a3 hP hD hS hok hlo
  have kk := k H locs ls ad a1 a2 a3 hP hD hS hok hlo
  simp only [List.map_cons, xt, Int64.ofInt_add] at kk ⊢
  exact lv_ladd hx hb hd kk

theorem r_lmul (hL : Lg own nm cc nL R ret mc ms K X) {x y : Int} (hd : decode cc pc = .ok (.lmul, 1)) (k : X cu su w μ (pc + 1) lo (xL (x * y) :: st)) : X cu su w μ pc lo (xL y :: xL x :: st) := by
  obtain ⟨p, l, e, s, m, args, below, meth, c, g, w0, ad0, A, ⟨hx, hb, hml, hown, hT, hK, hSt, hA⟩, hr, hlk, hnm, rfl⟩ := hL
  intro H locs ls ad a1 a2 a3 hP hD hS hok hlo
  have kk := k H locs ls ad a1 a2 a3 hP hD hS hok hlo
  simp only [List.map_cons, xt, Int64.ofInt_mul] at kk ⊢
  exact lv_lmul hx hb hd kk

theorem r_land (hL : Lg own nm cc nL R ret mc ms K X) {x y : Int} (hd : decode cc pc = .ok (.land, 1)) (k : X cu su w μ (pc + 1) lo (xL (xland x y) :: st)) : X cu su w μ pc lo (xL y :: xL x :: st) := by
  obtain ⟨p, l, e, s, m, args, below, meth, c, g, w0, ad0, A, ⟨hx, hb, hml, hown, hT, hK, hSt, hA⟩, hr, hlk, hnm, rfl⟩ := hL
  intro H locs ls ad a1 a2 a3 hP hD hS hok hlo
  have kk := k H locs ls ad a1 a2 a3 hP hD hS hok hlo
  simp only [List.map_cons, xt, xland, xn_ofl] at kk ⊢
  exact lv_land hx hb hd kk

theorem r_lor (hL : Lg own nm cc nL R ret mc ms K X) {x y : Int} (hd : decode cc pc = .ok (.lor, 1)) (k : X cu su w μ (pc + 1) lo (xL (xlor x y) :: st)) : X cu su w μ pc lo (xL y :: xL x :: st) := by
  obtain ⟨p, l, e, s, m, args, below, meth, c, g, w0, ad0, A, ⟨hx, hb, hml, hown, hT, hK, hSt, hA⟩, hr, hlk, hnm, rfl⟩ := hL
  intro H locs ls ad a1 a2 a3 hP hD hS hok hlo
  have kk := k H locs ls ad a1 a2 a3 hP hD hS hok hlo
  simp only [List.map_cons, xt, xlor, xn_ofl] at kk ⊢
  exact lv_lor hx hb hd kk

theorem r_lrem (hL : Lg own nm cc nL R ret mc ms K X) {x y : Int} (hd : decode cc pc = .ok (.lrem, 1)) (hy : xrl y) (h0 : y ≠ 0) (k : X cu su w μ (pc + 1) lo (xL (xlrem x y) :: st)) : X cu su w μ pc lo (xL y :: xL x :: st) := by
  obtain ⟨p, l, e, s, m, args, below, meth, c, g, w0, ad0, A, ⟨hx, hb, hml, hown, hT, hK, hSt, hA⟩, hr, hlk, hnm, rfl⟩ := hL
  intro H locs ls ad a1 a2 a3 hP hD hS hok hlo
  have kk := k H locs ls ad a1 a2 a3 hP hD hS hok hlo
  simp only [List.map_cons, xt, xlrem, xn_ofl] at kk ⊢
  exact lv_lrem hx hb hd (fun q => h0 (by have := congrArg Int64.toInt q; rw [xn_l hy] at this; exact this)) kk

theorem r_lshl (hL : Lg own nm cc nL R ret mc ms K X) {x y : Int} (hd : decode cc pc = .ok (.lshl, 1)) (k : X cu su w μ (pc + 1) lo (xL (xlshl x y) :: st)) : X cu su w μ pc lo (xI y :: xL x :: st) := by
  obtain ⟨p, l, e, s, m, args, below, meth, c, g, w0, ad0, A, ⟨hx, hb, hml, hown, hT, hK, hSt, hA⟩, hr, hlk, hnm, rfl⟩ := hL
  intro H locs ls ad a1 a2 a3 hP hD hS hok hlo
  have kk := k H locs ls ad a1 a2 a3 hP hD hS hok hlo
  simp only [List.map_cons, xt, xlshl, xn_ofl] at kk ⊢
  exact lv_lshl hx hb hd rfl kk

theorem r_lushr (hL : Lg own nm cc nL R ret mc ms K X) {x y : Int} (hd : decode cc pc = .ok (.lushr, 1)) (k : X cu su w μ (pc + 1) lo (xL (xlushr x y) :: st)) : X cu su w μ pc lo (xI y :: xL x :: st) := by
  obtain ⟨p, l, e, s, m, args, below, meth, c, g, w0, ad0, A, ⟨hx, hb, hml, hown, hT, hK, hSt, hA⟩, hr, hlk, hnm, rfl⟩ := hL
  intro H locs ls ad a1 a2 a3 hP hD hS hok hlo
  have kk := k H locs ls ad a1 a2 a3 hP hD hS hok hlo
  simp only [List.map_cons, xt, xlushr, xn_ofl] at kk ⊢
  exact lv_lushr hx hb hd rfl kk

theorem r_i2l (hL : Lg own nm cc nL R ret mc ms K X) {x : Int} (hd : decode cc pc = .ok (.i2l, 1)) (hx0 : xrg x) (k : X cu su w μ (pc + 1) lo (xL x :: st)) : X cu su w μ pc lo (xI x :: st) := by
  obtain ⟨p, l, e, s, m, args, below, meth, c, g, w0, ad0, A, ⟨hx, hb, hml, hown, hT, hK, hSt, hA⟩, hr, hlk, hnm, rfl⟩ := hL
  intro H locs ls ad a1 a2 a3 hP hD hS hok hlo
  have kk := k H locs ls ad a1 a2 a3 hP hD hS hok hlo
  simp only [List.map_cons, xt] at kk ⊢
  exact lv_i2l hx hb hd (by rw [← Int64.ofInt_int32ToInt, xn_i hx0]) kk

theorem r_l2i (hL : Lg own nm cc nL R ret mc ms K X) {x : Int} (hd : decode cc pc = .ok (.l2i, 1)) (k : X cu su w μ (pc + 1) lo (xI x :: st)) : X cu su w μ pc lo (xL x :: st) := by
  obtain ⟨p, l, e, s, m, args, below, meth, c, g, w0, ad0, A, ⟨hx, hb, hml, hown, hT, hK, hSt, hA⟩, hr, hlk, hnm, rfl⟩ := hL
  intro H locs ls ad a1 a2 a3 hP hD hS hok hlo
  have kk := k H locs ls ad a1 a2 a3 hP hD hS hok hlo
  simp only [List.map_cons, xt] at kk ⊢
  exact lv_l2i hx hb hd (by simp) kk

theorem r_iconst (hL : Lg own nm cc nL R ret mc ms K X) {n : Int} (hd : decode cc pc = .ok (.iconst n, 1)) (k : X cu su w μ (pc + 1) lo (xI n :: st)) : X cu su w μ pc lo st := by
  obtain ⟨p, l, e, s, m, args, below, meth, c, g, w0, ad0, A, ⟨hx, hb, hml, hown, hT, hK, hSt, hA⟩, hr, hlk, hnm, rfl⟩ := hL
  intro H locs ls ad a1 a2 a3 hP hD hS hok hlo
  have kk := k H locs ls ad a1 a2 a3 hP hD hS hok hlo
  simp only [List.map_cons, xt] at kk ⊢
  exact lv_iconst hx hb hd rfl kk

theorem r_bipush (hL : Lg own nm cc nL R ret mc ms K X) {n : Int} (hd : decode cc pc = .ok (.bipush n, 2)) (hv : (Int8.ofInt n).toInt32 = Int32.ofInt n) (k : X cu su w μ (pc + 2) lo (xI n :: st)) : X cu su w μ pc lo st := by
  obtain ⟨p, l, e, s, m, args, below, meth, c, g, w0, ad0, A, ⟨hx, hb, hml, hown, hT, hK, hSt, hA⟩, hr, hlk, hnm, rfl⟩ := hL
  intro H locs ls ad a1 a2 a3 hP hD hS hok hlo
  have kk := k H locs ls ad a1 a2 a3 hP hD hS hok hlo
  simp only [List.map_cons, xt] at kk ⊢
  exact lv_bipush hx hb hd hv kk

theorem r_sipush (hL : Lg own nm cc nL R ret mc ms K X) {n : Int} (hd : decode cc pc = .ok (.sipush n, 3)) (hv : (Int16.ofInt n).toInt32 = Int32.ofInt n) (k : X cu su w μ (pc + 3) lo (xI n :: st)) : X cu su w μ pc lo st := by
  obtain ⟨p, l, e, s, m, args, below, meth, c, g, w0, ad0, A, ⟨hx, hb, hml, hown, hT, hK, hSt, hA⟩, hr, hlk, hnm, rfl⟩ := hL
  intro H locs ls ad a1 a2 a3 hP hD hS hok hlo
  have kk := k H locs ls ad a1 a2 a3 hP hD hS hok hlo
  simp only [List.map_cons, xt] at kk ⊢
  exact lv_sipush hx hb hd hv kk

theorem r_ldc (hL : Lg own nm cc nL R ret mc ms K X) {i : Nat} {v : Int32} {n : Int} (hd : decode cc pc = .ok (.ldc i, 2)) (hc : xWd (.constant own i v)) (hv : v = Int32.ofInt n) (k : X cu su w μ (pc + 2) lo (xI n :: st)) : X cu su w μ pc lo st := by
  obtain ⟨p, l, e, s, m, args, below, meth, c, g, w0, ad0, A, ⟨hx, hb, hml, hown, hT, hK, hSt, hA⟩, hr, hlk, hnm, rfl⟩ := hL
  intro H locs ls ad a1 a2 a3 hP hD hS hok hlo
  have kk := k H locs ls ad a1 a2 a3 hP hD hS hok hlo
  simp only [List.map_cons, xt] at kk ⊢
  exact lv_ldc hx hb hown (hT _ (hv ▸ hc) _) hd kk

theorem r_ldc2 (hL : Lg own nm cc nL R ret mc ms K X) {i : Nat} {v : Int64} {n : Int} (hd : decode cc pc = .ok (.ldc2_w i, 3)) (hc : xWd (.constantLong own i v)) (hv : v = Int64.ofInt n) (k : X cu su w μ (pc + 3) lo (xL n :: st)) : X cu su w μ pc lo st := by
  obtain ⟨p, l, e, s, m, args, below, meth, c, g, w0, ad0, A, ⟨hx, hb, hml, hown, hT, hK, hSt, hA⟩, hr, hlk, hnm, rfl⟩ := hL
  intro H locs ls ad a1 a2 a3 hP hD hS hok hlo
  have kk := k H locs ls ad a1 a2 a3 hP hD hS hok hlo
  simp only [List.map_cons, xt] at kk ⊢
  exact lv_ldc2 hx hb hown (hT _ (hv ▸ hc) _) hd kk

theorem r_lconst (hL : Lg own nm cc nL R ret mc ms K X) {i : Fin 2} {n : Int} (hd : decode cc pc = .ok (.lconst i, 1)) (hv : Int64.ofNat (i : Nat) = Int64.ofInt n) (k : X cu su w μ (pc + 1) lo (xL n :: st)) : X cu su w μ pc lo st := by
  obtain ⟨p, l, e, s, m, args, below, meth, c, g, w0, ad0, A, ⟨hx, hb, hml, hown, hT, hK, hSt, hA⟩, hr, hlk, hnm, rfl⟩ := hL
  intro H locs ls ad a1 a2 a3 hP hD hS hok hlo
  have kk := k H locs ls ad a1 a2 a3 hP hD hS hok hlo
  simp only [List.map_cons, xt] at kk ⊢
  exact lv_lconst hx hb hd hv kk

theorem r_iload (hL : Lg own nm cc nL R ret mc ms K X) {i : Nat} {x : Int} (hd : decode cc pc = .ok (.iload i, 2)) (hl : lo[i]? = some (some (xI x))) (k : X cu su w μ (pc + 2) lo (xI x :: st)) : X cu su w μ pc lo st := by
  obtain ⟨p, l, e, s, m, args, below, meth, c, g, w0, ad0, A, ⟨hx, hb, hml, hown, hT, hK, hSt, hA⟩, hr, hlk, hnm, rfl⟩ := hL
  intro H locs ls ad a1 a2 a3 hP hD hS hok hlo
  have kk := k H locs ls ad a1 a2 a3 hP hD hS hok hlo
  simp only [List.map_cons, xt] at kk ⊢
  exact lv_iload hx hb hd (hlo.2.2 _ _ hl) kk

theorem r_iload_n (hL : Lg own nm cc nL R ret mc ms K X) {j : Fin 4} {x : Int} (hd : decode cc pc = .ok (.iload_n j, 1)) (hl : lo[(j : Nat)]? = some (some (xI x))) (k : X cu su w μ (pc + 1) lo (xI x :: st)) : X cu su w μ pc lo st := by
  obtain ⟨p, l, e, s, m, args, below, meth, c, g, w0, ad0, A, ⟨hx, hb, hml, hown, hT, hK, hSt, hA⟩, hr, hlk, hnm, rfl⟩ := hL
  intro H locs ls ad a1 a2 a3 hP hD hS hok hlo
  have kk := k H locs ls ad a1 a2 a3 hP hD hS hok hlo
  simp only [List.map_cons, xt] at kk ⊢
  exact lv_iload_n hx hb hd rfl (hlo.2.2 _ _ hl) kk

theorem r_lload (hL : Lg own nm cc nL R ret mc ms K X) {i : Nat} {x : Int} (hd : decode cc pc = .ok (.lload i, 2)) (hl : lo[i]? = some (some (xL x))) (k : X cu su w μ (pc + 2) lo (xL x :: st)) : X cu su w μ pc lo st := by
  obtain ⟨p, l, e, s, m, args, below, meth, c, g, w0, ad0, A, ⟨hx, hb, hml, hown, hT, hK, hSt, hA⟩, hr, hlk, hnm, rfl⟩ := hL
  intro H locs ls ad a1 a2 a3 hP hD hS hok hlo
  have kk := k H locs ls ad a1 a2 a3 hP hD hS hok hlo
  simp only [List.map_cons, xt] at kk ⊢
  exact lv_lload hx hb hd (hlo.2.2 _ _ hl) kk

theorem r_lload_n (hL : Lg own nm cc nL R ret mc ms K X) {j : Fin 4} {x : Int} (hd : decode cc pc = .ok (.lload_n j, 1)) (hl : lo[(j : Nat)]? = some (some (xL x))) (k : X cu su w μ (pc + 1) lo (xL x :: st)) : X cu su w μ pc lo st := by
  obtain ⟨p, l, e, s, m, args, below, meth, c, g, w0, ad0, A, ⟨hx, hb, hml, hown, hT, hK, hSt, hA⟩, hr, hlk, hnm, rfl⟩ := hL
  intro H locs ls ad a1 a2 a3 hP hD hS hok hlo
  have kk := k H locs ls ad a1 a2 a3 hP hD hS hok hlo
  simp only [List.map_cons, xt] at kk ⊢
  exact lv_lload_n hx hb hd rfl (hlo.2.2 _ _ hl) kk

theorem r_aload (hL : Lg own nm cc nL R ret mc ms K X) {i : Nat} {x : Nat} (hd : decode cc pc = .ok (.aload i, 2)) (hl : lo[i]? = some (some (xR x))) (k : X cu su w μ (pc + 2) lo (xR x :: st)) : X cu su w μ pc lo st := by
  obtain ⟨p, l, e, s, m, args, below, meth, c, g, w0, ad0, A, ⟨hx, hb, hml, hown, hT, hK, hSt, hA⟩, hr, hlk, hnm, rfl⟩ := hL
  intro H locs ls ad a1 a2 a3 hP hD hS hok hlo
  have kk := k H locs ls ad a1 a2 a3 hP hD hS hok hlo
  simp only [List.map_cons, xt] at kk ⊢
  exact lv_aload hx hb hd (hlo.2.2 _ _ hl) kk

theorem r_aload_n (hL : Lg own nm cc nL R ret mc ms K X) {j : Fin 4} {x : Nat} (hd : decode cc pc = .ok (.aload_n j, 1)) (hl : lo[(j : Nat)]? = some (some (xR x))) (k : X cu su w μ (pc + 1) lo (xR x :: st)) : X cu su w μ pc lo st := by
  obtain ⟨p, l, e, s, m, args, below, meth, c, g, w0, ad0, A, ⟨hx, hb, hml, hown, hT, hK, hSt, hA⟩, hr, hlk, hnm, rfl⟩ := hL
  intro H locs ls ad a1 a2 a3 hP hD hS hok hlo
  have kk := k H locs ls ad a1 a2 a3 hP hD hS hok hlo
  simp only [List.map_cons, xt] at kk ⊢
  exact lv_aload_n hx hb hd rfl (hlo.2.2 _ _ hl) kk

theorem r_aAload (hL : Lg own nm cc nL R ret mc ms K X) {i : Nat} {x : Nat} (hd : decode cc pc = .ok (.aload i, 2)) (hl : lo[i]? = some (some (xA x))) (k : X cu su w μ (pc + 2) lo (xA x :: st)) : X cu su w μ pc lo st := by
  obtain ⟨p, l, e, s, m, args, below, meth, c, g, w0, ad0, A, ⟨hx, hb, hml, hown, hT, hK, hSt, hA⟩, hr, hlk, hnm, rfl⟩ := hL
  intro H locs ls ad a1 a2 a3 hP hD hS hok hlo
  have kk := k H locs ls ad a1 a2 a3 hP hD hS hok hlo
  simp only [List.map_cons, xt] at kk ⊢
  exact lv_aload hx hb hd (hlo.2.2 _ _ hl) kk

theorem r_aAload_n (hL : Lg own nm cc nL R ret mc ms K X) {j : Fin 4} {x : Nat} (hd : decode cc pc = .ok (.aload_n j, 1)) (hl : lo[(j : Nat)]? = some (some (xA x))) (k : X cu su w μ (pc + 1) lo (xA x :: st)) : X cu su w μ pc lo st := by
  obtain ⟨p, l, e, s, m, args, below, meth, c, g, w0, ad0, A, ⟨hx, hb, hml, hown, hT, hK, hSt, hA⟩, hr, hlk, hnm, rfl⟩ := hL
  intro H locs ls ad a1 a2 a3 hP hD hS hok hlo
  have kk := k H locs ls ad a1 a2 a3 hP hD hS hok hlo
  simp only [List.map_cons, xt] at kk ⊢
  exact lv_aload_n hx hb hd rfl (hlo.2.2 _ _ hl) kk

theorem r_istore (hL : Lg own nm cc nL R ret mc ms K X) {lo' : xLoc} {i : Nat} {x : Int} (hd : decode cc pc = .ok (.istore i, 2)) (hn : i < nL) (hl : xs1 lo i (xI x) = lo') (k : X cu su w μ (pc + 2) lo' st) : X cu su w μ pc lo (xI x :: st) := by
  obtain ⟨p, l, e, s, m, args, below, meth, c, g, w0, ad0, A, ⟨hx, hb, hml, hown, hT, hK, hSt, hA⟩, hr, hlk, hnm, rfl⟩ := hL
  intro H locs ls ad a1 a2 a3 hP hD hS hok hlo
  subst hl
  simp only [List.map_cons, xt]
  exact lv_istore hx hb hd hlo.has hn rfl (fun ls2 h2 => k H locs ls2 ad a1 a2 a3 hP hD hS hok (xLo.of1 (v := xI x) h2))

theorem r_istore_n (hL : Lg own nm cc nL R ret mc ms K X) {lo' : xLoc} {j : Fin 4} {x : Int} (hd : decode cc pc = .ok (.istore_n j, 1)) (hn : (j : Nat) < nL) (hl : xs1 lo (j : Nat) (xI x) = lo') (k : X cu su w μ (pc + 1) lo' st) : X cu su w μ pc lo (xI x :: st) := by
  obtain ⟨p, l, e, s, m, args, below, meth, c, g, w0, ad0, A, ⟨hx, hb, hml, hown, hT, hK, hSt, hA⟩, hr, hlk, hnm, rfl⟩ := hL
  intro H locs ls ad a1 a2 a3 hP hD hS hok hlo
  subst hl
  simp only [List.map_cons, xt]
  exact lv_istore_n hx hb hd rfl hlo.has hn rfl (fun ls2 h2 => k H locs ls2 ad a1 a2 a3 hP hD hS hok (xLo.of1 (v := xI x) h2))

theorem r_lstore (hL : Lg own nm cc nL R ret mc ms K X) {lo' : xLoc} {i : Nat} {x : Int} (hd : decode cc pc = .ok (.lstore i, 2)) (hn : i + 1 < nL) (hl : xs2 lo i (xL x) = lo') (k : X cu su w μ (pc + 2) lo' st) : X cu su w μ pc lo (xL x :: st) := by
  obtain ⟨p, l, e, s, m, args, below, meth, c, g, w0, ad0, A, ⟨hx, hb, hml, hown, hT, hK, hSt, hA⟩, hr, hlk, hnm, rfl⟩ := hL
  intro H locs ls ad a1 a2 a3 hP hD hS hok hlo
  subst hl
  simp only [List.map_cons, xt]
  exact lv_lstore hx hb hd hlo.has hn rfl (fun ls2 h2 => k H locs ls2 ad a1 a2 a3 hP hD hS hok (xLo.of2 (v := xL x) h2))

theorem r_lstore_n (hL : Lg own nm cc nL R ret mc ms K X) {lo' : xLoc} {j : Fin 4} {x : Int} (hd : decode cc pc = .ok (.lstore_n j, 1)) (hn : (j : Nat) + 1 < nL) (hl : xs2 lo (j : Nat) (xL x) = lo') (k : X cu su w μ (pc + 1) lo' st) : X cu su w μ pc lo (xL x :: st) := by
  obtain ⟨p, l, e, s, m, args, below, meth, c, g, w0, ad0, A, ⟨hx, hb, hml, hown, hT, hK, hSt, hA⟩, hr, hlk, hnm, rfl⟩ := hL
  intro H locs ls ad a1 a2 a3 hP hD hS hok hlo
  subst hl
  simp only [List.map_cons, xt]
  exact lv_lstore_n hx hb hd rfl hlo.has hn rfl (fun ls2 h2 => k H locs ls2 ad a1 a2 a3 hP hD hS hok (xLo.of2 (v := xL x) h2))

theorem r_astore (hL : Lg own nm cc nL R ret mc ms K X) {lo' : xLoc} {i : Nat} {x : Nat} (hd : decode cc pc = .ok (.astore i, 2)) (hn : i < nL) (hl : xs1 lo i (xR x) = lo') (k : X cu su w μ (pc + 2) lo' st) : X cu su w μ pc lo (xR x :: st) := by
  obtain ⟨p, l, e, s, m, args, below, meth, c, g, w0, ad0, A, ⟨hx, hb, hml, hown, hT, hK, hSt, hA⟩, hr, hlk, hnm, rfl⟩ := hL
  intro H locs ls ad a1 a2 a3 hP hD hS hok hlo
  subst hl
  simp only [List.map_cons, xt]
  exact lv_astore hx hb hd hlo.has hn rfl (fun ls2 h2 => k H locs ls2 ad a1 a2 a3 hP hD hS hok (xLo.of1 (v := xR x) h2))

theorem r_astore_n (hL : Lg own nm cc nL R ret mc ms K X) {lo' : xLoc} {j : Fin 4} {x : Nat} (hd : decode cc pc = .ok (.astore_n j, 1)) (hn : (j : Nat) < nL) (hl : xs1 lo (j : Nat) (xR x) = lo') (k : X cu su w μ (pc + 1) lo' st) : X cu su w μ pc lo (xR x :: st) := by
  obtain ⟨p, l, e, s, m, args, below, meth, c, g, w0, ad0, A, ⟨hx, hb, hml, hown, hT, hK, hSt, hA⟩, hr, hlk, hnm, rfl⟩ := hL
  intro H locs ls ad a1 a2 a3 hP hD hS hok hlo
  subst hl
  simp only [List.map_cons, xt]
  exact lv_astore_n hx hb hd rfl hlo.has hn rfl (fun ls2 h2 => k H locs ls2 ad a1 a2 a3 hP hD hS hok (xLo.of1 (v := xR x) h2))

theorem r_iinc (hL : Lg own nm cc nL R ret mc ms K X) {lo' : xLoc} {i : Nat} {n x : Int} (hd : decode cc pc = .ok (.iinc i n, 3)) (hn : i < nL) (hi : lo[i]? = some (some (xI x))) (hl : xs1 lo i (xI (x + n)) = lo') (k : X cu su w μ (pc + 3) lo' st) : X cu su w μ pc lo st := by
  obtain ⟨p, l, e, s, m, args, below, meth, c, g, w0, ad0, A, ⟨hx, hb, hml, hown, hT, hK, hSt, hA⟩, hr, hlk, hnm, rfl⟩ := hL
  intro H locs ls ad a1 a2 a3 hP hD hS hok hlo
  subst hl
  obtain ⟨q, hq⟩ := List.getElem?_of_mem (xll_mem (ad := ad) hi)
  exact lv_iinc (v := Int32.ofInt (x + n)) hx hb hd hlo.has hq (by rw [Int32.ofInt_add]) hn rfl (fun ls2 h2 => k H locs ls2 ad a1 a2 a3 hP hD hS hok (xLo.of1 (v := xI (x + n)) h2))

theorem r_pop (hL : Lg own nm cc nL R ret mc ms K X) {v : xV} (hd : decode cc pc = .ok (.pop, 1)) (hv : xlg (some (some v)) = false) (k : X cu su w μ (pc + 1) lo st) : X cu su w μ pc lo (v :: st) := by
  obtain ⟨p, l, e, s, m, args, below, meth, c, g, w0, ad0, A, ⟨hx, hb, hml, hown, hT, hK, hSt, hA⟩, hr, hlk, hnm, rfl⟩ := hL
  intro H locs ls ad a1 a2 a3 hP hD hS hok hlo
  have kk := k H locs ls ad a1 a2 a3 hP hD hS hok hlo
  simp only [List.map_cons]
  exact lv_pop hx hb hd ((lv_cat _).resolve_right (xlg_cat hv)) kk

theorem r_dup (hL : Lg own nm cc nL R ret mc ms K X) {v : xV} (hd : decode cc pc = .ok (.dup, 1)) (hv : xlg (some (some v)) = false) (k : X cu su w μ (pc + 1) lo (v :: v :: st)) : X cu su w μ pc lo (v :: st) := by
  obtain ⟨p, l, e, s, m, args, below, meth, c, g, w0, ad0, A, ⟨hx, hb, hml, hown, hT, hK, hSt, hA⟩, hr, hlk, hnm, rfl⟩ := hL
  intro H locs ls ad a1 a2 a3 hP hD hS hok hlo
  have kk := k H locs ls ad a1 a2 a3 hP hD hS hok hlo
  simp only [List.map_cons] at kk ⊢
  exact lv_dup hx hb hd ((lv_cat _).resolve_right (xlg_cat hv)) kk

theorem r_dup2 (hL : Lg own nm cc nL R ret mc ms K X) {v u : xV} (hd : decode cc pc = .ok (.dup2, 1)) (hv : xlg (some (some v)) = false) (hu : xlg (some (some u)) = false) (k : X cu su w μ (pc + 1) lo (v :: u :: v :: u :: st)) : X cu su w μ pc lo (v :: u :: st) := by
  obtain ⟨p, l, e, s, m, args, below, meth, c, g, w0, ad0, A, ⟨hx, hb, hml, hown, hT, hK, hSt, hA⟩, hr, hlk, hnm, rfl⟩ := hL
  intro H locs ls ad a1 a2 a3 hP hD hS hok hlo
  have kk := k H locs ls ad a1 a2 a3 hP hD hS hok hlo
  simp only [List.map_cons] at kk ⊢
  exact lv_dup2_11 hx hb hd ((lv_cat _).resolve_right (xlg_cat hv)) ((lv_cat _).resolve_right (xlg_cat hu)) kk

theorem r_goto (hL : Lg own nm cc nL R ret mc ms K X) {off : Int} {tgt : Nat} (hd : decode cc pc = .ok (.goto off, 3)) (ht : (pc : Int) + off = (tgt : Int)) (k : X cu su w μ tgt lo st) : X cu su w μ pc lo st := by
  obtain ⟨p, l, e, s, m, args, below, meth, c, g, w0, ad0, A, ⟨hx, hb, hml, hown, hT, hK, hSt, hA⟩, hr, hlk, hnm, rfl⟩ := hL
  intro H locs ls ad a1 a2 a3 hP hD hS hok hlo
  have kk := k H locs ls ad a1 a2 a3 hP hD hS hok hlo
  exact lv_goto hx hb hd ht kk

theorem r_icmp_eq (hL : Lg own nm cc nL R ret mc ms K X) {x y : Int} {off : Int} {tgt : Nat} (hd : decode cc pc = .ok (.if_icmp .eq off, 3)) (ht : (pc : Int) + off = (tgt : Int)) (hx0 : xrg x) (hy0 : xrg y) (kt : x = y → X cu su w μ tgt lo st) (kf : ¬ x = y → X cu su w μ (pc + 3) lo st) : X cu su w μ pc lo (xI y :: xI x :: st) := by
  obtain ⟨p, l, e, s, m, args, below, meth, c, g, w0, ad0, A, ⟨hx, hb, hml, hown, hT, hK, hSt, hA⟩, hr, hlk, hnm, rfl⟩ := hL
  intro H locs ls ad a1 a2 a3 hP hD hS hok hlo
  simp only [List.map_cons, xt]
  exact lv_icmp_eq hx hb hd ht (fun q => kt ((xn_eq hx0 hy0).mp q) H locs ls ad a1 a2 a3 hP hD hS hok hlo) (fun q => kf (fun z => q ((xn_eq hx0 hy0).mpr z)) H locs ls ad a1 a2 a3 hP hD hS hok hlo)

theorem r_if_eq (hL : Lg own nm cc nL R ret mc ms K X) {x : Int} {off : Int} {tgt : Nat} (hd : decode cc pc = .ok (.ifCond .eq off, 3)) (ht : (pc : Int) + off = (tgt : Int)) (hx0 : xrg x) (kt : x = 0 → X cu su w μ tgt lo st) (kf : ¬ x = 0 → X cu su w μ (pc + 3) lo st) : X cu su w μ pc lo (xI x :: st) := by
  obtain ⟨p, l, e, s, m, args, below, meth, c, g, w0, ad0, A, ⟨hx, hb, hml, hown, hT, hK, hSt, hA⟩, hr, hlk, hnm, rfl⟩ := hL
  intro H locs ls ad a1 a2 a3 hP hD hS hok hlo
  simp only [List.map_cons, xt]
  exact lv_if_eq hx hb hd ht (fun q => kt ((xn_eq hx0 (by omega : xrg 0)).mp q) H locs ls ad a1 a2 a3 hP hD hS hok hlo) (fun q => kf (fun z => q ((xn_eq hx0 (by omega : xrg 0)).mpr z)) H locs ls ad a1 a2 a3 hP hD hS hok hlo)

theorem r_icmp_ne (hL : Lg own nm cc nL R ret mc ms K X) {x y : Int} {off : Int} {tgt : Nat} (hd : decode cc pc = .ok (.if_icmp .ne off, 3)) (ht : (pc : Int) + off = (tgt : Int)) (hx0 : xrg x) (hy0 : xrg y) (kt : ¬ x = y → X cu su w μ tgt lo st) (kf : x = y → X cu su w μ (pc + 3) lo st) : X cu su w μ pc lo (xI y :: xI x :: st) := by
  obtain ⟨p, l, e, s, m, args, below, meth, c, g, w0, ad0, A, ⟨hx, hb, hml, hown, hT, hK, hSt, hA⟩, hr, hlk, hnm, rfl⟩ := hL
  intro H locs ls ad a1 a2 a3 hP hD hS hok hlo
  simp only [List.map_cons, xt]
  exact lv_icmp_ne hx hb hd ht (fun q => kt (fun z => q ((xn_eq hx0 hy0).mpr z)) H locs ls ad a1 a2 a3 hP hD hS hok hlo) (fun q => kf ((xn_eq hx0 hy0).mp q) H locs ls ad a1 a2 a3 hP hD hS hok hlo)

theorem r_if_ne (hL : Lg own nm cc nL R ret mc ms K X) {x : Int} {off : Int} {tgt : Nat} (hd : decode cc pc = .ok (.ifCond .ne off, 3)) (ht : (pc : Int) + off = (tgt : Int)) (hx0 : xrg x) (kt : ¬ x = 0 → X cu su w μ tgt lo st) (kf : x = 0 → X cu su w μ (pc + 3) lo st) : X cu su w μ pc lo (xI x :: st) := by
  obtain ⟨p, l, e, s, m, args, below, meth, c, g, w0, ad0, A, ⟨hx, hb, hml, hown, hT, hK, hSt, hA⟩, hr, hlk, hnm, rfl⟩ := hL
  intro H locs ls ad a1 a2 a3 hP hD hS hok hlo
  simp only [List.map_cons, xt]
  exact lv_if_ne hx hb hd ht (fun q => kt (fun z => q ((xn_eq hx0 (by omega : xrg 0)).mpr z)) H locs ls ad a1 a2 a3 hP hD hS hok hlo) (fun q => kf ((xn_eq hx0 (by omega : xrg 0)).mp q) H locs ls ad a1 a2 a3 hP hD hS hok hlo)

theorem r_icmp_lt (hL : Lg own nm cc nL R ret mc ms K X) {x y : Int} {off : Int} {tgt : Nat} (hd : decode cc pc = .ok (.if_icmp .lt off, 3)) (ht : (pc : Int) + off = (tgt : Int)) (hx0 : xrg x) (hy0 : xrg y) (kt : x < y → X cu su w μ tgt lo st) (kf : ¬ x < y → X cu su w μ (pc + 3) lo st) : X cu su w μ pc lo (xI y :: xI x :: st) := by
  obtain ⟨p, l, e, s, m, args, below, meth, c, g, w0, ad0, A, ⟨hx, hb, hml, hown, hT, hK, hSt, hA⟩, hr, hlk, hnm, rfl⟩ := hL
  intro H locs ls ad a1 a2 a3 hP hD hS hok hlo
  simp only [List.map_cons, xt]
  exact lv_icmp_lt hx hb hd ht (fun q => kt ((xn_lt hx0 hy0).mp q) H locs ls ad a1 a2 a3 hP hD hS hok hlo) (fun q => kf (fun z => q ((xn_lt hx0 hy0).mpr z)) H locs ls ad a1 a2 a3 hP hD hS hok hlo)

theorem r_if_lt (hL : Lg own nm cc nL R ret mc ms K X) {x : Int} {off : Int} {tgt : Nat} (hd : decode cc pc = .ok (.ifCond .lt off, 3)) (ht : (pc : Int) + off = (tgt : Int)) (hx0 : xrg x) (kt : x < 0 → X cu su w μ tgt lo st) (kf : ¬ x < 0 → X cu su w μ (pc + 3) lo st) : X cu su w μ pc lo (xI x :: st) := by
  obtain ⟨p, l, e, s, m, args, below, meth, c, g, w0, ad0, A, ⟨hx, hb, hml, hown, hT, hK, hSt, hA⟩, hr, hlk, hnm, rfl⟩ := hL
  intro H locs ls ad a1 a2 a3 hP hD hS hok hlo
  simp only [List.map_cons, xt]
  exact lv_if_lt hx hb hd ht (fun q => kt ((xn_lt hx0 (by omega : xrg 0)).mp q) H locs ls ad a1 a2 a3 hP hD hS hok hlo) (fun q => kf (fun z => q ((xn_lt hx0 (by omega : xrg 0)).mpr z)) H locs ls ad a1 a2 a3 hP hD hS hok hlo)

theorem r_icmp_ge (hL : Lg own nm cc nL R ret mc ms K X) {x y : Int} {off : Int} {tgt : Nat} (hd : decode cc pc = .ok (.if_icmp .ge off, 3)) (ht : (pc : Int) + off = (tgt : Int)) (hx0 : xrg x) (hy0 : xrg y) (kt : y ≤ x → X cu su w μ tgt lo st) (kf : ¬ y ≤ x → X cu su w μ (pc + 3) lo st) : X cu su w μ pc lo (xI y :: xI x :: st) := by
  obtain ⟨p, l, e, s, m, args, below, meth, c, g, w0, ad0, A, ⟨hx, hb, hml, hown, hT, hK, hSt, hA⟩, hr, hlk, hnm, rfl⟩ := hL
  intro H locs ls ad a1 a2 a3 hP hD hS hok hlo
  simp only [List.map_cons, xt]
  exact lv_icmp_ge hx hb hd ht (fun q => kt ((xn_le hy0 hx0).mp q) H locs ls ad a1 a2 a3 hP hD hS hok hlo) (fun q => kf (fun z => q ((xn_le hy0 hx0).mpr z)) H locs ls ad a1 a2 a3 hP hD hS hok hlo)

theorem r_if_ge (hL : Lg own nm cc nL R ret mc ms K X) {x : Int} {off : Int} {tgt : Nat} (hd : decode cc pc = .ok (.ifCond .ge off, 3)) (ht : (pc : Int) + off = (tgt : Int)) (hx0 : xrg x) (kt : 0 ≤ x → X cu su w μ tgt lo st) (kf : ¬ 0 ≤ x → X cu su w μ (pc + 3) lo st) : X cu su w μ pc lo (xI x :: st) := by
  obtain ⟨p, l, e, s, m, args, below, meth, c, g, w0, ad0, A, ⟨hx, hb, hml, hown, hT, hK, hSt, hA⟩, hr, hlk, hnm, rfl⟩ := hL
  intro H locs ls ad a1 a2 a3 hP hD hS hok hlo
  simp only [List.map_cons, xt]
  exact lv_if_ge hx hb hd ht (fun q => kt ((xn_le (by omega : xrg 0) hx0).mp q) H locs ls ad a1 a2 a3 hP hD hS hok hlo) (fun q => kf (fun z => q ((xn_le (by omega : xrg 0) hx0).mpr z)) H locs ls ad a1 a2 a3 hP hD hS hok hlo)

theorem r_icmp_gt (hL : Lg own nm cc nL R ret mc ms K X) {x y : Int} {off : Int} {tgt : Nat} (hd : decode cc pc = .ok (.if_icmp .gt off, 3)) (ht : (pc : Int) + off = (tgt : Int)) (hx0 : xrg x) (hy0 : xrg y) (kt : y < x → X cu su w μ tgt lo st) (kf : ¬ y < x → X cu su w μ (pc + 3) lo st) : X cu su w μ pc lo (xI y :: xI x :: st) := by
  obtain ⟨p, l, e, s, m, args, below, meth, c, g, w0, ad0, A, ⟨hx, hb, hml, hown, hT, hK, hSt, hA⟩, hr, hlk, hnm, rfl⟩ := hL
  intro H locs ls ad a1 a2 a3 hP hD hS hok hlo
  simp only [List.map_cons, xt]
  exact lv_icmp_gt hx hb hd ht (fun q => kt ((xn_lt hy0 hx0).mp q) H locs ls ad a1 a2 a3 hP hD hS hok hlo) (fun q => kf (fun z => q ((xn_lt hy0 hx0).mpr z)) H locs ls ad a1 a2 a3 hP hD hS hok hlo)

theorem r_if_gt (hL : Lg own nm cc nL R ret mc ms K X) {x : Int} {off : Int} {tgt : Nat} (hd : decode cc pc = .ok (.ifCond .gt off, 3)) (ht : (pc : Int) + off = (tgt : Int)) (hx0 : xrg x) (kt : 0 < x → X cu su w μ tgt lo st) (kf : ¬ 0 < x → X cu su w μ (pc + 3) lo st) : X cu su w μ pc lo (xI x :: st) := by
  obtain ⟨p, l, e, s, m, args, below, meth, c, g, w0, ad0, A, ⟨hx, hb, hml, hown, hT, hK, hSt, hA⟩, hr, hlk, hnm, rfl⟩ := hL
  intro H locs ls ad a1 a2 a3 hP hD hS hok hlo
  simp only [List.map_cons, xt]
  exact lv_if_gt hx hb hd ht (fun q => kt ((xn_lt (by omega : xrg 0) hx0).mp q) H locs ls ad a1 a2 a3 hP hD hS hok hlo) (fun q => kf (fun z => q ((xn_lt (by omega : xrg 0) hx0).mpr z)) H locs ls ad a1 a2 a3 hP hD hS hok hlo)

theorem r_icmp_le (hL : Lg own nm cc nL R ret mc ms K X) {x y : Int} {off : Int} {tgt : Nat} (hd : decode cc pc = .ok (.if_icmp .le off, 3)) (ht : (pc : Int) + off = (tgt : Int)) (hx0 : xrg x) (hy0 : xrg y) (kt : x ≤ y → X cu su w μ tgt lo st) (kf : ¬ x ≤ y → X cu su w μ (pc + 3) lo st) : X cu su w μ pc lo (xI y :: xI x :: st) := by
  obtain ⟨p, l, e, s, m, args, below, meth, c, g, w0, ad0, A, ⟨hx, hb, hml, hown, hT, hK, hSt, hA⟩, hr, hlk, hnm, rfl⟩ := hL
  intro H locs ls ad a1 a2 a3 hP hD hS hok hlo
  simp only [List.map_cons, xt]
  exact lv_icmp_le hx hb hd ht (fun q => kt ((xn_le hx0 hy0).mp q) H locs ls ad a1 a2 a3 hP hD hS hok hlo) (fun q => kf (fun z => q ((xn_le hx0 hy0).mpr z)) H locs ls ad a1 a2 a3 hP hD hS hok hlo)

theorem r_if_le (hL : Lg own nm cc nL R ret mc ms K X) {x : Int} {off : Int} {tgt : Nat} (hd : decode cc pc = .ok (.ifCond .le off, 3)) (ht : (pc : Int) + off = (tgt : Int)) (hx0 : xrg x) (kt : x ≤ 0 → X cu su w μ tgt lo st) (kf : ¬ x ≤ 0 → X cu su w μ (pc + 3) lo st) : X cu su w μ pc lo (xI x :: st) := by
  obtain ⟨p, l, e, s, m, args, below, meth, c, g, w0, ad0, A, ⟨hx, hb, hml, hown, hT, hK, hSt, hA⟩, hr, hlk, hnm, rfl⟩ := hL
  intro H locs ls ad a1 a2 a3 hP hD hS hok hlo
  simp only [List.map_cons, xt]
  exact lv_if_le hx hb hd ht (fun q => kt ((xn_le hx0 (by omega : xrg 0)).mp q) H locs ls ad a1 a2 a3 hP hD hS hok hlo) (fun q => kf (fun z => q ((xn_le hx0 (by omega : xrg 0)).mpr z)) H locs ls ad a1 a2 a3 hP hD hS hok hlo)

theorem r_tableOut (hL : Lg own nm cc nL R ret mc ms K X) {dflt lo0 hi : Int} {offs : Array Int} {len tgt : Nat} {x : Int} (hd : decode cc pc = .ok (.tableswitch dflt lo0 hi offs, len)) (hx0 : xrg x) (h : x < lo0 ∨ hi < x) (ht : (pc : Int) + dflt = (tgt : Int)) (k : X cu su w μ tgt lo st) : X cu su w μ pc lo (xI x :: st) := by
  obtain ⟨p, l, e, s, m, args, below, meth, c, g, w0, ad0, A, ⟨hx, hb, hml, hown, hT, hK, hSt, hA⟩, hr, hlk, hnm, rfl⟩ := hL
  intro H locs ls ad a1 a2 a3 hP hD hS hok hlo
  have kk := k H locs ls ad a1 a2 a3 hP hD hS hok hlo
  simp only [List.map_cons, xt]
  exact lv_tableOut hx hb hd (by rw [xn_i hx0]; exact h) ht kk

theorem r_tableIn (hL : Lg own nm cc nL R ret mc ms K X) {dflt lo0 hi off : Int} {offs : Array Int} {len tgt : Nat} {x : Int} (v : Int) (hd : decode cc pc = .ok (.tableswitch dflt lo0 hi offs, len)) (hx0 : xrg x) (hv : x = v) (h1 : ¬ v < lo0) (h2 : ¬ hi < v) (ho : offs[(v - lo0).toNat]? = some off) (ht : (pc : Int) + off = (tgt : Int)) (k : X cu su w μ tgt lo st) : X cu su w μ pc lo (xI x :: st) := by
  obtain ⟨p, l, e, s, m, args, below, meth, c, g, w0, ad0, A, ⟨hx, hb, hml, hown, hT, hK, hSt, hA⟩, hr, hlk, hnm, rfl⟩ := hL
  intro H locs ls ad a1 a2 a3 hP hD hS hok hlo
  subst hv
  have kk := k H locs ls ad a1 a2 a3 hP hD hS hok hlo
  simp only [List.map_cons, xt]
  exact lv_tableIn hx hb hd (by rw [xn_i hx0]; exact h1) (by rw [xn_i hx0]; exact h2) (by rw [xn_i hx0]; exact ho) ht kk

theorem r_lookup (hL : Lg own nm cc nL R ret mc ms K X) {dflt off : Int} {ps : Array (Int × Int)} {len tgt : Nat} {x : Int} (hd : decode cc pc = .ok (.lookupswitch dflt ps, len)) (hx0 : xrg x) (hp : (ps.toList.zip (ps.toList.drop 1)).all (fun (a, next) => a.1 < next.1) = true) (ho : Op.lookupswitch.offset ps.toList dflt x = off) (ht : (pc : Int) + off = (tgt : Int)) (k : X cu su w μ tgt lo st) : X cu su w μ pc lo (xI x :: st) := by
  obtain ⟨p, l, e, s, m, args, below, meth, c, g, w0, ad0, A, ⟨hx, hb, hml, hown, hT, hK, hSt, hA⟩, hr, hlk, hnm, rfl⟩ := hL
  intro H locs ls ad a1 a2 a3 hP hD hS hok hlo
  have kk := k H locs ls ad a1 a2 a3 hP hD hS hok hlo
  simp only [List.map_cons, xt]
  exact lv_lookup hx hb hd hp (by rw [xn_i hx0]; exact ho) ht kk

theorem r_less (hL : Lg own nm cc nL R ret mc ms K X) {lo' : xLoc} (hl : ∀ (i : Nat) (v : xV), lo'[i]? = some (some v) → lo[i]? = some (some v)) (k : X cu su w μ pc lo' st) : X cu su w μ pc lo st := by
  obtain ⟨p, l, e, s, m, args, below, meth, c, g, w0, ad0, A, ⟨hx, hb, hml, hown, hT, hK, hSt, hA⟩, hr, hlk, hnm, rfl⟩ := hL
  intro H locs ls ad a1 a2 a3 hP hD hS hok hlo
  exact k H locs ls ad a1 a2 a3 hP hD hS hok (hlo.less hl)
theorem r_widen (hL : Lg own nm cc nL R ret mc ms K X) {cu' su' : Nat} (h1 : cu ≤ cu') (h2 : su ≤ su') (k : X cu' su' w μ pc lo st) : X cu su w μ pc lo st := by
  obtain ⟨p, l, e, s, m, args, below, meth, c, g, w0, ad0, A, ⟨hx, hb, hml, hown, hT, hK, hSt, hA⟩, hr, hlk, hnm, rfl⟩ := hL
  intro H locs ls ad a1 a2 a3 hP hD hS hok hlo
  exact W.widen h1 h2 (k H locs ls ad a1 a2 a3 hP hD hS hok hlo)
/-- what memory keeps -/
theorem r_ok (hL : Lg own nm cc nL R ret mc ms K X) (k : xok w μ → X cu su w μ pc lo st) : X cu su w μ pc lo st := by
  obtain ⟨p, l, e, s, m, args, below, meth, c, g, w0, ad0, A, ⟨hx, hb, hml, hown, hT, hK, hSt, hA⟩, hr, hlk, hnm, rfl⟩ := hL
  intro H locs ls ad a1 a2 a3 hP hD hS hok hlo
  exact k hok H locs ls ad a1 a2 a3 hP hD hS hok hlo
end
end
section
/-! ===== fields, arrays, statics ===== -/
def xkd : FieldType → Nat
  | .int => 0
  | .long => 1
  | .boolean => 3
  | _ => 2
/-- a class of ours: its number, name, fields -/
def xCl (ci : Nat) (C : String) (T : u_T) (N : Nat) (ty : Nat → FieldType) : Prop := vwCl[ci]? = some (C, T, N) ∧ (∀ w ∈ u_ws C T N, xWd w) ∧ (∀ k, k < N → parseFieldDescriptor (T k).2.2.1 = some (ty k)) ∧ (∀ a, a < N → ∀ b, b < N → a ≠ b → (T a).2.1 ≠ (T b).2.1) ∧ N = (xks ci).length ∧ (∀ k, k < N → (T k).1 = C) ∧ ∀ k, k < N → (xks ci).getD k 0 = xkd (ty k)
/-- a field's place in the pool -/
def xFl (own : String) (i : Nat) (C f d : String) : Prop := xWd (.fieldLink own i C f d) ∨ ∃ h, xWd (.fieldLinkNest own i C f d h)
theorem xfv_i {ad : Nat → Nat} {kd : Nat} {r x : Int} (h1 : kd ≠ 1) (h2 : kd ≠ 2) : xfv ad kd r x = .int (Int32.ofInt x) := by
  unfold xfv
  split
  · exact absurd rfl h1
  · exact absurd rfl h2
  · rfl
theorem xent_o {g : xG} {ad : Nat → Nat} {ci : Nat} {rf f : Int → Int} : xent g ad (0, ci) rf f = .inr (ci, xfs ad (xks ci) rf f) := rfl
section
variable {own nm : String} {cc : ByteArray} {nL : Nat} {R : Room} {ret : Option FieldType} {mc ms : Nat} {K : Option xV → xW → xM → Prop} {X : Nat → Nat → xW → xM → Nat → xLoc → List xV → Prop}
variable {cu su : Nat} {w : xW} {μ : xM} {pc : Nat} {lo : xLoc} {st : List xV} {ci N : Nat} {C : String} {T : u_T} {ty : Nat → FieldType}
theorem xw_o {g : xG} {ad : Nat → Nat} {k : Nat} (hk : k < w.1) (hs : w.2.1 k = (0, ci)) : (xw g w μ ad)[k]? = some (ad k, .inr (ci, xfs ad (xks ci) (w.2.2 k) (μ k))) := by
  rw [xw_get hk, hs]; rfl
theorem r_geti (hL : Lg own nm cc nL R ret mc ms K X) (hc : xCl ci C T N ty) {k i : Nat} (j : Nat) {j' : Int} (hj' : (j : Int) = j') (hk : k < w.1) (hs : w.2.1 k = (0, ci)) (hj : j < N) (hl : xFl own i C (T j).2.1 (T j).2.2.1) (h1 : (xks ci).getD j 0 ≠ 1) (h2 : (xks ci).getD j 0 ≠ 2) (hd : decode cc pc = .ok (.getfield i, 3)) (kk : xrg (μ k j') → X cu su w μ (pc + 3) lo (xI (μ k j') :: st)) : X cu su w μ pc lo (xR k :: st) := by
  subst hj'
  obtain ⟨p, l, e, s, m, args, below, meth, c, g, w0, ad0, A, ⟨hx, hb, hml, hown, hT, hK, hSt, hA⟩, hr, hlk, hnm, rfl⟩ := hL
  intro H locs ls ad a1 a2 a3 hP hD hS hok hlo
  have hrg : xrg (μ k j) := hok.1 k j hk (by rw [hs]; simpa [xsk] using h1)
  have kk := kk hrg H locs ls ad a1 a2 a3 hP hD hS hok hlo
  simp only [List.map_cons, xt] at kk ⊢
  have hlen : j < (xks ci).length := by rw [← hc.2.2.2.2.1]; exact hj
  have hv : (xfs ad (xks ci) (w.2.2 k) (μ k))[j]? = some (.int (Int32.ofInt (μ k j))) := by rw [xfs_get hlen, xfv_i h1 h2]
  rcases hl with hl | ⟨h, hl⟩
  · exact va_get hx hb (Ts := u_ws C T N) (fun w hw => hT w (hc.2.1 w hw) _) (fun _ h => h) hown hK hP k (xw_o hk hs) hc.1 j hj (hT _ hl _) (fun x hx => (hc.2.2.2.2.2.1 j hj) ▸ hx) hv hd kk
  · exact va_getN hx hb (Ts := u_ws C T N) (fun w hw => hT w (hc.2.1 w hw) _) (fun _ h => h) hown hK hP k (xw_o hk hs) hc.1 j hj (hT _ hl _) (fun x hx => (hc.2.2.2.2.2.1 j hj) ▸ hx) hv hd kk
theorem r_getl (hL : Lg own nm cc nL R ret mc ms K X) (hc : xCl ci C T N ty) {k i : Nat} (j : Nat) {j' : Int} (hj' : (j : Int) = j') (hk : k < w.1) (hs : w.2.1 k = (0, ci)) (hj : j < N) (hl : xFl own i C (T j).2.1 (T j).2.2.1) (h1 : (xks ci).getD j 0 = 1) (hd : decode cc pc = .ok (.getfield i, 3)) (kk : xrl (μ k j') → X cu su w μ (pc + 3) lo (xL (μ k j') :: st)) : X cu su w μ pc lo (xR k :: st) := by
  subst hj'
  obtain ⟨p, l, e, s, m, args, below, meth, c, g, w0, ad0, A, ⟨hx, hb, hml, hown, hT, hK, hSt, hA⟩, hr, hlk, hnm, rfl⟩ := hL
  intro H locs ls ad a1 a2 a3 hP hD hS hok hlo
  have hrg : xrl (μ k j) := hok.2.1 k j hk (by rw [hs]; simpa [xsk] using h1)
  have kk := kk hrg H locs ls ad a1 a2 a3 hP hD hS hok hlo
  simp only [List.map_cons, xt] at kk ⊢
  have hlen : j < (xks ci).length := by rw [← hc.2.2.2.2.1]; exact hj
  have hv : (xfs ad (xks ci) (w.2.2 k) (μ k))[j]? = some (.long (Int64.ofInt (μ k j))) := by rw [xfs_get hlen, h1]; rfl
  rcases hl with hl | ⟨h, hl⟩
  · exact va_get hx hb (Ts := u_ws C T N) (fun w hw => hT w (hc.2.1 w hw) _) (fun _ h => h) hown hK hP k (xw_o hk hs) hc.1 j hj (hT _ hl _) (fun x hx => (hc.2.2.2.2.2.1 j hj) ▸ hx) hv hd kk
  · exact va_getN hx hb (Ts := u_ws C T N) (fun w hw => hT w (hc.2.1 w hw) _) (fun _ h => h) hown hK hP k (xw_o hk hs) hc.1 j hj (hT _ hl _) (fun x hx => (hc.2.2.2.2.2.1 j hj) ▸ hx) hv hd kk
theorem r_getr (hL : Lg own nm cc nL R ret mc ms K X) (hc : xCl ci C T N ty) {k i : Nat} (j : Nat) {q : Nat} (hk : k < w.1) (hs : w.2.1 k = (0, ci)) (hj : j < N) (hl : xFl own i C (T j).2.1 (T j).2.2.1) (h1 : (xks ci).getD j 0 = 2) (hq : w.2.2 k j = (q : Int)) (hd : decode cc pc = .ok (.getfield i, 3)) (kk : X cu su w μ (pc + 3) lo (xR q :: st)) : X cu su w μ pc lo (xR k :: st) := by
  obtain ⟨p, l, e, s, m, args, below, meth, c, g, w0, ad0, A, ⟨hx, hb, hml, hown, hT, hK, hSt, hA⟩, hr, hlk, hnm, rfl⟩ := hL
  intro H locs ls ad a1 a2 a3 hP hD hS hok hlo
  have kk := kk H locs ls ad a1 a2 a3 hP hD hS hok hlo
  simp only [List.map_cons, xt] at kk ⊢
  have hlen : j < (xks ci).length := by rw [← hc.2.2.2.2.1]; exact hj
  have hv : (xfs ad (xks ci) (w.2.2 k) (μ k))[j]? = some (.ref (ad q)) := by
    rw [xfs_get hlen, h1]
    show some (if w.2.2 k j < 0 then Value.null else .ref (ad (w.2.2 k j).toNat)) = _
    rw [hq, if_neg (by omega)]
    rfl
  rcases hl with hl | ⟨h, hl⟩
  · exact va_get hx hb (Ts := u_ws C T N) (fun w hw => hT w (hc.2.1 w hw) _) (fun _ h => h) hown hK hP k (xw_o hk hs) hc.1 j hj (hT _ hl _) (fun x hx => (hc.2.2.2.2.2.1 j hj) ▸ hx) hv hd kk
  · exact va_getN hx hb (Ts := u_ws C T N) (fun w hw => hT w (hc.2.1 w hw) _) (fun _ h => h) hown hK hP k (xw_o hk hs) hc.1 j hj (hT _ hl _) (fun x hx => (hc.2.2.2.2.2.1 j hj) ▸ hx) hv hd kk
/-- a put of an int, boolean or long -/
theorem r_put (hL : Lg own nm cc nL R ret mc ms K X) (hc : xCl ci C T N ty) {k i : Nat} (j : Nat) {j' x : Int} {v : xV} (hj' : (j : Int) = j') (hk : k < w.1) (hs : w.2.1 k = (0, ci)) (hj : j < N) (hl : xFl own i C (T j).2.1 (T j).2.2.1) (hf : (T j).2.2.2 = false)
    (hv : ∀ ad r, xt ad v = xfv ad ((xks ci).getD j 0) r x) (hn : ∀ ad, narrow (ty j) (xt ad v) = xt ad v) (hfit : ∀ ad, fits (ty j) (xt ad v) = true) (hrg : if (xks ci).getD j 0 = 1 then xrl x else xrg x)
    (hd : decode cc pc = .ok (.putfield i, 3)) (kk : ∀ μ', μ' = xup μ k j' x → X cu su w μ' (pc + 3) lo st) : X cu su w μ pc lo (v :: xR k :: st) := by
  subst hj'
  obtain ⟨p, l, e, s, m, args, below, meth, c, g, w0, ad0, A, ⟨hx, hb, hml, hown, hT, hK, hSt, hA⟩, hr, hlk, hnm, rfl⟩ := hL
  intro H locs ls ad a1 a2 a3 hP hD hS hok hlo
  have hlen : j < (xks ci).length := by rw [← hc.2.2.2.2.1]; exact hj
  have hset : (xw g w μ ad).set k (ad k, .inr (ci, (xfs ad (xks ci) (w.2.2 k) (μ k)).set j (xt ad v))) = xw g w (xup μ k j x) ad := by
    rw [hv ad (w.2.2 k j), xfs_set hlen, xup_put, ← xw_set hk, hs, xent_o]
  have hok' : xok w (xup μ k j x) := by
    by_cases h1 : (xks ci).getD j 0 = 1
    · rw [if_pos h1] at hrg
      exact hok.upl (by rw [hs]; simpa [xsk] using h1) hrg
    · rw [if_neg h1] at hrg
      exact hok.upi (by rw [hs]; simpa [xsk] using h1) hrg
  simp only [List.map_cons]
  rw [show xt ad (xR k) = Value.ref (ad k) from rfl]
  rcases hl with hl | ⟨h, hl⟩
  · refine va_put hx hb (Ts := u_ws C T N) (fun w hw => hT w (hc.2.1 w hw) _) (fun _ h => h) ty hc.2.2.1 hc.2.2.2.1 hown hK hP hD hS k (xw_o hk hs) hc.1 j hj (hT _ hl _) (fun x hx => (hc.2.2.2.2.2.1 j hj) ▸ hx) hf (hc.2.2.1 j hj) (hn ad) (hfit ad) (by rw [xfs_len]; exact hlen) hd (fun H1 locs1 hP1 hD1 hS1 => ?_)
    rw [hset] at hP1 hD1
    exact kk _ rfl H1 locs1 ls ad a1 a2 a3 hP1 hD1 hS1 hok' hlo
  · refine va_putN hx hb (Ts := u_ws C T N) (fun w hw => hT w (hc.2.1 w hw) _) (fun _ h => h) ty hc.2.2.1 hc.2.2.2.1 hown hK hP hD hS k (xw_o hk hs) hc.1 j hj (hT _ hl _) (fun x hx => (hc.2.2.2.2.2.1 j hj) ▸ hx) hf (hc.2.2.1 j hj) (hn ad) (hfit ad) (by rw [xfs_len]; exact hlen) hd (fun H1 locs1 hP1 hD1 hS1 => ?_)
    rw [hset] at hP1 hD1
    exact kk _ rfl H1 locs1 ls ad a1 a2 a3 hP1 hD1 hS1 hok' hlo
theorem r_puti (hL : Lg own nm cc nL R ret mc ms K X) (hc : xCl ci C T N ty) {k i : Nat} (j : Nat) {j' x : Int} (hj' : (j : Int) = j') (hk : k < w.1) (hs : w.2.1 k = (0, ci)) (hj : j < N) (hl : xFl own i C (T j).2.1 (T j).2.2.1) (hf : (T j).2.2.2 = false) (h0 : ty j = .int) (hrg : xrg x)
    (hd : decode cc pc = .ok (.putfield i, 3)) (kk : ∀ μ', μ' = xup μ k j' x → X cu su w μ' (pc + 3) lo st) : X cu su w μ pc lo (xI x :: xR k :: st) := by
  have h1 : (xks ci).getD j 0 = 0 := by rw [hc.2.2.2.2.2.2 j hj, h0]; rfl
  exact r_put hL hc j hj' hk hs hj hl hf (fun ad r => by rw [h1]; rfl) (fun ad => by rw [h0]; rfl) (fun ad => by rw [h0]; rfl) (by rw [h1, if_neg (by decide)]; exact hrg) hd kk
theorem r_putz (hL : Lg own nm cc nL R ret mc ms K X) (hc : xCl ci C T N ty) {k i : Nat} (j : Nat) {j' x : Int} (hj' : (j : Int) = j') (hk : k < w.1) (hs : w.2.1 k = (0, ci)) (hj : j < N) (hl : xFl own i C (T j).2.1 (T j).2.2.1) (hf : (T j).2.2.2 = false) (h0 : ty j = .boolean) (hrg : x = 0 ∨ x = 1)
    (hd : decode cc pc = .ok (.putfield i, 3)) (kk : ∀ μ', μ' = xup μ k j' x → X cu su w μ' (pc + 3) lo st) : X cu su w μ pc lo (xI x :: xR k :: st) := by
  have h1 : (xks ci).getD j 0 = 3 := by rw [hc.2.2.2.2.2.2 j hj, h0]; rfl
  exact r_put hL hc j hj' hk hs hj hl hf (fun ad r => by rw [h1]; rfl) (fun ad => by rw [h0]; rcases hrg with rfl | rfl <;> rfl) (fun ad => by rw [h0]; rcases hrg with rfl | rfl <;> rfl) (by rw [h1, if_neg (by decide)]; rcases hrg with rfl | rfl <;> omega) hd kk
theorem r_putl (hL : Lg own nm cc nL R ret mc ms K X) (hc : xCl ci C T N ty) {k i : Nat} (j : Nat) {j' x : Int} (hj' : (j : Int) = j') (hk : k < w.1) (hs : w.2.1 k = (0, ci)) (hj : j < N) (hl : xFl own i C (T j).2.1 (T j).2.2.1) (hf : (T j).2.2.2 = false) (h0 : ty j = .long) (hrg : xrl x)
    (hd : decode cc pc = .ok (.putfield i, 3)) (kk : ∀ μ', μ' = xup μ k j' x → X cu su w μ' (pc + 3) lo st) : X cu su w μ pc lo (xL x :: xR k :: st) := by
  have h1 : (xks ci).getD j 0 = 1 := by rw [hc.2.2.2.2.2.2 j hj, h0]; rfl
  exact r_put hL hc j hj' hk hs hj hl hf (fun ad r => by rw [h1]; rfl) (fun ad => by rw [h0]; rfl) (fun ad => by rw [h0]; rfl) (by rw [h1, if_pos rfl]; exact hrg) hd kk
/-! arrays -/
theorem r_iald (hL : Lg own nm cc nL R ret mc ms K X) {k n : Nat} {i : Int} (hd : decode cc pc = .ok (.iaload, 1)) (hk : k < w.1) (hs : w.2.1 k = (1, n)) (hn : n ≤ 2147483647) (h0 : 0 ≤ i) (h1 : i < n) (kk : xrg (μ k i) → X cu su w μ (pc + 1) lo (xI (μ k i) :: st)) : X cu su w μ pc lo (xI i :: xR k :: st) := by
  obtain ⟨p, l, e, s, m, args, below, meth, c, g, w0, ad0, A, ⟨hx, hb, hml, hown, hT, hK, hSt, hA⟩, hr, hlk, hnm, rfl⟩ := hL
  intro H locs ls ad a1 a2 a3 hP hD hS hok hlo
  have kk := kk (hok.1 k i hk (by rw [hs]; simp [xsk])) H locs ls ad a1 a2 a3 hP hD hS hok hlo
  simp only [List.map_cons, xt] at kk ⊢
  refine va_iald hx hb hK hP k 0 (n := n) (f := fun j => Int32.ofInt (μ k j)) (cA := g.2.1 0) (by rw [xw_get hk, hs]; rfl) rfl (xn_in h0 h1 hn) hd ?_
  rw [xn_cl h0 (by omega), Int.toNat_of_nonneg h0]
  exact kk
theorem r_lald (hL : Lg own nm cc nL R ret mc ms K X) {k n : Nat} {i : Int} (hd : decode cc pc = .ok (.laload, 1)) (hk : k < w.1) (hs : w.2.1 k = (2, n)) (hn : n ≤ 2147483647) (h0 : 0 ≤ i) (h1 : i < n) (kk : xrl (μ k i) → X cu su w μ (pc + 1) lo (xL (μ k i) :: st)) : X cu su w μ pc lo (xI i :: xR k :: st) := by
  obtain ⟨p, l, e, s, m, args, below, meth, c, g, w0, ad0, A, ⟨hx, hb, hml, hown, hT, hK, hSt, hA⟩, hr, hlk, hnm, rfl⟩ := hL
  intro H locs ls ad a1 a2 a3 hP hD hS hok hlo
  have kk := kk (hok.2.1 k i hk (by rw [hs]; rfl)) H locs ls ad a1 a2 a3 hP hD hS hok hlo
  simp only [List.map_cons, xt] at kk ⊢
  refine va_lald hx hb hK hP k 1 (n := n) (f := fun j => Int64.ofInt (μ k j)) (cA := g.2.1 1) (by rw [xw_get hk, hs]; rfl) rfl (xn_in h0 h1 hn) hd ?_
  rw [xn_cl h0 (by omega), Int.toNat_of_nonneg h0]
  exact kk
theorem r_zald (hL : Lg own nm cc nL R ret mc ms K X) {k n : Nat} {i : Int} (hd : decode cc pc = .ok (.baload, 1)) (hk : k < w.1) (hs : w.2.1 k = (3, n)) (hn : n ≤ 2147483647) (h0 : 0 ≤ i) (h1 : i < n) (kk : xrg (μ k i) → X cu su w μ (pc + 1) lo (xI (μ k i) :: st)) : X cu su w μ pc lo (xI i :: xR k :: st) := by
  obtain ⟨p, l, e, s, m, args, below, meth, c, g, w0, ad0, A, ⟨hx, hb, hml, hown, hT, hK, hSt, hA⟩, hr, hlk, hnm, rfl⟩ := hL
  intro H locs ls ad a1 a2 a3 hP hD hS hok hlo
  have kk := kk (hok.1 k i hk (by rw [hs]; simp [xsk])) H locs ls ad a1 a2 a3 hP hD hS hok hlo
  simp only [List.map_cons, xt] at kk ⊢
  refine va_zald hx hb hK hP k 2 (n := n) (f := fun j => Int32.ofInt (μ k j)) (cA := g.2.1 2) (by rw [xw_get hk, hs]; rfl) rfl (xn_in h0 h1 hn) hd ?_
  rw [xn_cl h0 (by omega), Int.toNat_of_nonneg h0]
  exact kk
theorem r_aald (hL : Lg own nm cc nL R ret mc ms K X) {k n t : Nat} {i : Int} (hd : decode cc pc = .ok (.aaload, 1)) (hk : k < w.1) (hs : w.2.1 k = (t + 4, n)) (ht : t < 2) (hn : n ≤ 2147483647) (h0 : 0 ≤ i) (h1 : i < n) {q : Nat} (hq : w.2.2 k i = (q : Int)) (kk : X cu su w μ (pc + 1) lo (xR q :: st)) : X cu su w μ pc lo (xI i :: xR k :: st) := by
  obtain ⟨p, l, e, s, m, args, below, meth, c, g, w0, ad0, A, ⟨hx, hb, hml, hown, hT, hK, hSt, hA⟩, hr, hlk, hnm, rfl⟩ := hL
  intro H locs ls ad a1 a2 a3 hP hD hS hok hlo
  have kk := kk H locs ls ad a1 a2 a3 hP hD hS hok hlo
  simp only [List.map_cons, xt] at kk ⊢
  have hty : ∃ C, (xtys g)[t + 3]? = some (g.2.1 (t + 3), .object C) := by
    rcases (show t = 0 ∨ t = 1 by omega) with rfl | rfl
    · exact ⟨_, rfl⟩
    · exact ⟨_, rfl⟩
  obtain ⟨C, hty⟩ := hty
  refine va_aldq hx hb hK hP k (t + 3) (n := n) (f := fun j => if w.2.2 k j < 0 then none else some (ad (w.2.2 k j).toNat)) (cA := g.2.1 (t + 3)) (by rw [xw_get hk, hs]; rfl) hty (xn_in h0 h1 hn) hd ?_
  rw [xn_cl h0 (by omega), Int.toNat_of_nonneg h0, hq, if_neg (by omega)]
  exact kk
theorem r_iast (hL : Lg own nm cc nL R ret mc ms K X) {k n : Nat} {i x : Int} (hd : decode cc pc = .ok (.iastore, 1)) (hk : k < w.1) (hs : w.2.1 k = (1, n)) (hn : n ≤ 2147483647) (h0 : 0 ≤ i) (h1 : i < n) (hrg : xrg x) (kk : ∀ μ', μ' = xup μ k i x → X cu su w μ' (pc + 1) lo st) : X cu su w μ pc lo (xI x :: xI i :: xR k :: st) := by
  obtain ⟨p, l, e, s, m, args, below, meth, c, g, w0, ad0, A, ⟨hx, hb, hml, hown, hT, hK, hSt, hA⟩, hr, hlk, hnm, rfl⟩ := hL
  intro H locs ls ad a1 a2 a3 hP hD hS hok hlo
  simp only [List.map_cons, xt]
  refine va_iast hx hb hK hP hD hS k 0 (n := n) (f := fun j => Int32.ofInt (μ k j)) (cA := g.2.1 0) (by rw [xw_get hk, hs]; rfl) rfl (xn_in h0 h1 hn) hd (fun H1 locs1 hP1 hD1 hS1 => ?_)
  have hset : (xw g w μ ad).set k (ad k, .inl (g.2.1 0, n, .inl (upd (fun j => Int32.ofInt (μ k j)) (Int32.ofInt i).toNatClampNeg (Int32.ofInt x)))) = xw g w (xup μ k i x) ad := by
    rw [xup_put, ← xw_set hk, hs]
    show _ = (xw g w μ ad).set k (ad k, .inl (g.2.1 0, n, .inl (fun j => Int32.ofInt (xf1 (μ k) i x j))))
    congr 6
    funext q
    rw [xn_cl h0 (by omega)]
    simp only [upd, xf1]
    by_cases hq : q = i.toNat
    · rw [if_pos hq, if_pos (by omega)]
    · rw [if_neg hq, if_neg (by omega)]
  rw [hset] at hP1 hD1
  exact kk _ rfl H1 locs1 ls ad a1 a2 a3 hP1 hD1 hS1 (hok.upi (by rw [hs]; simp [xsk]) hrg) hlo
theorem r_last (hL : Lg own nm cc nL R ret mc ms K X) {k n : Nat} {i x : Int} (hd : decode cc pc = .ok (.lastore, 1)) (hk : k < w.1) (hs : w.2.1 k = (2, n)) (hn : n ≤ 2147483647) (h0 : 0 ≤ i) (h1 : i < n) (hrg : xrl x) (kk : ∀ μ', μ' = xup μ k i x → X cu su w μ' (pc + 1) lo st) : X cu su w μ pc lo (xL x :: xI i :: xR k :: st) := by
  obtain ⟨p, l, e, s, m, args, below, meth, c, g, w0, ad0, A, ⟨hx, hb, hml, hown, hT, hK, hSt, hA⟩, hr, hlk, hnm, rfl⟩ := hL
  intro H locs ls ad a1 a2 a3 hP hD hS hok hlo
  simp only [List.map_cons, xt]
  refine va_last hx hb hK hP hD hS k 1 (n := n) (f := fun j => Int64.ofInt (μ k j)) (cA := g.2.1 1) (by rw [xw_get hk, hs]; rfl) rfl (xn_in h0 h1 hn) hd (fun H1 locs1 hP1 hD1 hS1 => ?_)
  have hset : (xw g w μ ad).set k (ad k, .inl (g.2.1 1, n, .inr (.inl (vp_updL (fun j => Int64.ofInt (μ k j)) (Int32.ofInt i).toNatClampNeg (Int64.ofInt x))))) = xw g w (xup μ k i x) ad := by
    rw [xup_put, ← xw_set hk, hs]
    show _ = (xw g w μ ad).set k (ad k, .inl (g.2.1 1, n, .inr (.inl (fun j => Int64.ofInt (xf1 (μ k) i x j)))))
    congr 7
    funext q
    rw [xn_cl h0 (by omega)]
    simp only [vp_updL, xf1]
    by_cases hq : q = i.toNat
    · rw [if_pos hq, if_pos (by omega)]
    · rw [if_neg hq, if_neg (by omega)]
  rw [hset] at hP1 hD1
  exact kk _ rfl H1 locs1 ls ad a1 a2 a3 hP1 hD1 hS1 (hok.upl (by rw [hs]; rfl) hrg) hlo
theorem r_zast (hL : Lg own nm cc nL R ret mc ms K X) {k n : Nat} {i x : Int} (hd : decode cc pc = .ok (.bastore, 1)) (hk : k < w.1) (hs : w.2.1 k = (3, n)) (hn : n ≤ 2147483647) (h0 : 0 ≤ i) (h1 : i < n) (hrg : x = 0 ∨ x = 1) (kk : ∀ μ', μ' = xup μ k i x → X cu su w μ' (pc + 1) lo st) : X cu su w μ pc lo (xI x :: xI i :: xR k :: st) := by
  obtain ⟨p, l, e, s, m, args, below, meth, c, g, w0, ad0, A, ⟨hx, hb, hml, hown, hT, hK, hSt, hA⟩, hr, hlk, hnm, rfl⟩ := hL
  intro H locs ls ad a1 a2 a3 hP hD hS hok hlo
  simp only [List.map_cons, xt]
  have hz : vp_nar .boolean (Int32.ofInt x) = Int32.ofInt x := by rcases hrg with rfl | rfl <;> rfl
  refine va_zast hx hb hK hP hD hS k 2 (n := n) (f := fun j => Int32.ofInt (μ k j)) (cA := g.2.1 2) (by rw [xw_get hk, hs]; rfl) rfl (xn_in h0 h1 hn) hd (fun H1 locs1 hP1 hD1 hS1 => ?_)
  rw [hz] at hP1 hD1
  have hset : (xw g w μ ad).set k (ad k, .inl (g.2.1 2, n, .inl (upd (fun j => Int32.ofInt (μ k j)) (Int32.ofInt i).toNatClampNeg (Int32.ofInt x)))) = xw g w (xup μ k i x) ad := by
    rw [xup_put, ← xw_set hk, hs]
    show _ = (xw g w μ ad).set k (ad k, .inl (g.2.1 2, n, .inl (fun j => Int32.ofInt (xf1 (μ k) i x j))))
    congr 6
    funext q
    rw [xn_cl h0 (by omega)]
    simp only [upd, xf1]
    by_cases hq : q = i.toNat
    · rw [if_pos hq, if_pos (by omega)]
    · rw [if_neg hq, if_neg (by omega)]
  rw [hset] at hP1 hD1
  exact kk _ rfl H1 locs1 ls ad a1 a2 a3 hP1 hD1 hS1 (hok.upi (by rw [hs]; simp [xsk]) (by rcases hrg with rfl | rfl <;> omega)) hlo
/-! the static rows -/
theorem r_getsF (hL : Lg own nm cc nL R ret mc ms K X) {i : Nat} (hd : decode cc pc = .ok (.getstatic i, 3)) (hl : xWd (.fieldLink own i "TaleTypes$Lineup" "OF_FIRST" "[I"))
    (kk : ∀ a : Nat, (∀ {cu su : Nat} {w : xW} {μ : xM} {pc : Nat} {lo : xLoc} {st : List xV} {i : Int}, decode cc pc = .ok (.iaload, 1) → 0 ≤ i → i < 4 → X cu su w μ (pc + 1) lo (xI (xOF i) :: st) → X cu su w μ pc lo (xI i :: xA a :: st)) → X cu su w μ (pc + 3) lo (xA a :: st)) : X cu su w μ pc lo st := by
  obtain ⟨p, l, e, s, m, args, below, meth, c, g, w0, ad0, A, ⟨hx, hb, hml, hown, hT, hK, hSt, hA⟩, hr, hlk, hnm, rfl⟩ := hL
  intro H locs ls ad a1 a2 a3 hP hD hS hok hlo
  refine va_gets hx hb hSt.1 hS hown (hT _ hl _) (fun _ h => h) hd (kk g.2.2.1 ?_ H locs ls ad a1 a2 a3 hP hD hS hok hlo)
  intro cu su w μ pc lo st i hd h0 h1 k H locs ls ad a1 a2 a3 hP hD hS hok hlo
  have kk := k H locs ls ad a1 a2 a3 hP hD hS hok hlo
  simp only [List.map_cons, xt] at kk ⊢
  refine va_ti hx hb hSt.2.2.1 hS (xn_in h0 (by omega) (by decide)) ?_ hd kk
  show Value.int (Int32.ofInt (xOF ((Int32.ofInt i).toNatClampNeg : Int))) = _
  rw [xn_cl h0 (by omega), Int.toNat_of_nonneg h0]
theorem r_getsO (hL : Lg own nm cc nL R ret mc ms K X) {i : Nat} (hd : decode cc pc = .ok (.getstatic i, 3)) (hl : xWd (.fieldLink own i "TaleTypes$Lineup" "OF_OTHER" "[I"))
    (kk : ∀ a : Nat, (∀ {cu su : Nat} {w : xW} {μ : xM} {pc : Nat} {lo : xLoc} {st : List xV} {i : Int}, decode cc pc = .ok (.iaload, 1) → 0 ≤ i → i < 4 → X cu su w μ (pc + 1) lo (xI (xOO i) :: st) → X cu su w μ pc lo (xI i :: xA a :: st)) → X cu su w μ (pc + 3) lo (xA a :: st)) : X cu su w μ pc lo st := by
  obtain ⟨p, l, e, s, m, args, below, meth, c, g, w0, ad0, A, ⟨hx, hb, hml, hown, hT, hK, hSt, hA⟩, hr, hlk, hnm, rfl⟩ := hL
  intro H locs ls ad a1 a2 a3 hP hD hS hok hlo
  refine va_gets hx hb hSt.2.1 hS hown (hT _ hl _) (fun _ h => h) hd (kk g.2.2.2 ?_ H locs ls ad a1 a2 a3 hP hD hS hok hlo)
  intro cu su w μ pc lo st i hd h0 h1 k H locs ls ad a1 a2 a3 hP hD hS hok hlo
  have kk := k H locs ls ad a1 a2 a3 hP hD hS hok hlo
  simp only [List.map_cons, xt] at kk ⊢
  refine va_ti hx hb hSt.2.2.2 hS (xn_in h0 (by omega) (by decide)) ?_ hd kk
  show Value.int (Int32.ofInt (xOO ((Int32.ofInt i).toNatClampNeg : Int))) = _
  rw [xn_cl h0 (by omega), Int.toNat_of_nonneg h0]
/-! returns -/
theorem r_iret (hL : Lg own nm cc nL R ret mc ms K X) {v : Int} (hd : decode cc pc = .ok (.ireturn, 1)) (hret : ret = some .int) (k : K (some (xI v)) w μ) : X mc ms w μ pc lo [xI v] := by
  obtain ⟨p, l, e, s, m, args, below, meth, c, g, w0, ad0, A, ⟨hx, hb, hml, hown, hT, hK, hSt, hA⟩, hr, hlk, hnm, rfl⟩ := hL
  intro H locs ls ad a1 a2 a3 hP hD hS hok hlo
  exact W.iret hx hb (hr.trans hret) (fun t ht hW => ⟨⟨some (xI v), w, μ, ad, rfl, k, a1, a2, a3, by rw [ht]; exact hP, hD, hok⟩, hS.F ht⟩) hS.2.2 hd hlk
theorem r_zret (hL : Lg own nm cc nL R ret mc ms K X) {v : Int} (hd : decode cc pc = .ok (.ireturn, 1)) (hret : ret = some .boolean) (hv : v = 0 ∨ v = 1) (k : K (some (xI v)) w μ) : X mc ms w μ pc lo [xI v] := by
  obtain ⟨p, l, e, s, m, args, below, meth, c, g, w0, ad0, A, ⟨hx, hb, hml, hown, hT, hK, hSt, hA⟩, hr, hlk, hnm, rfl⟩ := hL
  intro H locs ls ad a1 a2 a3 hP hD hS hok hlo
  exact W.zret hx hb (hr.trans hret) (by rcases hv with rfl | rfl <;> rfl) (fun t ht hW => ⟨⟨some (xI v), w, μ, ad, rfl, k, a1, a2, a3, by rw [ht]; exact hP, hD, hok⟩, hS.F ht⟩) hS.2.2 hd hlk
theorem r_lret (hL : Lg own nm cc nL R ret mc ms K X) {v : Int} (hd : decode cc pc = .ok (.lreturn, 1)) (hret : ret = some .long) (k : K (some (xL v)) w μ) : X mc ms w μ pc lo [xL v] := by
  obtain ⟨p, l, e, s, m, args, below, meth, c, g, w0, ad0, A, ⟨hx, hb, hml, hown, hT, hK, hSt, hA⟩, hr, hlk, hnm, rfl⟩ := hL
  intro H locs ls ad a1 a2 a3 hP hD hS hok hlo
  exact W.lret hx hb (hr.trans hret) (fun t ht hW => ⟨⟨some (xL v), w, μ, ad, rfl, k, a1, a2, a3, by rw [ht]; exact hP, hD, hok⟩, hS.F ht⟩) hS.2.2 hd hlk
theorem r_vret (hL : Lg own nm cc nL R ret mc ms K X) (hd : decode cc pc = .ok (.return_, 1)) (hret : ret = none) (k : K none w μ) : X mc ms w μ pc lo [] := by
  obtain ⟨p, l, e, s, m, args, below, meth, c, g, w0, ad0, A, ⟨hx, hb, hml, hown, hT, hK, hSt, hA⟩, hr, hlk, hnm, rfl⟩ := hL
  intro H locs ls ad a1 a2 a3 hP hD hS hok hlo
  exact W.vret hx hb (hr.trans hret) (fun t ht hW => ⟨⟨none, w, μ, ad, rfl, k, a1, a2, a3, by rw [ht]; exact hP, hD, hok⟩, hS.F ht⟩) hS.2.2 hd hlk
end
end
section
/-! ===== calls ===== -/
/-- what the tables say of a method that is called -/
def xCe (y : MethodName) (cc : ByteArray) (maxL : Nat) (ret : Option FieldType) (n : Nat) : Prop := xWd (.code y cc maxL ret) ∧ xWd (.initialized y.cls) ∧ (y.cls ≠ "java/lang/invoke/MethodHandle" ∧ y.cls ≠ "java/lang/invoke/VarHandle") ∧ (parseMethodDescriptor y.desc).map (fun d => d.parameters.length) = some n
def xcs (st : List xV) : Nat := (st.map fun v => if xlg (some (some v)) then 2 else 1).sum
theorem xcs_cat (ad : Nat → Nat) : ∀ st : List xV, ((st.map (xt ad)).map fun v => v.category).sum = xcs st := by
  intro st
  induction st with
  | nil => rfl
  | cons a l ih =>
    simp only [xcs, List.map_cons, List.sum_cons] at ih ⊢
    rw [ih]
    congr 1
    match a with
    | .inl _ => rfl
    | .inr (.inl _) => rfl
    | .inr (.inr (.inl _)) => rfl
    | .inr (.inr (.inr _)) => rfl
section
variable {p : Program} {l : Launch} {e : Env} {R : Room} {s : State} {m : MethodId} {args : Array Value} {below : List Frame} {meth : Method} {c : Code} {H : Heap} {locs : List Loc} {cells slots : Nat} {Q : State → Prop}
/-- behind a call -/
theorem xcall {g : xG} {w : xW} {μ : xM} {ad : Nat → Nat} {A : Nat → Prop} {K : Option xV → xW → xM → Prop} {mc ms pc : Nat} {ls : Array Slot} {st0 rest : List Value} {a : Array Value} (hr : va_Run p l e R s m args below meth c H locs cells slots mc ms (F0 m pc ls st0) rest (xQ g w ad (xAs w ad H.size) K a) (xAs w ad H.size))
    (hS : va_S A s.heap H locs) (hD : va_D A (xw g w μ ad)) (hA : ∀ q, s.heap.size ≤ q → A q)
    (kk : ∀ (r : Option xV) (w' : xW) (μ' : xM) (ad' : Nat → Nat) (H1 : Heap) (locs1 : List Loc), K r w' μ' → w.1 ≤ w'.1 → (∀ k, k < w.1 → ad' k = ad k) → (w'.1 = w.1 → ad' = ad) → va_P g.1 vwCl (xw g w' μ' ad') H1 → va_D A (xw g w' μ' ad') → va_S A s.heap H1 locs1 → xok w' μ' → W p l e R s m args below meth c H1 locs1 (cells + mc) (slots + ms) Q (F0 m (pc + 3) ls ((r.map (xt ad')).toList ++ rest))) : W p l e R s m args below meth c H locs cells slots Q (F0 m pc ls st0) := by
  have hAA : ∀ q, xAs w ad H.size q → A q := by
    intro q h
    rcases h with ⟨k, hk, rfl⟩ | h
    · exact hD.2 k _ (xw_get hk)
    · exact hA q (Nat.le_trans hS.1 h)
  intro T hT X
  obtain ⟨v, st₀, t, T', L, h0, X', hL, e1, e2, ⟨⟨r, w', μ', ad', hv, hk, b1, b2, b3, hP1, hD1, hok1⟩, hz, hkp⟩, st⟩ := hr T hT X
  rw [h0] at hz hkp
  have hv' : v = r.map (xt ad') := Outcome.returned.inj hv
  subst hv'
  obtain ⟨t2, c1, c2⟩ := kk r w' μ' ad' T'.heap (locs ++ L) hk b1 b2 b3 (by rw [e1]; exact hP1) (hD1.weaken fun _ _ _ h => hAA _ h)
    ⟨Nat.le_trans hS.1 (by rw [e1]; exact hz), fun q h1 h2 => by rw [e1, hkp q (Nat.lt_of_lt_of_le h1 hS.1) (fun z => h2 (hAA q z))]; exact hS.2.1 q h1 h2, fun q hq => by
      rcases List.mem_append.mp hq with h | h
      · exact hS.2.2 q h
      · exact hAA _ (hL q h)⟩ hok1 T' rfl X'
  exact ⟨t2, st t2 c1, c2⟩
/-- the start of a callee -/
theorem xpre {g : xG} {w : xW} {μ : xM} {ad : Nat → Nat} {A : Nat → Prop} (hT : xTab s) (hK : va_K g.1 vwCl (xtys g) s) (hSt : xSt g A s s.heap) (hA : ∀ q, s.heap.size ≤ q → A q) (hP : va_P g.1 vwCl (xw g w μ ad) H) (hD : va_D A (xw g w μ ad)) (hS : va_S A s.heap H locs) (hok : xok w μ) (U : State) (hU : U.heap = H) (hW : s.WarmedH U.vm) : xPre g w μ ad H.size U := by
  refine ⟨by rw [hU], hT.warm hW, va_K.moved hW.alike hK, ?_, by rw [hU]; exact hP, hD.weaken fun _ _ _ _ => trivial, hok⟩
  rw [hU]
  refine ((hSt.kept hS.2.1).narrow fun q h => ?_).moved hW.alike
  rcases h with ⟨k, hk, rfl⟩ | h
  · exact hD.2 k _ (xw_get hk)
  · exact hA q (Nat.le_trans hS.1 h)
theorem xblind {g : xG} {w : xW} {μ : xM} {ad : Nat → Nat} {sz : Nat} {av : List Value} : FrameBlind (va_Pc av (xPre g w μ ad sz)) := fun _ U _ _ h => ⟨h.1, h.2.moved (State.WarmedH.refl U) rfl⟩
end
theorem xret (ad : Nat → Nat) (r : Option xV) (st : List xV) : (r.map (xt ad)).toList ++ st.map (xt ad) = (r.toList ++ st).map (xt ad) := by cases r <;> rfl
section
variable {own nm : String} {cc : ByteArray} {nL : Nat} {R : Room} {ret : Option FieldType} {mc ms : Nat} {K : Option xV → xW → xM → Prop} {X : Nat → Nat → xW → xM → Nat → xLoc → List xV → Prop}
variable {cu su : Nat} {w : xW} {μ : xM} {pc : Nat} {lo : xLoc} {st stk : List xV} {ci N : Nat} {C : String} {T : u_T} {ty : Nat → FieldType}
variable {y : MethodName} {b : ByteArray} {maxL fr lc i : Nat} {rt : Option FieldType} {av : List xV}
/-- a static method that makes nothing -/
theorem r_callS (hL : Lg own nm cc nL R ret mc ms K X) (hM : xMet y b maxL rt fr lc 0 0 av w μ (fun r w' μ' => w' = w ∧ X cu su w μ' (pc + 3) lo (r.toList ++ st))) (he : xCe y b maxL rt av.length) (hst : xWd (.static y)) (hl : xWd (.methodLink own i y)) (hd : decode cc pc = .ok (.invokestatic i, 3)) (hstk : stk = av.reverse ++ st) (hcs : xcs st ≤ 8) (hR : fr + 1 ≤ R.frames ∧ 8 + (maxL + 11) + lc ≤ R.locals) (hcu : cu ≤ R.cells ∧ su ≤ R.slots) : X cu su w μ pc lo stk := by
  subst hstk
  obtain ⟨p, l, e, s, m, args, below, meth, c, g, w0, ad0, A, ⟨hx, hb, hml, hown, hT, hK, hSt, hA⟩, hr, hlk, hnm, rfl⟩ := hL
  intro H locs ls ad a1 a2 a3 hP hD hS hok hlo
  obtain ⟨h1, h2, h3, h4⟩ := he
  refine xcall (va_runS (Ts := []) (As := av.map (xt ad)) (rest := st.map (xt ad)) (n := av.length) ⟨hx, hb, hml, hown, fun _ h => by cases h⟩ (hM l g ad H.size) ⟨⟨rfl, rfl, hR.1, hR.2, fun q hq a' U hW => by rw [List.mem_singleton.mp hq]; exact hT.warm hW _ h1 _, List.mem_singleton.mpr rfl, hT _ h1 _, hT _ h2 _, h3, fun sig h => ?_, hT _ hl _⟩, hT _ hst _⟩
    ⟨xblind, fun U hU hW => ⟨rfl, xpre hT hK hSt hA hP hD hS hok U hU hW⟩⟩ rfl (List.length_map ..) hlo.1 (by show List.map (xt ad) (av.reverse ++ st) = _; rw [List.map_append, List.map_reverse]) (lv_room (by rw [xcs_cat]; exact hcs)) hd ⟨hcu.1, hcu.2⟩) hS hD hA (fun r w' μ' ad' H1 locs1 hk b1 b2 b3 hP1 hD1 hS1 hok1 => ?_)
  · rw [h] at h4; exact (Option.some.inj h4).symm
  · obtain ⟨rfl, hk⟩ := hk
    have := b3 rfl
    subst this
    rw [xret]
    exact hk H1 locs1 ls ad' a1 a2 a3 hP1 hD1 hS1 hok1 hlo
/-- .. of a nest mate -/
theorem r_callSN (hL : Lg own nm cc nL R ret mc ms K X) (hM : xMet y b maxL rt fr lc 0 0 av w μ (fun r w' μ' => w' = w ∧ X cu su w μ' (pc + 3) lo (r.toList ++ st))) (he : xCe y b maxL rt av.length) (hst : xWd (.static y)) {host : String} (hl : xWd (.methodLinkNest own i y host)) (hd : decode cc pc = .ok (.invokestatic i, 3)) (hstk : stk = av.reverse ++ st) (hcs : xcs st ≤ 8) (hR : fr + 1 ≤ R.frames ∧ 8 + (maxL + 11) + lc ≤ R.locals) (hcu : cu ≤ R.cells ∧ su ≤ R.slots) : X cu su w μ pc lo stk := by
  subst hstk
  obtain ⟨p, l, e, s, m, args, below, meth, c, g, w0, ad0, A, ⟨hx, hb, hml, hown, hT, hK, hSt, hA⟩, hr, hlk, hnm, rfl⟩ := hL
  intro H locs ls ad a1 a2 a3 hP hD hS hok hlo
  obtain ⟨h1, h2, h3, h4⟩ := he
  refine xcall (va_runSN (Ts := []) (As := av.map (xt ad)) (rest := st.map (xt ad)) (n := av.length) ⟨hx, hb, hml, hown, fun _ h => by cases h⟩ (hM l g ad H.size) ⟨⟨⟨rfl, rfl, hR.1, hR.2, fun q hq a' U hW => by rw [List.mem_singleton.mp hq]; exact hT.warm hW _ h1 _, List.mem_singleton.mpr rfl⟩, hT _ h1 _, hT _ h2 _, h3, fun sig h => ?_, hT _ hl _⟩, hT _ hst _, trivial⟩
    ⟨xblind, fun U hU hW => ⟨rfl, xpre hT hK hSt hA hP hD hS hok U hU hW⟩⟩ rfl (List.length_map ..) hlo.1 (by show List.map (xt ad) (av.reverse ++ st) = _; rw [List.map_append, List.map_reverse]) (lv_room (by rw [xcs_cat]; exact hcs)) hd ⟨hcu.1, hcu.2⟩) hS hD hA (fun r w' μ' ad' H1 locs1 hk b1 b2 b3 hP1 hD1 hS1 hok1 => ?_)
  · rw [h] at h4; exact (Option.some.inj h4).symm
  · obtain ⟨rfl, hk⟩ := hk
    have := b3 rfl
    subst this
    rw [xret]
    exact hk H1 locs1 ls ad' a1 a2 a3 hP1 hD1 hS1 hok1 hlo
/-- a method of an object -/
theorem r_callV (hL : Lg own nm cc nL R ret mc ms K X) {k : Nat} (hM : xMet y b maxL rt fr lc 0 0 (xR k :: av) w μ (fun r w' μ' => w' = w ∧ X cu su w μ' (pc + 3) lo (r.toList ++ st))) (he : xCe y b maxL rt av.length) (hst : xWd (.instanceMethod y)) (hse : xWd (.selects C y y)) (hl : xWd (.methodLink own i y)) (hc : xCl ci C T N ty) (hk : k < w.1) (hs : w.2.1 k = (0, ci)) (hd : decode cc pc = .ok (.invokevirtual i, 3)) (hstk : stk = av.reverse ++ xR k :: st) (hcs : xcs st ≤ 8) (hR : fr + 1 ≤ R.frames ∧ 8 + (maxL + 11) + lc ≤ R.locals) (hcu : cu ≤ R.cells ∧ su ≤ R.slots) : X cu su w μ pc lo stk := by
  subst hstk
  obtain ⟨p, l, e, s, m, args, below, meth, c, g, w0, ad0, A, ⟨hx, hb, hml, hown, hT, hK, hSt, hA⟩, hr, hlk, hnm, rfl⟩ := hL
  intro H locs ls ad a1 a2 a3 hP hD hS hok hlo
  obtain ⟨h1, h2, h3, h4⟩ := he
  refine xcall (va_runV (Ts := []) (C := C) (b := ad k) (As := av.map (xt ad)) (rest := st.map (xt ad)) (n := av.length) ⟨hx, hb, hml, hown, fun _ h => by cases h⟩ (hM l g ad H.size) ⟨⟨rfl, rfl, hR.1, hR.2, fun q hq a' U hW => by rw [List.mem_singleton.mp hq]; exact hT.warm hW _ h1 _, List.mem_singleton.mpr rfl, hT _ h1 _, hT _ h2 _, h3, fun sig h => ?_, hT _ hl _⟩, hT _ hst _, hT _ hse _⟩
    ⟨xblind, va_recv hK hP hc.1 (xw_o hk hs), fun U hU hW => ⟨rfl, xpre hT hK hSt hA hP hD hS hok U hU hW⟩⟩ rfl (List.length_map ..) hlo.1 (by show List.map (xt ad) (av.reverse ++ xR k :: st) = _; rw [List.map_append, List.map_reverse]; rfl) (lv_room (by rw [xcs_cat]; exact hcs)) hd ⟨hcu.1, hcu.2⟩) hS hD hA (fun r w' μ' ad' H1 locs1 hk b1 b2 b3 hP1 hD1 hS1 hok1 => ?_)
  · rw [h] at h4; exact (Option.some.inj h4).symm
  · obtain ⟨rfl, hk⟩ := hk
    have := b3 rfl
    subst this
    rw [xret]
    exact hk H1 locs1 ls ad' a1 a2 a3 hP1 hD1 hS1 hok1 hlo
/-! the JDK's -/
theorem xif_min {x y : Int} (hx : xrg x) (hy : xrg y) : (if Int32.ofInt y < Int32.ofInt x then Int32.ofInt y else Int32.ofInt x) = Int32.ofInt (min x y) := by
  by_cases h : y < x
  · rw [if_pos ((xn_lt hy hx).mpr h), show min x y = y by omega]
  · rw [if_neg (fun q => h ((xn_lt hy hx).mp q)), show min x y = x by omega]
theorem xif_max {x y : Int} (hx : xrg x) (hy : xrg y) : (if Int32.ofInt x < Int32.ofInt y then Int32.ofInt y else Int32.ofInt x) = Int32.ofInt (max x y) := by
  by_cases h : x < y
  · rw [if_pos ((xn_lt hx hy).mpr h), show max x y = y by omega]
  · rw [if_neg (fun q => h ((xn_lt hx hy).mp q)), show max x y = x by omega]
theorem r_min (hL : Lg own nm cc nL R ret mc ms K X) {x y : Int} (hx0 : xrg x) (hy0 : xrg y) (hl : xWd (.methodLink own i Lib.Math.min.name)) (hst : xWd (.static Lib.Math.min.name)) (hi : xWd (.initialized "java/lang/Math")) (hc : xWd (.code Lib.Math.min.name Lib.Math.min.code 2 (some .int))) (hd : decode cc pc = .ok (.invokestatic i, 3)) (hR : 1 ≤ R.frames ∧ xcs st + 13 ≤ R.locals) (hcu : cu ≤ R.cells ∧ su ≤ R.slots) (k : X cu su w μ (pc + 3) lo (xI (min x y) :: st)) : X cu su w μ pc lo (xI y :: xI x :: st) := by
  obtain ⟨p, l, e, s, m, args, below, meth, c, g, w0, ad0, A, ⟨hx, hb, hml, hown, hT, hK, hSt, hA⟩, hr, hlk, hnm, rfl⟩ := hL
  intro H locs ls ad a1 a2 a3 hP hD hS hok hlo
  have kk := k H locs ls ad a1 a2 a3 hP hD hS hok hlo
  simp only [List.map_cons, xt] at kk ⊢
  refine va_mmin hx hb (hml.trans hlo.1.symm) hown (hT _ hl _) (hT _ hst _) (hT _ hi _) (hT _ hc _) hR.1 (by rw [xcs_cat]; exact hR.2) hcu.1 hcu.2 hd ?_
  rw [xif_min hx0 hy0]
  exact kk
theorem r_max (hL : Lg own nm cc nL R ret mc ms K X) {x y : Int} (hx0 : xrg x) (hy0 : xrg y) (hl : xWd (.methodLink own i Lib.Math.max.name)) (hst : xWd (.static Lib.Math.max.name)) (hi : xWd (.initialized "java/lang/Math")) (hc : xWd (.code Lib.Math.max.name Lib.Math.max.code 2 (some .int))) (hd : decode cc pc = .ok (.invokestatic i, 3)) (hR : 1 ≤ R.frames ∧ xcs st + 13 ≤ R.locals) (hcu : cu ≤ R.cells ∧ su ≤ R.slots) (k : X cu su w μ (pc + 3) lo (xI (max x y) :: st)) : X cu su w μ pc lo (xI y :: xI x :: st) := by
  obtain ⟨p, l, e, s, m, args, below, meth, c, g, w0, ad0, A, ⟨hx, hb, hml, hown, hT, hK, hSt, hA⟩, hr, hlk, hnm, rfl⟩ := hL
  intro H locs ls ad a1 a2 a3 hP hD hS hok hlo
  have kk := k H locs ls ad a1 a2 a3 hP hD hS hok hlo
  simp only [List.map_cons, xt] at kk ⊢
  refine va_mmax hx hb (hml.trans hlo.1.symm) hown (hT _ hl _) (hT _ hst _) (hT _ hi _) (hT _ hc _) hR.1 (by rw [xcs_cat]; exact hR.2) hcu.1 hcu.2 hd ?_
  rw [xif_max hx0 hy0]
  exact kk
theorem r_abs (hL : Lg own nm cc nL R ret mc ms K X) {x : Int} (hx0 : xrg x) (hl : xWd (.methodLink own i Lib.Math.abs.name)) (hst : xWd (.static Lib.Math.abs.name)) (hi : xWd (.initialized "java/lang/Math")) (hc : xWd (.code Lib.Math.abs.name Lib.Math.abs.code 1 (some .int))) (hd : decode cc pc = .ok (.invokestatic i, 3)) (hR : 1 ≤ R.frames ∧ xcs st + 13 ≤ R.locals) (hcu : cu ≤ R.cells ∧ su ≤ R.slots) (k : X cu su w μ (pc + 3) lo (xI (if 0 ≤ x then x else 0 - x) :: st)) : X cu su w μ pc lo (xI x :: st) := by
  obtain ⟨p, l, e, s, m, args, below, meth, c, g, w0, ad0, A, ⟨hx, hb, hml, hown, hT, hK, hSt, hA⟩, hr, hlk, hnm, rfl⟩ := hL
  intro H locs ls ad a1 a2 a3 hP hD hS hok hlo
  have kk := k H locs ls ad a1 a2 a3 hP hD hS hok hlo
  simp only [List.map_cons, xt] at kk ⊢
  refine va_mabs hx hb (hml.trans hlo.1.symm) hown (hT _ hl _) (hT _ hst _) (hT _ hi _) (hT _ hc _) hR.1 (by rw [xcs_cat]; exact hR.2) hcu.1 hcu.2 hd ?_
  rw [show (if (0 : Int32) ≤ Int32.ofInt x then Int32.ofInt x else 0 - Int32.ofInt x) = Int32.ofInt (if 0 ≤ x then x else 0 - x) by
    by_cases h : 0 ≤ x
    · rw [if_pos h, if_pos (show (0 : Int32) ≤ Int32.ofInt x from (xn_le (x := 0) (by omega) hx0).mpr h)]
    · rw [if_neg h, if_neg (show ¬ (0 : Int32) ≤ Int32.ofInt x from fun q => h ((xn_le (x := 0) (by omega) hx0).mp q)), Int32.ofInt_sub]; rfl]
  exact kk
/-- a row copied from its start over another's start -/
def xcp (μ : xM) (k q : Nat) (n : Int) : xM := fun a b => if a = q ∧ 0 ≤ b ∧ b < n then μ k b else μ a b
theorem xok.cp {w : xW} {μ : xM} (h : xok w μ) {k q : Nat} {n : Int} (hk : k < w.1) (hs : xsk (w.2.1 k) = xsk (w.2.1 q)) : xok w (xcp μ k q n) := by
  refine ⟨fun a b ha hz => ?_, fun a b ha hz => ?_, h.2.2⟩
  · by_cases hb : a = q ∧ 0 ≤ b ∧ b < n
    · simp only [xcp, if_pos hb]
      rw [hb.1, ← hs] at hz
      exact h.1 k b hk hz
    · simp only [xcp, if_neg hb]; exact h.1 a b ha hz
  · by_cases hb : a = q ∧ 0 ≤ b ∧ b < n
    · simp only [xcp, if_pos hb]
      rw [hb.1, ← hs] at hz
      exact h.2.1 k b hk hz
    · simp only [xcp, if_neg hb]; exact h.2.1 a b ha hz
theorem xcp_put (μ : xM) (k q : Nat) (n : Int) : xcp μ k q n = xput μ q (fun b => if 0 ≤ b ∧ b < n then μ k b else μ q b) := by
  funext a b
  simp only [xcp, xput]
  by_cases ha : a = q
  · subst ha; simp
  · simp [ha]
theorem r_copyi (hL : Lg own nm cc nL R ret mc ms K X) {k q n0 n1 : Nat} {n : Int} (hk : k < w.1) (hq : q < w.1) (hs : w.2.1 k = (1, n0)) (hs1 : w.2.1 q = (1, n1)) (hn0 : 0 ≤ n) (h4 : n ≤ n0) (h5 : n ≤ n1) (hb1 : n0 ≤ 2147483647) (hl : xWd (.methodLink own i arraycopyName)) (hna : xWd (.native arraycopyName)) (hst : xWd (.static arraycopyName)) (hi : xWd (.initialized "java/lang/System")) (hd : decode cc pc = .ok (.invokestatic i, 3)) (hR : 1 ≤ R.frames ∧ xcs st + 18 ≤ R.locals) (kk : ∀ μ', μ' = xcp μ k q n → X cu su w μ' (pc + 3) lo st) : X cu su w μ pc lo (xI n :: xI 0 :: xR q :: xI 0 :: xR k :: st) := by
  obtain ⟨p, l, e, s, m, args, below, meth, c, g, w0, ad0, A, ⟨hx, hb, hml, hown, hT, hK, hSt, hA⟩, hr, hlk, hnm, rfl⟩ := hL
  intro H locs ls ad a1 a2 a3 hP hD hS hok hlo
  simp only [List.map_cons, xt]
  have hcl := xn_cl hn0 (by omega)
  refine va_copyi hx hb (hml.trans hlo.1.symm) hown (hT _ hl _) (hT _ hna _) (hT _ hst _) (hT _ hi _) hK hP hD hS k q 0 0 (n0 := n0) (n1 := n1) (f := fun j => Int32.ofInt (μ k j)) (g := fun j => Int32.ofInt (μ q j)) (c0 := g.2.1 0) (c1 := g.2.1 0) (ty := .int) (by rw [xw_get hk, hs]; rfl) (by rw [xw_get hq, hs1]; rfl) rfl rfl rfl (by decide) (by decide) (fun z => by have := (xn_lt (y := 0) (by omega) (by omega)).mp z; omega) (by rw [hcl]; show 0 + _ ≤ _; omega) (by rw [hcl]; show 0 + _ ≤ _; omega) (fun _ _ => rfl) hR.1 (by rw [xcs_cat]; exact hR.2) hd (fun H1 locs1 hP1 hD1 hS1 => ?_)
  have hset : (xw g w μ ad).set q (ad q, .inl (g.2.1 0, n1, .inl (va_cpy (fun j => Int32.ofInt (μ k j)) (fun j => Int32.ofInt (μ q j)) (Int32.ofInt 0).toNatClampNeg (Int32.ofInt 0).toNatClampNeg (Int32.ofInt n).toNatClampNeg))) = xw g w (xcp μ k q n) ad := by
    rw [xcp_put, ← xw_set hq, hs1]
    show _ = (xw g w μ ad).set q (ad q, .inl (g.2.1 0, n1, .inl (fun j => Int32.ofInt (if 0 ≤ (j : Int) ∧ (j : Int) < n then μ k j else μ q j))))
    congr 6
    funext j
    rw [hcl]
    show va_cpy _ _ 0 0 _ _ = _
    simp only [va_cpy]
    by_cases hj : (j : Int) < n
    · rw [if_pos (by omega), if_pos (by omega)]
      simp
    · rw [if_neg (by omega), if_neg (by omega)]
  rw [hset] at hP1 hD1
  exact kk _ rfl H1 locs1 ls ad a1 a2 a3 hP1 hD1 hS1 (hok.cp hk (by rw [hs, hs1]; rfl)) hlo
theorem r_copyl (hL : Lg own nm cc nL R ret mc ms K X) {k q n0 n1 : Nat} {n : Int} (hk : k < w.1) (hq : q < w.1) (hs : w.2.1 k = (2, n0)) (hs1 : w.2.1 q = (2, n1)) (hn0 : 0 ≤ n) (h4 : n ≤ n0) (h5 : n ≤ n1) (hb1 : n0 ≤ 2147483647) (hl : xWd (.methodLink own i arraycopyName)) (hna : xWd (.native arraycopyName)) (hst : xWd (.static arraycopyName)) (hi : xWd (.initialized "java/lang/System")) (hd : decode cc pc = .ok (.invokestatic i, 3)) (hR : 1 ≤ R.frames ∧ xcs st + 18 ≤ R.locals) (kk : ∀ μ', μ' = xcp μ k q n → X cu su w μ' (pc + 3) lo st) : X cu su w μ pc lo (xI n :: xI 0 :: xR q :: xI 0 :: xR k :: st) := by
  obtain ⟨p, l, e, s, m, args, below, meth, c, g, w0, ad0, A, ⟨hx, hb, hml, hown, hT, hK, hSt, hA⟩, hr, hlk, hnm, rfl⟩ := hL
  intro H locs ls ad a1 a2 a3 hP hD hS hok hlo
  simp only [List.map_cons, xt]
  have hcl := xn_cl hn0 (by omega)
  refine va_copyl hx hb (hml.trans hlo.1.symm) hown (hT _ hl _) (hT _ hna _) (hT _ hst _) (hT _ hi _) hK hP hD hS k q 1 1 (n0 := n0) (n1 := n1) (f := fun j => Int64.ofInt (μ k j)) (g := fun j => Int64.ofInt (μ q j)) (c0 := g.2.1 1) (c1 := g.2.1 1) (ty := .long) (by rw [xw_get hk, hs]; rfl) (by rw [xw_get hq, hs1]; rfl) rfl rfl rfl (by decide) (by decide) (fun z => by have := (xn_lt (y := 0) (by omega) (by omega)).mp z; omega) (by rw [hcl]; show 0 + _ ≤ _; omega) (by rw [hcl]; show 0 + _ ≤ _; omega) (fun _ _ => rfl) hR.1 (by rw [xcs_cat]; exact hR.2) hd (fun H1 locs1 hP1 hD1 hS1 => ?_)
  have hset : (xw g w μ ad).set q (ad q, .inl (g.2.1 1, n1, .inr (.inl (va_cpy (fun j => Int64.ofInt (μ k j)) (fun j => Int64.ofInt (μ q j)) (Int32.ofInt 0).toNatClampNeg (Int32.ofInt 0).toNatClampNeg (Int32.ofInt n).toNatClampNeg)))) = xw g w (xcp μ k q n) ad := by
    rw [xcp_put, ← xw_set hq, hs1]
    show _ = (xw g w μ ad).set q (ad q, .inl (g.2.1 1, n1, .inr (.inl (fun j => Int64.ofInt (if 0 ≤ (j : Int) ∧ (j : Int) < n then μ k j else μ q j)))))
    congr 7
    funext j
    rw [hcl]
    show va_cpy _ _ 0 0 _ _ = _
    simp only [va_cpy]
    by_cases hj : (j : Int) < n
    · rw [if_pos (by omega), if_pos (by omega)]
      simp
    · rw [if_neg (by omega), if_neg (by omega)]
  rw [hset] at hP1 hD1
  exact kk _ rfl H1 locs1 ls ad a1 a2 a3 hP1 hD1 hS1 (hok.cp hk (by rw [hs, hs1]; rfl)) hlo
end
end
section
theorem kk_L_7 : xWd (.classLink RL 7 "TaleTypes") := xWd.at (i := 60) (by decide +kernel) (by decide +kernel)
theorem in_RX7 : xWd (.instantiable RX7 10) := xWd.at (i := 61) (by decide +kernel) (by decide +kernel)
theorem ml_L_9 : xWd (.methodLink RL 9 yX7_init) := xWd.at (i := 62) (by decide +kernel) (by decide +kernel)
theorem im_yX7_init : xWd (.instanceMethod yX7_init) := xWd.at (i := 63) (by decide +kernel) (by decide +kernel)
theorem ml_X7_1 : xWd (.methodLink RX7 1 Lib.objectInit) := xWd.at (i := 65) (by decide +kernel) (by decide +kernel)
theorem im_Lib_objectInit : xWd (.instanceMethod Lib.objectInit) := xWd.at (i := 66) (by decide +kernel) (by decide +kernel)
theorem kk_X7_7 : xWd (.classLink RX7 7 "TaleTypes$State") := xWd.at (i := 68) (by decide +kernel) (by decide +kernel)
theorem in_RX5 : xWd (.instantiable RX5 6) := xWd.at (i := 69) (by decide +kernel) (by decide +kernel)
theorem ml_X7_9 : xWd (.methodLink RX7 9 yX5_init) := xWd.at (i := 70) (by decide +kernel) (by decide +kernel)
theorem im_yX5_init : xWd (.instanceMethod yX5_init) := xWd.at (i := 71) (by decide +kernel) (by decide +kernel)
theorem ml_X5_3 : xWd (.methodLink RX5 3 Lib.objectInit) := xWd.at (i := 73) (by decide +kernel) (by decide +kernel)
theorem fl_X5_9 : xFl RX5 9 "TaleTypes$State" "tales" "[J" := Or.inl (xWd.at (i := 74) (by decide +kernel) (by decide +kernel))
theorem fw_X5_9 : xWd (.fieldLink RX5 9 "TaleTypes$State" "tales" "[J") := xWd.at (i := 74) (by decide +kernel) (by decide +kernel)
theorem fl_X2_21 : xFl RX2 21 "TaleTypes$State" "tales" "[J" := Or.inr ⟨"TaleTypes", xWd.at (i := 75) (by decide +kernel) (by decide +kernel)⟩
theorem fl_X7_124 : xFl RX7 124 "TaleTypes$State" "tales" "[J" := Or.inr ⟨"TaleTypes", xWd.at (i := 76) (by decide +kernel) (by decide +kernel)⟩
theorem fl_X5_15 : xFl RX5 15 "TaleTypes$State" "places" "[I" := Or.inl (xWd.at (i := 77) (by decide +kernel) (by decide +kernel))
theorem fw_X5_15 : xWd (.fieldLink RX5 15 "TaleTypes$State" "places" "[I") := xWd.at (i := 77) (by decide +kernel) (by decide +kernel)
theorem fl_X7_128 : xFl RX7 128 "TaleTypes$State" "places" "[I" := Or.inr ⟨"TaleTypes", xWd.at (i := 78) (by decide +kernel) (by decide +kernel)⟩
theorem fl_X5_19 : xFl RX5 19 "TaleTypes$State" "costs" "[I" := Or.inl (xWd.at (i := 79) (by decide +kernel) (by decide +kernel))
theorem fw_X5_19 : xWd (.fieldLink RX5 19 "TaleTypes$State" "costs" "[I") := xWd.at (i := 79) (by decide +kernel) (by decide +kernel)
theorem fl_X2_25 : xFl RX2 25 "TaleTypes$State" "costs" "[I" := Or.inr ⟨"TaleTypes", xWd.at (i := 80) (by decide +kernel) (by decide +kernel)⟩
theorem fl_X7_146 : xFl RX7 146 "TaleTypes$State" "costs" "[I" := Or.inr ⟨"TaleTypes", xWd.at (i := 81) (by decide +kernel) (by decide +kernel)⟩
theorem fl_X5_22 : xFl RX5 22 "TaleTypes$State" "roads" "[I" := Or.inl (xWd.at (i := 82) (by decide +kernel) (by decide +kernel))
theorem fw_X5_22 : xWd (.fieldLink RX5 22 "TaleTypes$State" "roads" "[I") := xWd.at (i := 82) (by decide +kernel) (by decide +kernel)
theorem fl_X7_132 : xFl RX7 132 "TaleTypes$State" "roads" "[I" := Or.inr ⟨"TaleTypes", xWd.at (i := 83) (by decide +kernel) (by decide +kernel)⟩
theorem fl_X5_25 : xFl RX5 25 "TaleTypes$State" "count" "I" := Or.inl (xWd.at (i := 84) (by decide +kernel) (by decide +kernel))
theorem fw_X5_25 : xWd (.fieldLink RX5 25 "TaleTypes$State" "count" "I") := xWd.at (i := 84) (by decide +kernel) (by decide +kernel)
theorem fl_X2_15 : xFl RX2 15 "TaleTypes$State" "count" "I" := Or.inr ⟨"TaleTypes", xWd.at (i := 85) (by decide +kernel) (by decide +kernel)⟩
theorem fl_X7_80 : xFl RX7 80 "TaleTypes$State" "count" "I" := Or.inr ⟨"TaleTypes", xWd.at (i := 86) (by decide +kernel) (by decide +kernel)⟩
theorem fl_X5_29 : xFl RX5 29 "TaleTypes$State" "kind" "I" := Or.inl (xWd.at (i := 87) (by decide +kernel) (by decide +kernel))
theorem fw_X5_29 : xWd (.fieldLink RX5 29 "TaleTypes$State" "kind" "I") := xWd.at (i := 87) (by decide +kernel) (by decide +kernel)
theorem fl_X7_91 : xFl RX7 91 "TaleTypes$State" "kind" "I" := Or.inr ⟨"TaleTypes", xWd.at (i := 88) (by decide +kernel) (by decide +kernel)⟩
theorem ac_Jvm_ClassFile_FieldType_long : xWd (.arrayClass Jvm.ClassFile.FieldType.long) := xWd.at (i := 102) (by decide +kernel) (by decide +kernel)
theorem ac_Jvm_ClassFile_FieldType_int : xWd (.arrayClass Jvm.ClassFile.FieldType.int) := xWd.at (i := 103) (by decide +kernel) (by decide +kernel)
theorem kk_X7_16 : xWd (.classLink RX7 16 "TaleTypes$Deeds") := xWd.at (i := 104) (by decide +kernel) (by decide +kernel)
theorem in_RX1 : xWd (.instantiable RX1 3) := xWd.at (i := 105) (by decide +kernel) (by decide +kernel)
theorem ml_X7_18 : xWd (.methodLink RX7 18 yX1_init) := xWd.at (i := 106) (by decide +kernel) (by decide +kernel)
theorem im_yX1_init : xWd (.instanceMethod yX1_init) := xWd.at (i := 107) (by decide +kernel) (by decide +kernel)
theorem ml_X1_3 : xWd (.methodLink RX1 3 Lib.objectInit) := xWd.at (i := 109) (by decide +kernel) (by decide +kernel)
theorem kk_X1_9 : xWd (.classLink RX1 9 "TaleTypes$State") := xWd.at (i := 110) (by decide +kernel) (by decide +kernel)
theorem ao_Jvm_ClassFile_FieldType_object_TaleTypes_State : xWd (.arrayOver (Jvm.ClassFile.FieldType.object "TaleTypes$State")) := xWd.at (i := 111) (by decide +kernel) (by decide +kernel)
theorem ml_X1_24 : xWd (.methodLink RX1 24 yX5_init) := xWd.at (i := 112) (by decide +kernel) (by decide +kernel)
theorem fl_X1_11 : xFl RX1 11 "TaleTypes$Deeds" "before" "[LTaleTypes$State;" := Or.inl (xWd.at (i := 113) (by decide +kernel) (by decide +kernel))
theorem fw_X1_11 : xWd (.fieldLink RX1 11 "TaleTypes$Deeds" "before" "[LTaleTypes$State;") := xWd.at (i := 113) (by decide +kernel) (by decide +kernel)
theorem fl_X1_17 : xFl RX1 17 "TaleTypes$Deeds" "count" "I" := Or.inl (xWd.at (i := 114) (by decide +kernel) (by decide +kernel))
theorem fw_X1_17 : xWd (.fieldLink RX1 17 "TaleTypes$Deeds" "count" "I") := xWd.at (i := 114) (by decide +kernel) (by decide +kernel)
theorem fl_X7_118 : xFl RX7 118 "TaleTypes$Deeds" "count" "I" := Or.inr ⟨"TaleTypes", xWd.at (i := 115) (by decide +kernel) (by decide +kernel)⟩
theorem fl_X1_21 : xFl RX1 21 "TaleTypes$Deeds" "next" "I" := Or.inl (xWd.at (i := 116) (by decide +kernel) (by decide +kernel))
theorem fw_X1_21 : xWd (.fieldLink RX1 21 "TaleTypes$Deeds" "next" "I") := xWd.at (i := 116) (by decide +kernel) (by decide +kernel)
theorem kk_X7_23 : xWd (.classLink RX7 23 "TaleTypes$Book") := xWd.at (i := 124) (by decide +kernel) (by decide +kernel)
theorem in_RX0 : xWd (.instantiable RX0 4) := xWd.at (i := 125) (by decide +kernel) (by decide +kernel)
theorem ml_X7_25 : xWd (.methodLinkNest RX7 25 yX0_init "TaleTypes") := xWd.at (i := 126) (by decide +kernel) (by decide +kernel)
theorem im_yX0_init : xWd (.instanceMethod yX0_init) := xWd.at (i := 127) (by decide +kernel) (by decide +kernel)
theorem ml_X0_3 : xWd (.methodLink RX0 3 Lib.objectInit) := xWd.at (i := 129) (by decide +kernel) (by decide +kernel)
theorem fl_X0_9 : xFl RX0 9 "TaleTypes$Book" "firsts" "[I" := Or.inl (xWd.at (i := 130) (by decide +kernel) (by decide +kernel))
theorem fw_X0_9 : xWd (.fieldLink RX0 9 "TaleTypes$Book" "firsts" "[I") := xWd.at (i := 130) (by decide +kernel) (by decide +kernel)
theorem fl_X0_15 : xFl RX0 15 "TaleTypes$Book" "others" "[I" := Or.inl (xWd.at (i := 131) (by decide +kernel) (by decide +kernel))
theorem fw_X0_15 : xWd (.fieldLink RX0 15 "TaleTypes$Book" "others" "[I") := xWd.at (i := 131) (by decide +kernel) (by decide +kernel)
theorem fl_X0_18 : xFl RX0 18 "TaleTypes$Book" "says" "[I" := Or.inl (xWd.at (i := 132) (by decide +kernel) (by decide +kernel))
theorem fw_X0_18 : xWd (.fieldLink RX0 18 "TaleTypes$Book" "says" "[I") := xWd.at (i := 132) (by decide +kernel) (by decide +kernel)
theorem fl_X0_21 : xFl RX0 21 "TaleTypes$Book" "size" "I" := Or.inl (xWd.at (i := 133) (by decide +kernel) (by decide +kernel))
theorem fw_X0_21 : xWd (.fieldLink RX0 21 "TaleTypes$Book" "size" "I") := xWd.at (i := 133) (by decide +kernel) (by decide +kernel)
theorem fl_X7_108 : xFl RX7 108 "TaleTypes$Book" "size" "I" := Or.inr ⟨"TaleTypes", xWd.at (i := 134) (by decide +kernel) (by decide +kernel)⟩
theorem kk_X7_30 : xWd (.classLink RX7 30 "TaleTypes$Lineup") := xWd.at (i := 144) (by decide +kernel) (by decide +kernel)
theorem in_RX4 : xWd (.instantiable RX4 9) := xWd.at (i := 145) (by decide +kernel) (by decide +kernel)
theorem ml_X7_32 : xWd (.methodLinkNest RX7 32 yX4_init "TaleTypes") := xWd.at (i := 146) (by decide +kernel) (by decide +kernel)
theorem im_yX4_init : xWd (.instanceMethod yX4_init) := xWd.at (i := 147) (by decide +kernel) (by decide +kernel)
theorem ml_X4_3 : xWd (.methodLink RX4 3 Lib.objectInit) := xWd.at (i := 149) (by decide +kernel) (by decide +kernel)
theorem fl_X4_9 : xFl RX4 9 "TaleTypes$Lineup" "first" "[I" := Or.inl (xWd.at (i := 150) (by decide +kernel) (by decide +kernel))
theorem fw_X4_9 : xWd (.fieldLink RX4 9 "TaleTypes$Lineup" "first" "[I") := xWd.at (i := 150) (by decide +kernel) (by decide +kernel)
theorem fl_X4_15 : xFl RX4 15 "TaleTypes$Lineup" "other" "[I" := Or.inl (xWd.at (i := 151) (by decide +kernel) (by decide +kernel))
theorem fw_X4_15 : xWd (.fieldLink RX4 15 "TaleTypes$Lineup" "other" "[I") := xWd.at (i := 151) (by decide +kernel) (by decide +kernel)
theorem fl_X4_18 : xFl RX4 18 "TaleTypes$Lineup" "costs" "[I" := Or.inl (xWd.at (i := 152) (by decide +kernel) (by decide +kernel))
theorem fw_X4_18 : xWd (.fieldLink RX4 18 "TaleTypes$Lineup" "costs" "[I") := xWd.at (i := 152) (by decide +kernel) (by decide +kernel)
theorem fl_X4_21 : xFl RX4 21 "TaleTypes$Lineup" "least" "[I" := Or.inl (xWd.at (i := 153) (by decide +kernel) (by decide +kernel))
theorem fw_X4_21 : xWd (.fieldLink RX4 21 "TaleTypes$Lineup" "least" "[I") := xWd.at (i := 153) (by decide +kernel) (by decide +kernel)
theorem fl_X4_24 : xFl RX4 24 "TaleTypes$Lineup" "rows" "[I" := Or.inl (xWd.at (i := 154) (by decide +kernel) (by decide +kernel))
theorem fw_X4_24 : xWd (.fieldLink RX4 24 "TaleTypes$Lineup" "rows" "[I") := xWd.at (i := 154) (by decide +kernel) (by decide +kernel)
theorem fl_X4_27 : xFl RX4 27 "TaleTypes$Lineup" "shared" "[I" := Or.inl (xWd.at (i := 155) (by decide +kernel) (by decide +kernel))
theorem fw_X4_27 : xWd (.fieldLink RX4 27 "TaleTypes$Lineup" "shared" "[I") := xWd.at (i := 155) (by decide +kernel) (by decide +kernel)
theorem fl_X4_30 : xFl RX4 30 "TaleTypes$Lineup" "way" "[I" := Or.inl (xWd.at (i := 156) (by decide +kernel) (by decide +kernel))
theorem fw_X4_30 : xWd (.fieldLink RX4 30 "TaleTypes$Lineup" "way" "[I") := xWd.at (i := 156) (by decide +kernel) (by decide +kernel)
theorem fl_X4_33 : xFl RX4 33 "TaleTypes$Lineup" "firstLength" "I" := Or.inl (xWd.at (i := 157) (by decide +kernel) (by decide +kernel))
theorem fw_X4_33 : xWd (.fieldLink RX4 33 "TaleTypes$Lineup" "firstLength" "I") := xWd.at (i := 157) (by decide +kernel) (by decide +kernel)
theorem fl_X4_37 : xFl RX4 37 "TaleTypes$Lineup" "otherLength" "I" := Or.inl (xWd.at (i := 158) (by decide +kernel) (by decide +kernel))
theorem fw_X4_37 : xWd (.fieldLink RX4 37 "TaleTypes$Lineup" "otherLength" "I") := xWd.at (i := 158) (by decide +kernel) (by decide +kernel)
theorem kk_X7_37 : xWd (.classLink RX7 37 "TaleTypes$Distances") := xWd.at (i := 178) (by decide +kernel) (by decide +kernel)
theorem in_RX2 : xWd (.instantiable RX2 1) := xWd.at (i := 179) (by decide +kernel) (by decide +kernel)
theorem ml_X7_39 : xWd (.methodLinkNest RX7 39 yX2_init "TaleTypes") := xWd.at (i := 180) (by decide +kernel) (by decide +kernel)
theorem im_yX2_init : xWd (.instanceMethod yX2_init) := xWd.at (i := 181) (by decide +kernel) (by decide +kernel)
theorem ml_X2_3 : xWd (.methodLink RX2 3 Lib.objectInit) := xWd.at (i := 183) (by decide +kernel) (by decide +kernel)
theorem fl_X2_9 : xFl RX2 9 "TaleTypes$Distances" "apart" "[I" := Or.inl (xWd.at (i := 184) (by decide +kernel) (by decide +kernel))
theorem fw_X2_9 : xWd (.fieldLink RX2 9 "TaleTypes$Distances" "apart" "[I") := xWd.at (i := 184) (by decide +kernel) (by decide +kernel)
theorem kk_X7_44 : xWd (.classLink RX7 44 "TaleTypes$Tree") := xWd.at (i := 188) (by decide +kernel) (by decide +kernel)
theorem in_RX6 : xWd (.instantiable RX6 11) := xWd.at (i := 189) (by decide +kernel) (by decide +kernel)
theorem ml_X7_46 : xWd (.methodLinkNest RX7 46 yX6_init "TaleTypes") := xWd.at (i := 190) (by decide +kernel) (by decide +kernel)
theorem im_yX6_init : xWd (.instanceMethod yX6_init) := xWd.at (i := 191) (by decide +kernel) (by decide +kernel)
theorem ml_X6_3 : xWd (.methodLink RX6 3 Lib.objectInit) := xWd.at (i := 193) (by decide +kernel) (by decide +kernel)
theorem fl_X6_9 : xFl RX6 9 "TaleTypes$Tree" "heights" "[I" := Or.inl (xWd.at (i := 194) (by decide +kernel) (by decide +kernel))
theorem fw_X6_9 : xWd (.fieldLink RX6 9 "TaleTypes$Tree" "heights" "[I") := xWd.at (i := 194) (by decide +kernel) (by decide +kernel)
theorem fl_X7_168 : xFl RX7 168 "TaleTypes$Tree" "heights" "[I" := Or.inr ⟨"TaleTypes", xWd.at (i := 195) (by decide +kernel) (by decide +kernel)⟩
theorem fl_X6_15 : xFl RX6 15 "TaleTypes$Tree" "wholes" "[I" := Or.inl (xWd.at (i := 196) (by decide +kernel) (by decide +kernel))
theorem fw_X6_15 : xWd (.fieldLink RX6 15 "TaleTypes$Tree" "wholes" "[I") := xWd.at (i := 196) (by decide +kernel) (by decide +kernel)
theorem fl_X7_171 : xFl RX7 171 "TaleTypes$Tree" "wholes" "[I" := Or.inr ⟨"TaleTypes", xWd.at (i := 197) (by decide +kernel) (by decide +kernel)⟩
theorem fl_X6_18 : xFl RX6 18 "TaleTypes$Tree" "leasts" "[I" := Or.inl (xWd.at (i := 198) (by decide +kernel) (by decide +kernel))
theorem fw_X6_18 : xWd (.fieldLink RX6 18 "TaleTypes$Tree" "leasts" "[I") := xWd.at (i := 198) (by decide +kernel) (by decide +kernel)
theorem fl_X7_174 : xFl RX7 174 "TaleTypes$Tree" "leasts" "[I" := Or.inr ⟨"TaleTypes", xWd.at (i := 199) (by decide +kernel) (by decide +kernel)⟩
theorem fl_X6_21 : xFl RX6 21 "TaleTypes$Tree" "types" "[I" := Or.inl (xWd.at (i := 200) (by decide +kernel) (by decide +kernel))
theorem fw_X6_21 : xWd (.fieldLink RX6 21 "TaleTypes$Tree" "types" "[I") := xWd.at (i := 200) (by decide +kernel) (by decide +kernel)
theorem fl_X6_24 : xFl RX6 24 "TaleTypes$Tree" "nodes" "I" := Or.inl (xWd.at (i := 201) (by decide +kernel) (by decide +kernel))
theorem fw_X6_24 : xWd (.fieldLink RX6 24 "TaleTypes$Tree" "nodes" "I") := xWd.at (i := 201) (by decide +kernel) (by decide +kernel)
theorem fl_X6_28 : xFl RX6 28 "TaleTypes$Tree" "over" "I" := Or.inl (xWd.at (i := 202) (by decide +kernel) (by decide +kernel))
theorem fw_X6_28 : xWd (.fieldLink RX6 28 "TaleTypes$Tree" "over" "I") := xWd.at (i := 202) (by decide +kernel) (by decide +kernel)
theorem fl_X6_31 : xFl RX6 31 "TaleTypes$Tree" "under" "I" := Or.inl (xWd.at (i := 203) (by decide +kernel) (by decide +kernel))
theorem fw_X6_31 : xWd (.fieldLink RX6 31 "TaleTypes$Tree" "under" "I") := xWd.at (i := 203) (by decide +kernel) (by decide +kernel)
theorem fl_X6_34 : xFl RX6 34 "TaleTypes$Tree" "nearestOver" "I" := Or.inl (xWd.at (i := 204) (by decide +kernel) (by decide +kernel))
theorem fw_X6_34 : xWd (.fieldLink RX6 34 "TaleTypes$Tree" "nearestOver" "I") := xWd.at (i := 204) (by decide +kernel) (by decide +kernel)
theorem fl_X6_37 : xFl RX6 37 "TaleTypes$Tree" "nearestUnder" "I" := Or.inl (xWd.at (i := 205) (by decide +kernel) (by decide +kernel))
theorem fw_X6_37 : xWd (.fieldLink RX6 37 "TaleTypes$Tree" "nearestUnder" "I") := xWd.at (i := 205) (by decide +kernel) (by decide +kernel)
theorem fl_X6_40 : xFl RX6 40 "TaleTypes$Tree" "nearestOne" "I" := Or.inl (xWd.at (i := 206) (by decide +kernel) (by decide +kernel))
theorem fw_X6_40 : xWd (.fieldLink RX6 40 "TaleTypes$Tree" "nearestOne" "I") := xWd.at (i := 206) (by decide +kernel) (by decide +kernel)
theorem fl_X6_43 : xFl RX6 43 "TaleTypes$Tree" "nearestOther" "I" := Or.inl (xWd.at (i := 207) (by decide +kernel) (by decide +kernel))
theorem fw_X6_43 : xWd (.fieldLink RX6 43 "TaleTypes$Tree" "nearestOther" "I") := xWd.at (i := 207) (by decide +kernel) (by decide +kernel)
theorem kk_X7_51 : xWd (.classLink RX7 51 "TaleTypes$Image") := xWd.at (i := 231) (by decide +kernel) (by decide +kernel)
theorem ao_Jvm_ClassFile_FieldType_object_TaleTypes_Image : xWd (.arrayOver (Jvm.ClassFile.FieldType.object "TaleTypes$Image")) := xWd.at (i := 232) (by decide +kernel) (by decide +kernel)
theorem in_RX3 : xWd (.instantiable RX3 3) := xWd.at (i := 233) (by decide +kernel) (by decide +kernel)
theorem ml_X7_69 : xWd (.methodLinkNest RX7 69 yX3_init "TaleTypes") := xWd.at (i := 234) (by decide +kernel) (by decide +kernel)
theorem im_yX3_init : xWd (.instanceMethod yX3_init) := xWd.at (i := 235) (by decide +kernel) (by decide +kernel)
theorem ml_X3_1 : xWd (.methodLink RX3 1 Lib.objectInit) := xWd.at (i := 237) (by decide +kernel) (by decide +kernel)
theorem kk_X3_7 : xWd (.classLink RX3 7 "TaleTypes$State") := xWd.at (i := 238) (by decide +kernel) (by decide +kernel)
theorem ml_X3_9 : xWd (.methodLink RX3 9 yX5_init) := xWd.at (i := 239) (by decide +kernel) (by decide +kernel)
theorem fl_X3_10 : xFl RX3 10 "TaleTypes$Image" "state" "LTaleTypes$State;" := Or.inl (xWd.at (i := 240) (by decide +kernel) (by decide +kernel))
theorem fw_X3_10 : xWd (.fieldLink RX3 10 "TaleTypes$Image" "state" "LTaleTypes$State;") := xWd.at (i := 240) (by decide +kernel) (by decide +kernel)
theorem fl_X7_217 : xFl RX7 217 "TaleTypes$Image" "state" "LTaleTypes$State;" := Or.inr ⟨"TaleTypes", xWd.at (i := 241) (by decide +kernel) (by decide +kernel)⟩
theorem fl_X3_16 : xFl RX3 16 "TaleTypes$Image" "seed" "I" := Or.inl (xWd.at (i := 242) (by decide +kernel) (by decide +kernel))
theorem fw_X3_16 : xWd (.fieldLink RX3 16 "TaleTypes$Image" "seed" "I") := xWd.at (i := 242) (by decide +kernel) (by decide +kernel)
theorem fl_X7_224 : xFl RX7 224 "TaleTypes$Image" "seed" "I" := Or.inr ⟨"TaleTypes", xWd.at (i := 243) (by decide +kernel) (by decide +kernel)⟩
theorem fl_X3_20 : xFl RX3 20 "TaleTypes$Image" "kept" "Z" := Or.inl (xWd.at (i := 244) (by decide +kernel) (by decide +kernel))
theorem fw_X3_20 : xWd (.fieldLink RX3 20 "TaleTypes$Image" "kept" "Z") := xWd.at (i := 244) (by decide +kernel) (by decide +kernel)
theorem fl_X7_227 : xFl RX7 227 "TaleTypes$Image" "kept" "Z" := Or.inr ⟨"TaleTypes", xWd.at (i := 245) (by decide +kernel) (by decide +kernel)⟩
theorem fl_X7_10 : xFl RX7 10 "TaleTypes" "now" "LTaleTypes$State;" := Or.inl (xWd.at (i := 253) (by decide +kernel) (by decide +kernel))
theorem fw_X7_10 : xWd (.fieldLink RX7 10 "TaleTypes" "now" "LTaleTypes$State;") := xWd.at (i := 253) (by decide +kernel) (by decide +kernel)
theorem fl_X7_19 : xFl RX7 19 "TaleTypes" "deeds" "LTaleTypes$Deeds;" := Or.inl (xWd.at (i := 254) (by decide +kernel) (by decide +kernel))
theorem fw_X7_19 : xWd (.fieldLink RX7 19 "TaleTypes" "deeds" "LTaleTypes$Deeds;") := xWd.at (i := 254) (by decide +kernel) (by decide +kernel)
theorem fl_X7_26 : xFl RX7 26 "TaleTypes" "book" "LTaleTypes$Book;" := Or.inl (xWd.at (i := 255) (by decide +kernel) (by decide +kernel))
theorem fw_X7_26 : xWd (.fieldLink RX7 26 "TaleTypes" "book" "LTaleTypes$Book;") := xWd.at (i := 255) (by decide +kernel) (by decide +kernel)
theorem fl_X7_33 : xFl RX7 33 "TaleTypes" "lineup" "LTaleTypes$Lineup;" := Or.inl (xWd.at (i := 256) (by decide +kernel) (by decide +kernel))
theorem fw_X7_33 : xWd (.fieldLink RX7 33 "TaleTypes" "lineup" "LTaleTypes$Lineup;") := xWd.at (i := 256) (by decide +kernel) (by decide +kernel)
theorem fl_X7_40 : xFl RX7 40 "TaleTypes" "distances" "LTaleTypes$Distances;" := Or.inl (xWd.at (i := 257) (by decide +kernel) (by decide +kernel))
theorem fw_X7_40 : xWd (.fieldLink RX7 40 "TaleTypes" "distances" "LTaleTypes$Distances;") := xWd.at (i := 257) (by decide +kernel) (by decide +kernel)
theorem fl_X7_47 : xFl RX7 47 "TaleTypes" "tree" "LTaleTypes$Tree;" := Or.inl (xWd.at (i := 258) (by decide +kernel) (by decide +kernel))
theorem fw_X7_47 : xWd (.fieldLink RX7 47 "TaleTypes" "tree" "LTaleTypes$Tree;") := xWd.at (i := 258) (by decide +kernel) (by decide +kernel)
theorem fl_X7_53 : xFl RX7 53 "TaleTypes" "images" "[LTaleTypes$Image;" := Or.inl (xWd.at (i := 259) (by decide +kernel) (by decide +kernel))
theorem fw_X7_53 : xWd (.fieldLink RX7 53 "TaleTypes" "images" "[LTaleTypes$Image;") := xWd.at (i := 259) (by decide +kernel) (by decide +kernel)
theorem fl_X7_57 : xFl RX7 57 "TaleTypes" "typed" "J" := Or.inl (xWd.at (i := 260) (by decide +kernel) (by decide +kernel))
theorem fw_X7_57 : xWd (.fieldLink RX7 57 "TaleTypes" "typed" "J") := xWd.at (i := 260) (by decide +kernel) (by decide +kernel)
theorem fl_X7_61 : xFl RX7 61 "TaleTypes" "theSeed" "I" := Or.inl (xWd.at (i := 261) (by decide +kernel) (by decide +kernel))
theorem fw_X7_61 : xWd (.fieldLink RX7 61 "TaleTypes" "theSeed" "I") := xWd.at (i := 261) (by decide +kernel) (by decide +kernel)
theorem fl_X7_65 : xFl RX7 65 "TaleTypes" "measured" "Z" := Or.inl (xWd.at (i := 262) (by decide +kernel) (by decide +kernel))
theorem fw_X7_65 : xWd (.fieldLink RX7 65 "TaleTypes" "measured" "Z") := xWd.at (i := 262) (by decide +kernel) (by decide +kernel)
theorem ml_L_13 : xWd (.methodLink RL 13 yX7_feed) := xWd.at (i := 284) (by decide +kernel) (by decide +kernel)
theorem im_yX7_feed : xWd (.instanceMethod yX7_feed) := xWd.at (i := 285) (by decide +kernel) (by decide +kernel)
theorem kc_X7_70 : xWd (.constant RX7 70 (-1000000002)) := xWd.at (i := 288) (by decide +kernel) (by decide +kernel)
theorem ml_X7_71 : xWd (.methodLink RX7 71 yX7_lengthOf) := xWd.at (i := 289) (by decide +kernel) (by decide +kernel)
theorem sm_yX7_lengthOf : xWd (.static yX7_lengthOf) := xWd.at (i := 290) (by decide +kernel) (by decide +kernel)
theorem kc_X7_75 : xWd (.constant RX7 75 (-1000000004)) := xWd.at (i := 292) (by decide +kernel) (by decide +kernel)
theorem ml_X7_76 : xWd (.methodLink RX7 76 yX7_longer) := xWd.at (i := 293) (by decide +kernel) (by decide +kernel)
theorem sm_yX7_longer : xWd (.static yX7_longer) := xWd.at (i := 294) (by decide +kernel) (by decide +kernel)
theorem kl_X7_251 : xWd (.constantLong RX7 251 (4294967296)) := xWd.at (i := 296) (by decide +kernel) (by decide +kernel)
theorem ml_L_18 : xWd (.methodLink RL 18 yX7_tale) := xWd.at (i := 297) (by decide +kernel) (by decide +kernel)
theorem im_yX7_tale : xWd (.instanceMethod yX7_tale) := xWd.at (i := 298) (by decide +kernel) (by decide +kernel)
theorem kc_X7_83 : xWd (.constant RX7 83 (-1000000003)) := xWd.at (i := 301) (by decide +kernel) (by decide +kernel)
theorem ml_X7_84 : xWd (.methodLink RX7 84 yX7_beginDeed) := xWd.at (i := 302) (by decide +kernel) (by decide +kernel)
theorem im_yX7_beginDeed : xWd (.instanceMethod yX7_beginDeed) := xWd.at (i := 304) (by decide +kernel) (by decide +kernel)
theorem ml_X7_230 : xWd (.methodLink RX7 230 yX1_remember) := xWd.at (i := 306) (by decide +kernel) (by decide +kernel)
theorem im_yX1_remember : xWd (.instanceMethod yX1_remember) := xWd.at (i := 307) (by decide +kernel) (by decide +kernel)
theorem ml_X1_25 : xWd (.methodLink RX1 25 yX5_become) := xWd.at (i := 310) (by decide +kernel) (by decide +kernel)
theorem im_yX5_become : xWd (.instanceMethod yX5_become) := xWd.at (i := 311) (by decide +kernel) (by decide +kernel)
theorem ml_X5_32 : xWd (.methodLink RX5 32 arraycopyName) := xWd.at (i := 314) (by decide +kernel) (by decide +kernel)
theorem sm_arraycopyName : xWd (.static arraycopyName) := xWd.at (i := 315) (by decide +kernel) (by decide +kernel)
theorem nm_arraycopyName : xWd (.native arraycopyName) := xWd.at (i := 316) (by decide +kernel) (by decide +kernel)
theorem ml_X1_29 : xWd (.methodLink RX1 29 yJ9_min_7cf53) := xWd.at (i := 317) (by decide +kernel) (by decide +kernel)
theorem sm_yJ9_min_7cf53 : xWd (.static yJ9_min_7cf53) := xWd.at (i := 318) (by decide +kernel) (by decide +kernel)
theorem ml_X7_87 : xWd (.methodLink RX7 87 yX5_add) := xWd.at (i := 320) (by decide +kernel) (by decide +kernel)
theorem im_yX5_add : xWd (.instanceMethod yX5_add) := xWd.at (i := 321) (by decide +kernel) (by decide +kernel)
theorem ml_L_23 : xWd (.methodLink RL 23 yX7_told) := xWd.at (i := 324) (by decide +kernel) (by decide +kernel)
theorem im_yX7_told : xWd (.instanceMethod yX7_told) := xWd.at (i := 325) (by decide +kernel) (by decide +kernel)
theorem ml_X7_94 : xWd (.methodLink RX7 94 yX7_nodeCount) := xWd.at (i := 328) (by decide +kernel) (by decide +kernel)
theorem im_yX7_nodeCount : xWd (.instanceMethod yX7_nodeCount) := xWd.at (i := 330) (by decide +kernel) (by decide +kernel)
theorem ml_X7_98 : xWd (.methodLink RX7 98 yX7_likeTyped) := xWd.at (i := 332) (by decide +kernel) (by decide +kernel)
theorem im_yX7_likeTyped : xWd (.instanceMethod yX7_likeTyped) := xWd.at (i := 334) (by decide +kernel) (by decide +kernel)
theorem ml_X7_149 : xWd (.methodLink RX7 149 yX4_lineUp) := xWd.at (i := 336) (by decide +kernel) (by decide +kernel)
theorem im_yX4_lineUp : xWd (.instanceMethod yX4_lineUp) := xWd.at (i := 337) (by decide +kernel) (by decide +kernel)
theorem ml_X4_40 : xWd (.methodLink RX4 40 yX4_spell) := xWd.at (i := 340) (by decide +kernel) (by decide +kernel)
theorem sm_yX4_spell : xWd (.static yX4_spell) := xWd.at (i := 341) (by decide +kernel) (by decide +kernel)
theorem ml_X4_73 : xWd (.methodLinkNest RX4 73 yX7_lengthOf "TaleTypes") := xWd.at (i := 343) (by decide +kernel) (by decide +kernel)
theorem ml_X4_77 : xWd (.methodLink RX4 77 yJ9_min_7cf53) := xWd.at (i := 344) (by decide +kernel) (by decide +kernel)
theorem ml_X4_82 : xWd (.methodLinkNest RX4 82 yX7_motifOf "TaleTypes") := xWd.at (i := 345) (by decide +kernel) (by decide +kernel)
theorem sm_yX7_motifOf : xWd (.static yX7_motifOf) := xWd.at (i := 346) (by decide +kernel) (by decide +kernel)
theorem ml_X4_44 : xWd (.methodLink RX4 44 arraycopyName) := xWd.at (i := 348) (by decide +kernel) (by decide +kernel)
theorem ml_X4_50 : xWd (.methodLink RX4 50 yX4_leastFrom) := xWd.at (i := 349) (by decide +kernel) (by decide +kernel)
theorem im_yX4_leastFrom : xWd (.instanceMethod yX4_leastFrom) := xWd.at (i := 351) (by decide +kernel) (by decide +kernel)
theorem kc_X4_86 : xWd (.constant RX4 86 (1000000)) := xWd.at (i := 353) (by decide +kernel) (by decide +kernel)
theorem ml_X4_87 : xWd (.methodLink RX4 87 yX4_sumThrough) := xWd.at (i := 354) (by decide +kernel) (by decide +kernel)
theorem im_yX4_sumThrough : xWd (.instanceMethod yX4_sumThrough) := xWd.at (i := 356) (by decide +kernel) (by decide +kernel)
theorem fl_X4_60 : xFl RX4 60 "TaleTypes$Lineup" "OF_FIRST" "[I" := Or.inl (xWd.at (i := 358) (by decide +kernel) (by decide +kernel))
theorem fw_X4_60 : xWd (.fieldLink RX4 60 "TaleTypes$Lineup" "OF_FIRST" "[I") := xWd.at (i := 358) (by decide +kernel) (by decide +kernel)
theorem fl_X4_63 : xFl RX4 63 "TaleTypes$Lineup" "OF_OTHER" "[I" := Or.inl (xWd.at (i := 360) (by decide +kernel) (by decide +kernel))
theorem fw_X4_63 : xWd (.fieldLink RX4 63 "TaleTypes$Lineup" "OF_OTHER" "[I") := xWd.at (i := 360) (by decide +kernel) (by decide +kernel)
theorem ml_X4_91 : xWd (.methodLink RX4 91 yJ9_abs_0f7a4) := xWd.at (i := 362) (by decide +kernel) (by decide +kernel)
theorem sm_yJ9_abs_0f7a4 : xWd (.static yJ9_abs_0f7a4) := xWd.at (i := 363) (by decide +kernel) (by decide +kernel)
theorem ml_X4_95 : xWd (.methodLink RX4 95 yX4_isTurned) := xWd.at (i := 365) (by decide +kernel) (by decide +kernel)
theorem im_yX4_isTurned : xWd (.instanceMethod yX4_isTurned) := xWd.at (i := 367) (by decide +kernel) (by decide +kernel)
theorem ml_X7_153 : xWd (.methodLink RX7 153 yX4_apart) := xWd.at (i := 369) (by decide +kernel) (by decide +kernel)
theorem im_yX4_apart : xWd (.instanceMethod yX4_apart) := xWd.at (i := 370) (by decide +kernel) (by decide +kernel)
theorem ml_X7_101 : xWd (.methodLink RX7 101 yX7_allTales) := xWd.at (i := 373) (by decide +kernel) (by decide +kernel)
theorem im_yX7_allTales : xWd (.instanceMethod yX7_allTales) := xWd.at (i := 375) (by decide +kernel) (by decide +kernel)
theorem ml_X7_104 : xWd (.methodLink RX7 104 yX5_motifsOfAll) := xWd.at (i := 377) (by decide +kernel) (by decide +kernel)
theorem im_yX5_motifsOfAll : xWd (.instanceMethod yX5_motifsOfAll) := xWd.at (i := 378) (by decide +kernel) (by decide +kernel)
theorem ml_X5_44 : xWd (.methodLinkNest RX5 44 yX7_motifsOf "TaleTypes") := xWd.at (i := 381) (by decide +kernel) (by decide +kernel)
theorem sm_yX7_motifsOf : xWd (.static yX7_motifsOf) := xWd.at (i := 382) (by decide +kernel) (by decide +kernel)
theorem ml_X7_142 : xWd (.methodLink RX7 142 yX7_motifOf) := xWd.at (i := 384) (by decide +kernel) (by decide +kernel)
theorem ml_X7_111 : xWd (.methodLink RX7 111 yX7_measureAnew) := xWd.at (i := 385) (by decide +kernel) (by decide +kernel)
theorem im_yX7_measureAnew : xWd (.instanceMethod yX7_measureAnew) := xWd.at (i := 387) (by decide +kernel) (by decide +kernel)
theorem ml_X7_233 : xWd (.methodLink RX7 233 yX2_measure) := xWd.at (i := 389) (by decide +kernel) (by decide +kernel)
theorem im_yX2_measure : xWd (.instanceMethod yX2_measure) := xWd.at (i := 390) (by decide +kernel) (by decide +kernel)
theorem ml_X2_28 : xWd (.methodLink RX2 28 yX4_lineUp) := xWd.at (i := 393) (by decide +kernel) (by decide +kernel)
theorem ml_X2_34 : xWd (.methodLink RX2 34 yX4_apart) := xWd.at (i := 394) (by decide +kernel) (by decide +kernel)
theorem ml_X7_237 : xWd (.methodLink RX7 237 yX6_grow) := xWd.at (i := 395) (by decide +kernel) (by decide +kernel)
theorem im_yX6_grow : xWd (.instanceMethod yX6_grow) := xWd.at (i := 396) (by decide +kernel) (by decide +kernel)
theorem ml_X6_46 : xWd (.methodLink RX6 46 yX6_findNearest) := xWd.at (i := 399) (by decide +kernel) (by decide +kernel)
theorem im_yX6_findNearest : xWd (.instanceMethod yX6_findNearest) := xWd.at (i := 401) (by decide +kernel) (by decide +kernel)
theorem ml_X6_58 : xWd (.methodLink RX6 58 yX6_compareTypes) := xWd.at (i := 403) (by decide +kernel) (by decide +kernel)
theorem im_yX6_compareTypes : xWd (.instanceMethod yX6_compareTypes) := xWd.at (i := 405) (by decide +kernel) (by decide +kernel)
theorem kc_X6_62 : xWd (.constant RX6 62 (1000000)) := xWd.at (i := 407) (by decide +kernel) (by decide +kernel)
theorem ml_X6_63 : xWd (.methodLink RX6 63 yX2_between) := xWd.at (i := 408) (by decide +kernel) (by decide +kernel)
theorem im_yX2_between : xWd (.instanceMethod yX2_between) := xWd.at (i := 409) (by decide +kernel) (by decide +kernel)
theorem ml_X6_69 : xWd (.methodLink RX6 69 yJ9_min_7cf53) := xWd.at (i := 412) (by decide +kernel) (by decide +kernel)
theorem ml_X6_74 : xWd (.methodLink RX6 74 yJ9_max_7cf53) := xWd.at (i := 413) (by decide +kernel) (by decide +kernel)
theorem sm_yJ9_max_7cf53 : xWd (.static yJ9_max_7cf53) := xWd.at (i := 414) (by decide +kernel) (by decide +kernel)
theorem ml_X6_77 : xWd (.methodLink RX6 77 yJ6_bitCount_0f7a4) := xWd.at (i := 416) (by decide +kernel) (by decide +kernel)
theorem sm_yJ6_bitCount_0f7a4 : xWd (.static yJ6_bitCount_0f7a4) := xWd.at (i := 417) (by decide +kernel) (by decide +kernel)
theorem kc_J6_265 : xWd (.constant RJ6 265 (1431655765)) := xWd.at (i := 419) (by decide +kernel) (by decide +kernel)
theorem kc_J6_266 : xWd (.constant RJ6 266 (858993459)) := xWd.at (i := 420) (by decide +kernel) (by decide +kernel)
theorem kc_J6_267 : xWd (.constant RJ6 267 (252645135)) := xWd.at (i := 421) (by decide +kernel) (by decide +kernel)
theorem ml_X6_50 : xWd (.methodLink RX6 50 yX6_joinNearest) := xWd.at (i := 422) (by decide +kernel) (by decide +kernel)
theorem im_yX6_joinNearest : xWd (.instanceMethod yX6_joinNearest) := xWd.at (i := 424) (by decide +kernel) (by decide +kernel)
theorem ml_X7_114 : xWd (.methodLink RX7 114 yX0_firstOtherwise) := xWd.at (i := 426) (by decide +kernel) (by decide +kernel)
theorem im_yX0_firstOtherwise : xWd (.instanceMethod yX0_firstOtherwise) := xWd.at (i := 427) (by decide +kernel) (by decide +kernel)
theorem ml_X0_25 : xWd (.methodLink RX0 25 yX2_between) := xWd.at (i := 430) (by decide +kernel) (by decide +kernel)
theorem ml_L_27 : xWd (.methodLink RL 27 yX7_taleAt) := xWd.at (i := 431) (by decide +kernel) (by decide +kernel)
theorem im_yX7_taleAt : xWd (.instanceMethod yX7_taleAt) := xWd.at (i := 432) (by decide +kernel) (by decide +kernel)
theorem ml_X7_119 : xWd (.methodLink RX7 119 yX7_isTale) := xWd.at (i := 435) (by decide +kernel) (by decide +kernel)
theorem im_yX7_isTale : xWd (.instanceMethod yX7_isTale) := xWd.at (i := 437) (by decide +kernel) (by decide +kernel)
theorem kc_X7_123 : xWd (.constant RX7 123 (-1000000001)) := xWd.at (i := 439) (by decide +kernel) (by decide +kernel)
theorem ml_X7_135 : xWd (.methodLink RX7 135 yX7_hull) := xWd.at (i := 440) (by decide +kernel) (by decide +kernel)
theorem sm_yX7_hull : xWd (.static yX7_hull) := xWd.at (i := 441) (by decide +kernel) (by decide +kernel)
theorem ml_X7_253 : xWd (.methodLink RX7 253 yJ6_bitCount_0f7a4) := xWd.at (i := 443) (by decide +kernel) (by decide +kernel)
theorem ml_X7_258 : xWd (.methodLink RX7 258 yX7_hangTogether) := xWd.at (i := 444) (by decide +kernel) (by decide +kernel)
theorem sm_yX7_hangTogether : xWd (.static yX7_hangTogether) := xWd.at (i := 445) (by decide +kernel) (by decide +kernel)
theorem ml_X7_139 : xWd (.methodLink RX7 139 yX7_roadsOf) := xWd.at (i := 447) (by decide +kernel) (by decide +kernel)
theorem sm_yX7_roadsOf : xWd (.static yX7_roadsOf) := xWd.at (i := 448) (by decide +kernel) (by decide +kernel)
theorem ml_L_32 : xWd (.methodLink RL 32 yX7_motif) := xWd.at (i := 450) (by decide +kernel) (by decide +kernel)
theorem im_yX7_motif : xWd (.instanceMethod yX7_motif) := xWd.at (i := 451) (by decide +kernel) (by decide +kernel)
theorem ml_L_36 : xWd (.methodLink RL 36 yX7_costAt) := xWd.at (i := 454) (by decide +kernel) (by decide +kernel)
theorem im_yX7_costAt : xWd (.instanceMethod yX7_costAt) := xWd.at (i := 455) (by decide +kernel) (by decide +kernel)
theorem ml_L_40 : xWd (.methodLink RL 40 yX7_pair) := xWd.at (i := 458) (by decide +kernel) (by decide +kernel)
theorem im_yX7_pair : xWd (.instanceMethod yX7_pair) := xWd.at (i := 459) (by decide +kernel) (by decide +kernel)
theorem ml_X7_156 : xWd (.methodLink RX7 156 yX4_ways) := xWd.at (i := 462) (by decide +kernel) (by decide +kernel)
theorem im_yX4_ways : xWd (.instanceMethod yX4_ways) := xWd.at (i := 463) (by decide +kernel) (by decide +kernel)
theorem ml_X4_54 : xWd (.methodLink RX4 54 yX4_rowsFrom) := xWd.at (i := 466) (by decide +kernel) (by decide +kernel)
theorem im_yX4_rowsFrom : xWd (.instanceMethod yX4_rowsFrom) := xWd.at (i := 468) (by decide +kernel) (by decide +kernel)
theorem ml_X7_159 : xWd (.methodLink RX7 159 yX4_wayLength) := xWd.at (i := 470) (by decide +kernel) (by decide +kernel)
theorem im_yX4_wayLength : xWd (.instanceMethod yX4_wayLength) := xWd.at (i := 471) (by decide +kernel) (by decide +kernel)
theorem ml_X4_57 : xWd (.methodLink RX4 57 yX4_leastStep) := xWd.at (i := 474) (by decide +kernel) (by decide +kernel)
theorem im_yX4_leastStep : xWd (.instanceMethod yX4_leastStep) := xWd.at (i := 476) (by decide +kernel) (by decide +kernel)
theorem ml_X7_162 : xWd (.methodLink RX7 162 yX4_commonLength) := xWd.at (i := 478) (by decide +kernel) (by decide +kernel)
theorem im_yX4_commonLength : xWd (.instanceMethod yX4_commonLength) := xWd.at (i := 479) (by decide +kernel) (by decide +kernel)
theorem ml_X4_70 : xWd (.methodLink RX4 70 yX4_sharedFrom) := xWd.at (i := 482) (by decide +kernel) (by decide +kernel)
theorem im_yX4_sharedFrom : xWd (.instanceMethod yX4_sharedFrom) := xWd.at (i := 484) (by decide +kernel) (by decide +kernel)
theorem ml_X4_99 : xWd (.methodLink RX4 99 yJ9_max_7cf53) := xWd.at (i := 486) (by decide +kernel) (by decide +kernel)
theorem ml_L_45 : xWd (.methodLink RL 45 yX7_step) := xWd.at (i := 487) (by decide +kernel) (by decide +kernel)
theorem im_yX7_step : xWd (.instanceMethod yX7_step) := xWd.at (i := 488) (by decide +kernel) (by decide +kernel)
theorem ml_X7_165 : xWd (.methodLink RX7 165 yX4_stepOfWay) := xWd.at (i := 491) (by decide +kernel) (by decide +kernel)
theorem im_yX4_stepOfWay : xWd (.instanceMethod yX4_stepOfWay) := xWd.at (i := 492) (by decide +kernel) (by decide +kernel)
theorem ml_X4_66 : xWd (.methodLink RX4 66 yX4_wayLength) := xWd.at (i := 495) (by decide +kernel) (by decide +kernel)
theorem ml_L_49 : xWd (.methodLink RL 49 yX7_node) := xWd.at (i := 496) (by decide +kernel) (by decide +kernel)
theorem im_yX7_node : xWd (.instanceMethod yX7_node) := xWd.at (i := 497) (by decide +kernel) (by decide +kernel)
theorem ml_X7_177 : xWd (.methodLink RX7 177 yX2_middleOf) := xWd.at (i := 500) (by decide +kernel) (by decide +kernel)
theorem im_yX2_middleOf : xWd (.instanceMethod yX2_middleOf) := xWd.at (i := 501) (by decide +kernel) (by decide +kernel)
theorem ml_X2_37 : xWd (.methodLink RX2 37 yX2_sumTo) := xWd.at (i := 504) (by decide +kernel) (by decide +kernel)
theorem im_yX2_sumTo : xWd (.instanceMethod yX2_sumTo) := xWd.at (i := 506) (by decide +kernel) (by decide +kernel)
theorem ml_X2_41 : xWd (.methodLink RX2 41 yX2_between) := xWd.at (i := 508) (by decide +kernel) (by decide +kernel)
theorem ml_L_53 : xWd (.methodLink RL 53 yX7_types) := xWd.at (i := 509) (by decide +kernel) (by decide +kernel)
theorem im_yX7_types : xWd (.instanceMethod yX7_types) := xWd.at (i := 510) (by decide +kernel) (by decide +kernel)
theorem ml_X7_180 : xWd (.methodLink RX7 180 yX6_nodesUpTo) := xWd.at (i := 513) (by decide +kernel) (by decide +kernel)
theorem im_yX6_nodesUpTo : xWd (.instanceMethod yX6_nodesUpTo) := xWd.at (i := 514) (by decide +kernel) (by decide +kernel)
theorem ml_X7_183 : xWd (.methodLink RX7 183 yX6_typeOf) := xWd.at (i := 517) (by decide +kernel) (by decide +kernel)
theorem im_yX6_typeOf : xWd (.instanceMethod yX6_typeOf) := xWd.at (i := 518) (by decide +kernel) (by decide +kernel)
theorem ml_X6_54 : xWd (.methodLink RX6 54 yX6_nodesUpTo) := xWd.at (i := 521) (by decide +kernel) (by decide +kernel)
theorem ml_L_57 : xWd (.methodLink RL 57 yX7_middle) := xWd.at (i := 522) (by decide +kernel) (by decide +kernel)
theorem im_yX7_middle : xWd (.instanceMethod yX7_middle) := xWd.at (i := 523) (by decide +kernel) (by decide +kernel)
theorem ml_X7_187 : xWd (.methodLink RX7 187 yX7_areTales) := xWd.at (i := 526) (by decide +kernel) (by decide +kernel)
theorem im_yX7_areTales : xWd (.instanceMethod yX7_areTales) := xWd.at (i := 528) (by decide +kernel) (by decide +kernel)
theorem ml_L_61 : xWd (.methodLink RL 61 yX7_common) := xWd.at (i := 530) (by decide +kernel) (by decide +kernel)
theorem im_yX7_common : xWd (.instanceMethod yX7_common) := xWd.at (i := 531) (by decide +kernel) (by decide +kernel)
theorem ml_L_65 : xWd (.methodLink RL 65 yX7_wandered) := xWd.at (i := 534) (by decide +kernel) (by decide +kernel)
theorem im_yX7_wandered : xWd (.instanceMethod yX7_wandered) := xWd.at (i := 535) (by decide +kernel) (by decide +kernel)
theorem ml_X7_190 : xWd (.methodLink RX7 190 yX7_arePlaces) := xWd.at (i := 538) (by decide +kernel) (by decide +kernel)
theorem sm_yX7_arePlaces : xWd (.static yX7_arePlaces) := xWd.at (i := 539) (by decide +kernel) (by decide +kernel)
theorem ml_L_69 : xWd (.methodLink RL 69 yX7_take) := xWd.at (i := 541) (by decide +kernel) (by decide +kernel)
theorem im_yX7_take : xWd (.instanceMethod yX7_take) := xWd.at (i := 542) (by decide +kernel) (by decide +kernel)
theorem ml_X7_193 : xWd (.methodLink RX7 193 yX5_remove) := xWd.at (i := 545) (by decide +kernel) (by decide +kernel)
theorem im_yX5_remove : xWd (.instanceMethod yX5_remove) := xWd.at (i := 546) (by decide +kernel) (by decide +kernel)
theorem ml_L_73 : xWd (.methodLink RL 73 yX7_cost) := xWd.at (i := 549) (by decide +kernel) (by decide +kernel)
theorem im_yX7_cost : xWd (.instanceMethod yX7_cost) := xWd.at (i := 550) (by decide +kernel) (by decide +kernel)
theorem ml_L_77 : xWd (.methodLink RL 77 yX7_kind) := xWd.at (i := 553) (by decide +kernel) (by decide +kernel)
theorem im_yX7_kind : xWd (.instanceMethod yX7_kind) := xWd.at (i := 554) (by decide +kernel) (by decide +kernel)
theorem ml_L_81 : xWd (.methodLink RL 81 yX7_road) := xWd.at (i := 557) (by decide +kernel) (by decide +kernel)
theorem im_yX7_road : xWd (.instanceMethod yX7_road) := xWd.at (i := 558) (by decide +kernel) (by decide +kernel)
theorem ml_X7_197 : xWd (.methodLink RX7 197 yX7_isPlace) := xWd.at (i := 561) (by decide +kernel) (by decide +kernel)
theorem sm_yX7_isPlace : xWd (.static yX7_isPlace) := xWd.at (i := 562) (by decide +kernel) (by decide +kernel)
theorem ml_X7_200 : xWd (.methodLink RX7 200 yX5_setRoad) := xWd.at (i := 564) (by decide +kernel) (by decide +kernel)
theorem im_yX5_setRoad : xWd (.instanceMethod yX5_setRoad) := xWd.at (i := 565) (by decide +kernel) (by decide +kernel)
theorem ml_X7_204 : xWd (.methodLink RX7 204 yX5_countRoads) := xWd.at (i := 568) (by decide +kernel) (by decide +kernel)
theorem im_yX5_countRoads : xWd (.instanceMethod yX5_countRoads) := xWd.at (i := 569) (by decide +kernel) (by decide +kernel)
theorem ml_X5_38 : xWd (.methodLink RX5 38 yJ6_bitCount_0f7a4) := xWd.at (i := 572) (by decide +kernel) (by decide +kernel)
theorem ml_L_86 : xWd (.methodLink RL 86 yX7_at) := xWd.at (i := 573) (by decide +kernel) (by decide +kernel)
theorem im_yX7_at : xWd (.instanceMethod yX7_at) := xWd.at (i := 574) (by decide +kernel) (by decide +kernel)
theorem ml_L_90 : xWd (.methodLink RL 90 yX7_drift) := xWd.at (i := 577) (by decide +kernel) (by decide +kernel)
theorem im_yX7_drift : xWd (.instanceMethod yX7_drift) := xWd.at (i := 578) (by decide +kernel) (by decide +kernel)
theorem ml_X7_207 : xWd (.methodLink RX7 207 yX7_addDrawn) := xWd.at (i := 581) (by decide +kernel) (by decide +kernel)
theorem im_yX7_addDrawn : xWd (.instanceMethod yX7_addDrawn) := xWd.at (i := 583) (by decide +kernel) (by decide +kernel)
theorem ml_X7_241 : xWd (.methodLink RX7 241 yX7_draw) := xWd.at (i := 585) (by decide +kernel) (by decide +kernel)
theorem im_yX7_draw : xWd (.instanceMethod yX7_draw) := xWd.at (i := 587) (by decide +kernel) (by decide +kernel)
theorem kl_X7_244 : xWd (.constantLong RX7 244 (1103515245)) := xWd.at (i := 589) (by decide +kernel) (by decide +kernel)
theorem kl_X7_246 : xWd (.constantLong RX7 246 (12345)) := xWd.at (i := 590) (by decide +kernel) (by decide +kernel)
theorem kl_X7_248 : xWd (.constantLong RX7 248 (2147483647)) := xWd.at (i := 591) (by decide +kernel) (by decide +kernel)
theorem kc_X7_250 : xWd (.constant RX7 250 (65536)) := xWd.at (i := 592) (by decide +kernel) (by decide +kernel)
theorem ml_L_94 : xWd (.methodLink RL 94 yX7_undo) := xWd.at (i := 593) (by decide +kernel) (by decide +kernel)
theorem im_yX7_undo : xWd (.instanceMethod yX7_undo) := xWd.at (i := 594) (by decide +kernel) (by decide +kernel)
theorem ml_X7_210 : xWd (.methodLink RX7 210 yX1_takeBack) := xWd.at (i := 597) (by decide +kernel) (by decide +kernel)
theorem im_yX1_takeBack : xWd (.instanceMethod yX1_takeBack) := xWd.at (i := 598) (by decide +kernel) (by decide +kernel)
theorem ml_L_98 : xWd (.methodLink RL 98 yX7_write) := xWd.at (i := 601) (by decide +kernel) (by decide +kernel)
theorem im_yX7_write : xWd (.instanceMethod yX7_write) := xWd.at (i := 602) (by decide +kernel) (by decide +kernel)
theorem ml_X7_214 : xWd (.methodLink RX7 214 yX0_add) := xWd.at (i := 605) (by decide +kernel) (by decide +kernel)
theorem im_yX0_add : xWd (.instanceMethod yX0_add) := xWd.at (i := 606) (by decide +kernel) (by decide +kernel)
theorem ml_L_102 : xWd (.methodLink RL 102 yX7_tear) := xWd.at (i := 609) (by decide +kernel) (by decide +kernel)
theorem im_yX7_tear : xWd (.instanceMethod yX7_tear) := xWd.at (i := 610) (by decide +kernel) (by decide +kernel)
theorem ml_L_106 : xWd (.methodLink RL 106 yX7_seed) := xWd.at (i := 613) (by decide +kernel) (by decide +kernel)
theorem im_yX7_seed : xWd (.instanceMethod yX7_seed) := xWd.at (i := 614) (by decide +kernel) (by decide +kernel)
theorem ml_L_110 : xWd (.methodLink RL 110 yX7_keep) := xWd.at (i := 617) (by decide +kernel) (by decide +kernel)
theorem im_yX7_keep : xWd (.instanceMethod yX7_keep) := xWd.at (i := 618) (by decide +kernel) (by decide +kernel)
theorem ml_X7_220 : xWd (.methodLink RX7 220 yX5_become) := xWd.at (i := 621) (by decide +kernel) (by decide +kernel)
theorem ml_L_114 : xWd (.methodLink RL 114 yX7_goBack) := xWd.at (i := 622) (by decide +kernel) (by decide +kernel)
theorem im_yX7_goBack : xWd (.instanceMethod yX7_goBack) := xWd.at (i := 623) (by decide +kernel) (by decide +kernel)
theorem kk_L_10 : xWd (.classLink RL 10 "TaleTypesModel") := xWd.at (i := 626) (by decide +kernel) (by decide +kernel)
theorem in_RX8 : xWd (.instantiable RX8 24) := xWd.at (i := 627) (by decide +kernel) (by decide +kernel)
theorem ml_L_12 : xWd (.methodLink RL 12 yX8_init) := xWd.at (i := 628) (by decide +kernel) (by decide +kernel)
theorem im_yX8_init : xWd (.instanceMethod yX8_init) := xWd.at (i := 629) (by decide +kernel) (by decide +kernel)
theorem ml_X8_1 : xWd (.methodLink RX8 1 Lib.objectInit) := xWd.at (i := 631) (by decide +kernel) (by decide +kernel)
theorem fl_X8_7 : xFl RX8 7 "TaleTypesModel" "st" "[I" := Or.inl (xWd.at (i := 632) (by decide +kernel) (by decide +kernel))
theorem fw_X8_7 : xWd (.fieldLink RX8 7 "TaleTypesModel" "st" "[I") := xWd.at (i := 632) (by decide +kernel) (by decide +kernel)
theorem fl_X8_13 : xFl RX8 13 "TaleTypesModel" "past" "[I" := Or.inl (xWd.at (i := 633) (by decide +kernel) (by decide +kernel))
theorem fw_X8_13 : xWd (.fieldLink RX8 13 "TaleTypesModel" "past" "[I") := xWd.at (i := 633) (by decide +kernel) (by decide +kernel)
theorem fl_X8_161 : xFl RX8 161 "TaleTypesModel" "deeds" "I" := Or.inl (xWd.at (i := 634) (by decide +kernel) (by decide +kernel))
theorem fw_X8_161 : xWd (.fieldLink RX8 161 "TaleTypesModel" "deeds" "I") := xWd.at (i := 634) (by decide +kernel) (by decide +kernel)
theorem fl_X8_16 : xFl RX8 16 "TaleTypesModel" "images" "[I" := Or.inl (xWd.at (i := 635) (by decide +kernel) (by decide +kernel))
theorem fw_X8_16 : xWd (.fieldLink RX8 16 "TaleTypesModel" "images" "[I") := xWd.at (i := 635) (by decide +kernel) (by decide +kernel)
theorem fl_X8_19 : xFl RX8 19 "TaleTypesModel" "isKept" "[Z" := Or.inl (xWd.at (i := 636) (by decide +kernel) (by decide +kernel))
theorem fw_X8_19 : xWd (.fieldLink RX8 19 "TaleTypesModel" "isKept" "[Z") := xWd.at (i := 636) (by decide +kernel) (by decide +kernel)
theorem fl_X8_23 : xFl RX8 23 "TaleTypesModel" "typed" "[I" := Or.inl (xWd.at (i := 637) (by decide +kernel) (by decide +kernel))
theorem fw_X8_23 : xWd (.fieldLink RX8 23 "TaleTypesModel" "typed" "[I") := xWd.at (i := 637) (by decide +kernel) (by decide +kernel)
theorem fl_X8_149 : xFl RX8 149 "TaleTypesModel" "typedMany" "I" := Or.inl (xWd.at (i := 638) (by decide +kernel) (by decide +kernel))
theorem fw_X8_149 : xWd (.fieldLink RX8 149 "TaleTypesModel" "typedMany" "I") := xWd.at (i := 638) (by decide +kernel) (by decide +kernel)
theorem fl_X8_26 : xFl RX8 26 "TaleTypesModel" "book" "[I" := Or.inl (xWd.at (i := 639) (by decide +kernel) (by decide +kernel))
theorem fw_X8_26 : xWd (.fieldLink RX8 26 "TaleTypesModel" "book" "[I") := xWd.at (i := 639) (by decide +kernel) (by decide +kernel)
theorem fl_X8_168 : xFl RX8 168 "TaleTypesModel" "entries" "I" := Or.inl (xWd.at (i := 640) (by decide +kernel) (by decide +kernel))
theorem fw_X8_168 : xWd (.fieldLink RX8 168 "TaleTypesModel" "entries" "I") := xWd.at (i := 640) (by decide +kernel) (by decide +kernel)
theorem fl_X8_205 : xFl RX8 205 "TaleTypesModel" "seed" "I" := Or.inl (xWd.at (i := 641) (by decide +kernel) (by decide +kernel))
theorem fw_X8_205 : xWd (.fieldLink RX8 205 "TaleTypesModel" "seed" "I") := xWd.at (i := 641) (by decide +kernel) (by decide +kernel)
theorem fl_X8_29 : xFl RX8 29 "TaleTypesModel" "one" "[I" := Or.inl (xWd.at (i := 642) (by decide +kernel) (by decide +kernel))
theorem fw_X8_29 : xWd (.fieldLink RX8 29 "TaleTypesModel" "one" "[I") := xWd.at (i := 642) (by decide +kernel) (by decide +kernel)
theorem fl_X8_66 : xFl RX8 66 "TaleTypesModel" "oneMany" "I" := Or.inl (xWd.at (i := 643) (by decide +kernel) (by decide +kernel))
theorem fw_X8_66 : xWd (.fieldLink RX8 66 "TaleTypesModel" "oneMany" "I") := xWd.at (i := 643) (by decide +kernel) (by decide +kernel)
theorem fl_X8_32 : xFl RX8 32 "TaleTypesModel" "other" "[I" := Or.inl (xWd.at (i := 644) (by decide +kernel) (by decide +kernel))
theorem fw_X8_32 : xWd (.fieldLink RX8 32 "TaleTypesModel" "other" "[I") := xWd.at (i := 644) (by decide +kernel) (by decide +kernel)
theorem fl_X8_70 : xFl RX8 70 "TaleTypesModel" "otherMany" "I" := Or.inl (xWd.at (i := 645) (by decide +kernel) (by decide +kernel))
theorem fw_X8_70 : xWd (.fieldLink RX8 70 "TaleTypesModel" "otherMany" "I") := xWd.at (i := 645) (by decide +kernel) (by decide +kernel)
theorem fl_X8_35 : xFl RX8 35 "TaleTypesModel" "sums" "[I" := Or.inl (xWd.at (i := 646) (by decide +kernel) (by decide +kernel))
theorem fw_X8_35 : xWd (.fieldLink RX8 35 "TaleTypesModel" "sums" "[I") := xWd.at (i := 646) (by decide +kernel) (by decide +kernel)
theorem fl_X8_38 : xFl RX8 38 "TaleTypesModel" "ways" "[I" := Or.inl (xWd.at (i := 647) (by decide +kernel) (by decide +kernel))
theorem fw_X8_38 : xWd (.fieldLink RX8 38 "TaleTypesModel" "ways" "[I") := xWd.at (i := 647) (by decide +kernel) (by decide +kernel)
theorem fl_X8_41 : xFl RX8 41 "TaleTypesModel" "way" "[I" := Or.inl (xWd.at (i := 648) (by decide +kernel) (by decide +kernel))
theorem fw_X8_41 : xWd (.fieldLink RX8 41 "TaleTypesModel" "way" "[I") := xWd.at (i := 648) (by decide +kernel) (by decide +kernel)
theorem fl_X8_44 : xFl RX8 44 "TaleTypesModel" "inBoth" "[I" := Or.inl (xWd.at (i := 649) (by decide +kernel) (by decide +kernel))
theorem fw_X8_44 : xWd (.fieldLink RX8 44 "TaleTypesModel" "inBoth" "[I") := xWd.at (i := 649) (by decide +kernel) (by decide +kernel)
theorem fl_X8_47 : xFl RX8 47 "TaleTypesModel" "far" "[I" := Or.inl (xWd.at (i := 650) (by decide +kernel) (by decide +kernel))
theorem fw_X8_47 : xWd (.fieldLink RX8 47 "TaleTypesModel" "far" "[I") := xWd.at (i := 650) (by decide +kernel) (by decide +kernel)
theorem fl_X8_50 : xFl RX8 50 "TaleTypesModel" "typeSets" "[I" := Or.inl (xWd.at (i := 651) (by decide +kernel) (by decide +kernel))
theorem fw_X8_50 : xWd (.fieldLink RX8 50 "TaleTypesModel" "typeSets" "[I") := xWd.at (i := 651) (by decide +kernel) (by decide +kernel)
theorem fl_X8_124 : xFl RX8 124 "TaleTypesModel" "typesMany" "I" := Or.inl (xWd.at (i := 652) (by decide +kernel) (by decide +kernel))
theorem fw_X8_124 : xWd (.fieldLink RX8 124 "TaleTypesModel" "typesMany" "I") := xWd.at (i := 652) (by decide +kernel) (by decide +kernel)
theorem fl_X8_53 : xFl RX8 53 "TaleTypesModel" "nodes" "[I" := Or.inl (xWd.at (i := 653) (by decide +kernel) (by decide +kernel))
theorem fw_X8_53 : xWd (.fieldLink RX8 53 "TaleTypesModel" "nodes" "[I") := xWd.at (i := 653) (by decide +kernel) (by decide +kernel)
theorem fl_X8_56 : xFl RX8 56 "TaleTypesModel" "firsts" "[I" := Or.inl (xWd.at (i := 654) (by decide +kernel) (by decide +kernel))
theorem fw_X8_56 : xWd (.fieldLink RX8 56 "TaleTypesModel" "firsts" "[I") := xWd.at (i := 654) (by decide +kernel) (by decide +kernel)
theorem fl_X8_59 : xFl RX8 59 "TaleTypesModel" "heights" "[I" := Or.inl (xWd.at (i := 655) (by decide +kernel) (by decide +kernel))
theorem fw_X8_59 : xWd (.fieldLink RX8 59 "TaleTypesModel" "heights" "[I") := xWd.at (i := 655) (by decide +kernel) (by decide +kernel)
theorem ac_Jvm_ClassFile_FieldType_boolean : xWd (.arrayClass Jvm.ClassFile.FieldType.boolean) := xWd.at (i := 705) (by decide +kernel) (by decide +kernel)
theorem ml_L_17 : xWd (.methodLink RL 17 yX8_feed) := xWd.at (i := 706) (by decide +kernel) (by decide +kernel)
theorem im_yX8_feed : xWd (.instanceMethod yX8_feed) := xWd.at (i := 707) (by decide +kernel) (by decide +kernel)
theorem ml_X8_62 : xWd (.methodLink RX8 62 yX8_in) := xWd.at (i := 710) (by decide +kernel) (by decide +kernel)
theorem sm_yX8_in : xWd (.static yX8_in) := xWd.at (i := 711) (by decide +kernel) (by decide +kernel)
theorem kc_X8_159 : xWd (.constant RX8 159 (-1000000002)) := xWd.at (i := 713) (by decide +kernel) (by decide +kernel)
theorem kc_X8_160 : xWd (.constant RX8 160 (-1000000004)) := xWd.at (i := 714) (by decide +kernel) (by decide +kernel)
theorem ml_L_22 : xWd (.methodLink RL 22 yX8_tale) := xWd.at (i := 715) (by decide +kernel) (by decide +kernel)
theorem im_yX8_tale : xWd (.instanceMethod yX8_tale) := xWd.at (i := 716) (by decide +kernel) (by decide +kernel)
theorem kc_X8_164 : xWd (.constant RX8 164 (-1000000003)) := xWd.at (i := 719) (by decide +kernel) (by decide +kernel)
theorem ml_X8_165 : xWd (.methodLink RX8 165 yX8_notes) := xWd.at (i := 720) (by decide +kernel) (by decide +kernel)
theorem im_yX8_notes : xWd (.instanceMethod yX8_notes) := xWd.at (i := 722) (by decide +kernel) (by decide +kernel)
theorem ml_X8_73 : xWd (.methodLink RX8 73 yX8_bring) := xWd.at (i := 724) (by decide +kernel) (by decide +kernel)
theorem sm_yX8_bring : xWd (.static yX8_bring) := xWd.at (i := 725) (by decide +kernel) (by decide +kernel)
theorem ml_L_26 : xWd (.methodLink RL 26 yX8_told) := xWd.at (i := 727) (by decide +kernel) (by decide +kernel)
theorem im_yX8_told : xWd (.instanceMethod yX8_told) := xWd.at (i := 728) (by decide +kernel) (by decide +kernel)
theorem ml_X8_142 : xWd (.methodLink RX8 142 yX8_nodesMany) := xWd.at (i := 731) (by decide +kernel) (by decide +kernel)
theorem im_yX8_nodesMany : xWd (.instanceMethod yX8_nodesMany) := xWd.at (i := 733) (by decide +kernel) (by decide +kernel)
theorem ml_X8_174 : xWd (.methodLink RX8 174 yX8_likeTyped) := xWd.at (i := 735) (by decide +kernel) (by decide +kernel)
theorem im_yX8_likeTyped : xWd (.instanceMethod yX8_likeTyped) := xWd.at (i := 737) (by decide +kernel) (by decide +kernel)
theorem kc_X8_84 : xWd (.constant RX8 84 (100000)) := xWd.at (i := 739) (by decide +kernel) (by decide +kernel)
theorem ml_X8_103 : xWd (.methodLink RX8 103 yX8_takes) := xWd.at (i := 740) (by decide +kernel) (by decide +kernel)
theorem im_yX8_takes : xWd (.instanceMethod yX8_takes) := xWd.at (i := 742) (by decide +kernel) (by decide +kernel)
theorem ml_X8_107 : xWd (.methodLink RX8 107 yX8_linesUp) := xWd.at (i := 744) (by decide +kernel) (by decide +kernel)
theorem im_yX8_linesUp : xWd (.instanceMethod yX8_linesUp) := xWd.at (i := 746) (by decide +kernel) (by decide +kernel)
theorem ml_X8_89 : xWd (.methodLink RX8 89 yX8_stepCost) := xWd.at (i := 748) (by decide +kernel) (by decide +kernel)
theorem im_yX8_stepCost : xWd (.instanceMethod yX8_stepCost) := xWd.at (i := 750) (by decide +kernel) (by decide +kernel)
theorem ml_X8_81 : xWd (.methodLink RX8 81 yX8_changeOf) := xWd.at (i := 752) (by decide +kernel) (by decide +kernel)
theorem im_yX8_changeOf : xWd (.instanceMethod yX8_changeOf) := xWd.at (i := 754) (by decide +kernel) (by decide +kernel)
theorem ml_X8_77 : xWd (.methodLink RX8 77 yX8_lesser) := xWd.at (i := 756) (by decide +kernel) (by decide +kernel)
theorem sm_yX8_lesser : xWd (.static yX8_lesser) := xWd.at (i := 757) (by decide +kernel) (by decide +kernel)
theorem ml_X8_85 : xWd (.methodLink RX8 85 yX8_isTurned) := xWd.at (i := 759) (by decide +kernel) (by decide +kernel)
theorem im_yX8_isTurned : xWd (.instanceMethod yX8_isTurned) := xWd.at (i := 761) (by decide +kernel) (by decide +kernel)
theorem ml_X8_93 : xWd (.methodLink RX8 93 yX8_firstBy) := xWd.at (i := 763) (by decide +kernel) (by decide +kernel)
theorem sm_yX8_firstBy : xWd (.static yX8_firstBy) := xWd.at (i := 764) (by decide +kernel) (by decide +kernel)
theorem ml_X8_97 : xWd (.methodLink RX8 97 yX8_otherBy) := xWd.at (i := 766) (by decide +kernel) (by decide +kernel)
theorem sm_yX8_otherBy : xWd (.static yX8_otherBy) := xWd.at (i := 767) (by decide +kernel) (by decide +kernel)
theorem ml_X8_100 : xWd (.methodLink RX8 100 yX8_cellOf) := xWd.at (i := 769) (by decide +kernel) (by decide +kernel)
theorem sm_yX8_cellOf : xWd (.static yX8_cellOf) := xWd.at (i := 770) (by decide +kernel) (by decide +kernel)
theorem ml_X8_177 : xWd (.methodLink RX8 177 yX8_allHave) := xWd.at (i := 772) (by decide +kernel) (by decide +kernel)
theorem im_yX8_allHave : xWd (.instanceMethod yX8_allHave) := xWd.at (i := 774) (by decide +kernel) (by decide +kernel)
theorem ml_X8_118 : xWd (.methodLink RX8 118 yX8_has) := xWd.at (i := 776) (by decide +kernel) (by decide +kernel)
theorem sm_yX8_has : xWd (.static yX8_has) := xWd.at (i := 777) (by decide +kernel) (by decide +kernel)
theorem ml_X8_180 : xWd (.methodLink RX8 180 yX8_wrong) := xWd.at (i := 779) (by decide +kernel) (by decide +kernel)
theorem im_yX8_wrong : xWd (.instanceMethod yX8_wrong) := xWd.at (i := 781) (by decide +kernel) (by decide +kernel)
theorem ml_X8_171 : xWd (.methodLink RX8 171 yX8_isTale) := xWd.at (i := 783) (by decide +kernel) (by decide +kernel)
theorem im_yX8_isTale : xWd (.instanceMethod yX8_isTale) := xWd.at (i := 785) (by decide +kernel) (by decide +kernel)
theorem ml_X8_111 : xWd (.methodLink RX8 111 yX8_apart) := xWd.at (i := 787) (by decide +kernel) (by decide +kernel)
theorem im_yX8_apart : xWd (.instanceMethod yX8_apart) := xWd.at (i := 789) (by decide +kernel) (by decide +kernel)
theorem ml_L_31 : xWd (.methodLink RL 31 yX8_taleAt) := xWd.at (i := 791) (by decide +kernel) (by decide +kernel)
theorem im_yX8_taleAt : xWd (.instanceMethod yX8_taleAt) := xWd.at (i := 792) (by decide +kernel) (by decide +kernel)
theorem kc_X8_183 : xWd (.constant RX8 183 (-1000000001)) := xWd.at (i := 795) (by decide +kernel) (by decide +kernel)
theorem ml_X8_184 : xWd (.methodLink RX8 184 yX8_wanders) := xWd.at (i := 796) (by decide +kernel) (by decide +kernel)
theorem im_yX8_wanders : xWd (.instanceMethod yX8_wanders) := xWd.at (i := 798) (by decide +kernel) (by decide +kernel)
theorem ml_X8_156 : xWd (.methodLink RX8 156 yX8_over) := xWd.at (i := 800) (by decide +kernel) (by decide +kernel)
theorem im_yX8_over : xWd (.instanceMethod yX8_over) := xWd.at (i := 802) (by decide +kernel) (by decide +kernel)
theorem ml_X8_152 : xWd (.methodLink RX8 152 yX8_hangs) := xWd.at (i := 804) (by decide +kernel) (by decide +kernel)
theorem im_yX8_hangs : xWd (.instanceMethod yX8_hangs) := xWd.at (i := 806) (by decide +kernel) (by decide +kernel)
theorem ml_X8_121 : xWd (.methodLink RX8 121 yX8_ones) := xWd.at (i := 808) (by decide +kernel) (by decide +kernel)
theorem sm_yX8_ones : xWd (.static yX8_ones) := xWd.at (i := 809) (by decide +kernel) (by decide +kernel)
theorem ml_L_35 : xWd (.methodLink RL 35 yX8_motif) := xWd.at (i := 811) (by decide +kernel) (by decide +kernel)
theorem im_yX8_motif : xWd (.instanceMethod yX8_motif) := xWd.at (i := 812) (by decide +kernel) (by decide +kernel)
theorem ml_L_39 : xWd (.methodLink RL 39 yX8_costAt) := xWd.at (i := 815) (by decide +kernel) (by decide +kernel)
theorem im_yX8_costAt : xWd (.instanceMethod yX8_costAt) := xWd.at (i := 816) (by decide +kernel) (by decide +kernel)
theorem ml_L_44 : xWd (.methodLink RL 44 yX8_pair) := xWd.at (i := 819) (by decide +kernel) (by decide +kernel)
theorem im_yX8_pair : xWd (.instanceMethod yX8_pair) := xWd.at (i := 820) (by decide +kernel) (by decide +kernel)
theorem ml_X8_187 : xWd (.methodLink RX8 187 yX8_laysWay) := xWd.at (i := 823) (by decide +kernel) (by decide +kernel)
theorem im_yX8_laysWay : xWd (.instanceMethod yX8_laysWay) := xWd.at (i := 825) (by decide +kernel) (by decide +kernel)
theorem ml_X8_114 : xWd (.methodLink RX8 114 yX8_isOfLeast) := xWd.at (i := 827) (by decide +kernel) (by decide +kernel)
theorem im_yX8_isOfLeast : xWd (.instanceMethod yX8_isOfLeast) := xWd.at (i := 829) (by decide +kernel) (by decide +kernel)
theorem ml_X8_190 : xWd (.methodLink RX8 190 yX8_commonOrder) := xWd.at (i := 831) (by decide +kernel) (by decide +kernel)
theorem im_yX8_commonOrder : xWd (.instanceMethod yX8_commonOrder) := xWd.at (i := 833) (by decide +kernel) (by decide +kernel)
theorem ml_L_48 : xWd (.methodLink RL 48 yX8_step) := xWd.at (i := 835) (by decide +kernel) (by decide +kernel)
theorem im_yX8_step : xWd (.instanceMethod yX8_step) := xWd.at (i := 836) (by decide +kernel) (by decide +kernel)
theorem ml_L_52 : xWd (.methodLink RL 52 yX8_node) := xWd.at (i := 839) (by decide +kernel) (by decide +kernel)
theorem im_yX8_node : xWd (.instanceMethod yX8_node) := xWd.at (i := 840) (by decide +kernel) (by decide +kernel)
theorem ml_X8_193 : xWd (.methodLink RX8 193 yX8_laysNodes) := xWd.at (i := 843) (by decide +kernel) (by decide +kernel)
theorem im_yX8_laysNodes : xWd (.instanceMethod yX8_laysNodes) := xWd.at (i := 845) (by decide +kernel) (by decide +kernel)
theorem ml_X8_139 : xWd (.methodLink RX8 139 yX8_beginsTypes) := xWd.at (i := 847) (by decide +kernel) (by decide +kernel)
theorem im_yX8_beginsTypes : xWd (.instanceMethod yX8_beginsTypes) := xWd.at (i := 849) (by decide +kernel) (by decide +kernel)
theorem ml_X8_136 : xWd (.methodLink RX8 136 yX8_laysFar) := xWd.at (i := 851) (by decide +kernel) (by decide +kernel)
theorem im_yX8_laysFar : xWd (.instanceMethod yX8_laysFar) := xWd.at (i := 853) (by decide +kernel) (by decide +kernel)
theorem ml_X8_145 : xWd (.methodLink RX8 145 yX8_joinsOnce) := xWd.at (i := 855) (by decide +kernel) (by decide +kernel)
theorem im_yX8_joinsOnce : xWd (.instanceMethod yX8_joinsOnce) := xWd.at (i := 857) (by decide +kernel) (by decide +kernel)
theorem ml_X8_127 : xWd (.methodLink RX8 127 yX8_nearBy) := xWd.at (i := 859) (by decide +kernel) (by decide +kernel)
theorem im_yX8_nearBy : xWd (.instanceMethod yX8_nearBy) := xWd.at (i := 861) (by decide +kernel) (by decide +kernel)
theorem ml_X8_130 : xWd (.methodLink RX8 130 yX8_partsOf) := xWd.at (i := 863) (by decide +kernel) (by decide +kernel)
theorem im_yX8_partsOf : xWd (.instanceMethod yX8_partsOf) := xWd.at (i := 865) (by decide +kernel) (by decide +kernel)
theorem ml_X8_133 : xWd (.methodLink RX8 133 yX8_joins) := xWd.at (i := 867) (by decide +kernel) (by decide +kernel)
theorem im_yX8_joins : xWd (.instanceMethod yX8_joins) := xWd.at (i := 869) (by decide +kernel) (by decide +kernel)
theorem ml_X8_196 : xWd (.methodLink RX8 196 yX8_middleOf) := xWd.at (i := 871) (by decide +kernel) (by decide +kernel)
theorem im_yX8_middleOf : xWd (.instanceMethod yX8_middleOf) := xWd.at (i := 873) (by decide +kernel) (by decide +kernel)
theorem ml_L_56 : xWd (.methodLink RL 56 yX8_types) := xWd.at (i := 875) (by decide +kernel) (by decide +kernel)
theorem im_yX8_types : xWd (.instanceMethod yX8_types) := xWd.at (i := 876) (by decide +kernel) (by decide +kernel)
theorem ml_L_60 : xWd (.methodLink RL 60 yX8_middle) := xWd.at (i := 879) (by decide +kernel) (by decide +kernel)
theorem im_yX8_middle : xWd (.instanceMethod yX8_middle) := xWd.at (i := 880) (by decide +kernel) (by decide +kernel)
theorem ml_X8_199 : xWd (.methodLink RX8 199 yX8_areTales) := xWd.at (i := 883) (by decide +kernel) (by decide +kernel)
theorem im_yX8_areTales : xWd (.instanceMethod yX8_areTales) := xWd.at (i := 885) (by decide +kernel) (by decide +kernel)
theorem ml_L_64 : xWd (.methodLink RL 64 yX8_common) := xWd.at (i := 887) (by decide +kernel) (by decide +kernel)
theorem im_yX8_common : xWd (.instanceMethod yX8_common) := xWd.at (i := 888) (by decide +kernel) (by decide +kernel)
theorem ml_L_68 : xWd (.methodLink RL 68 yX8_wandered) := xWd.at (i := 891) (by decide +kernel) (by decide +kernel)
theorem im_yX8_wandered : xWd (.instanceMethod yX8_wandered) := xWd.at (i := 892) (by decide +kernel) (by decide +kernel)
theorem ml_L_72 : xWd (.methodLink RL 72 yX8_take) := xWd.at (i := 895) (by decide +kernel) (by decide +kernel)
theorem im_yX8_take : xWd (.instanceMethod yX8_take) := xWd.at (i := 896) (by decide +kernel) (by decide +kernel)
theorem ml_L_76 : xWd (.methodLink RL 76 yX8_cost) := xWd.at (i := 899) (by decide +kernel) (by decide +kernel)
theorem im_yX8_cost : xWd (.instanceMethod yX8_cost) := xWd.at (i := 900) (by decide +kernel) (by decide +kernel)
theorem ml_L_80 : xWd (.methodLink RL 80 yX8_kind) := xWd.at (i := 903) (by decide +kernel) (by decide +kernel)
theorem im_yX8_kind : xWd (.instanceMethod yX8_kind) := xWd.at (i := 904) (by decide +kernel) (by decide +kernel)
theorem ml_L_85 : xWd (.methodLink RL 85 yX8_road) := xWd.at (i := 907) (by decide +kernel) (by decide +kernel)
theorem im_yX8_road : xWd (.instanceMethod yX8_road) := xWd.at (i := 908) (by decide +kernel) (by decide +kernel)
theorem ml_X8_202 : xWd (.methodLink RX8 202 yX8_isPlace) := xWd.at (i := 911) (by decide +kernel) (by decide +kernel)
theorem sm_yX8_isPlace : xWd (.static yX8_isPlace) := xWd.at (i := 912) (by decide +kernel) (by decide +kernel)
theorem ml_L_89 : xWd (.methodLink RL 89 yX8_at) := xWd.at (i := 914) (by decide +kernel) (by decide +kernel)
theorem im_yX8_at : xWd (.instanceMethod yX8_at) := xWd.at (i := 915) (by decide +kernel) (by decide +kernel)
theorem ml_L_93 : xWd (.methodLink RL 93 yX8_drift) := xWd.at (i := 918) (by decide +kernel) (by decide +kernel)
theorem im_yX8_drift : xWd (.instanceMethod yX8_drift) := xWd.at (i := 919) (by decide +kernel) (by decide +kernel)
theorem ml_X8_215 : xWd (.methodLink RX8 215 yX8_draw) := xWd.at (i := 922) (by decide +kernel) (by decide +kernel)
theorem im_yX8_draw : xWd (.instanceMethod yX8_draw) := xWd.at (i := 924) (by decide +kernel) (by decide +kernel)
theorem kl_X8_208 : xWd (.constantLong RX8 208 (1103515245)) := xWd.at (i := 926) (by decide +kernel) (by decide +kernel)
theorem kl_X8_210 : xWd (.constantLong RX8 210 (12345)) := xWd.at (i := 927) (by decide +kernel) (by decide +kernel)
theorem kl_X8_212 : xWd (.constantLong RX8 212 (2147483648)) := xWd.at (i := 928) (by decide +kernel) (by decide +kernel)
theorem kc_X8_214 : xWd (.constant RX8 214 (65536)) := xWd.at (i := 929) (by decide +kernel) (by decide +kernel)
theorem ml_L_97 : xWd (.methodLink RL 97 yX8_undo) := xWd.at (i := 930) (by decide +kernel) (by decide +kernel)
theorem im_yX8_undo : xWd (.instanceMethod yX8_undo) := xWd.at (i := 931) (by decide +kernel) (by decide +kernel)
theorem ml_L_101 : xWd (.methodLink RL 101 yX8_write) := xWd.at (i := 934) (by decide +kernel) (by decide +kernel)
theorem im_yX8_write : xWd (.instanceMethod yX8_write) := xWd.at (i := 935) (by decide +kernel) (by decide +kernel)
theorem ml_L_105 : xWd (.methodLink RL 105 yX8_tear) := xWd.at (i := 938) (by decide +kernel) (by decide +kernel)
theorem im_yX8_tear : xWd (.instanceMethod yX8_tear) := xWd.at (i := 939) (by decide +kernel) (by decide +kernel)
theorem ml_L_109 : xWd (.methodLink RL 109 yX8_seed) := xWd.at (i := 942) (by decide +kernel) (by decide +kernel)
theorem im_yX8_seed : xWd (.instanceMethod yX8_seed) := xWd.at (i := 943) (by decide +kernel) (by decide +kernel)
theorem ml_L_113 : xWd (.methodLink RL 113 yX8_keep) := xWd.at (i := 946) (by decide +kernel) (by decide +kernel)
theorem im_yX8_keep : xWd (.instanceMethod yX8_keep) := xWd.at (i := 947) (by decide +kernel) (by decide +kernel)
theorem ml_L_117 : xWd (.methodLink RL 117 yX8_goBack) := xWd.at (i := 950) (by decide +kernel) (by decide +kernel)
theorem im_yX8_goBack : xWd (.instanceMethod yX8_goBack) := xWd.at (i := 951) (by decide +kernel) (by decide +kernel)
theorem it_TaleTypesLaw : xWd (.initialized "TaleTypesLaw") := xWd.at (i := 47) (by decide +kernel) (by decide +kernel)
theorem it_TaleTypes : xWd (.initialized "TaleTypes") := xWd.at (i := 48) (by decide +kernel) (by decide +kernel)
theorem it_TaleTypes_State : xWd (.initialized "TaleTypes$State") := xWd.at (i := 49) (by decide +kernel) (by decide +kernel)
theorem it_TaleTypes_Deeds : xWd (.initialized "TaleTypes$Deeds") := xWd.at (i := 50) (by decide +kernel) (by decide +kernel)
theorem it_TaleTypes_Book : xWd (.initialized "TaleTypes$Book") := xWd.at (i := 51) (by decide +kernel) (by decide +kernel)
theorem it_TaleTypes_Lineup : xWd (.initialized "TaleTypes$Lineup") := xWd.at (i := 52) (by decide +kernel) (by decide +kernel)
theorem it_TaleTypes_Distances : xWd (.initialized "TaleTypes$Distances") := xWd.at (i := 53) (by decide +kernel) (by decide +kernel)
theorem it_TaleTypes_Tree : xWd (.initialized "TaleTypes$Tree") := xWd.at (i := 54) (by decide +kernel) (by decide +kernel)
theorem it_TaleTypes_Image : xWd (.initialized "TaleTypes$Image") := xWd.at (i := 55) (by decide +kernel) (by decide +kernel)
theorem it_TaleTypesModel : xWd (.initialized "TaleTypesModel") := xWd.at (i := 56) (by decide +kernel) (by decide +kernel)
theorem it_java_lang_System : xWd (.initialized "java/lang/System") := xWd.at (i := 57) (by decide +kernel) (by decide +kernel)
theorem it_java_lang_Math : xWd (.initialized "java/lang/Math") := xWd.at (i := 58) (by decide +kernel) (by decide +kernel)
theorem it_java_lang_Integer : xWd (.initialized "java/lang/Integer") := xWd.at (i := 59) (by decide +kernel) (by decide +kernel)
theorem se_yX7_beginDeed : xWd (.selects RX7 yX7_beginDeed yX7_beginDeed) := xWd.at (i := 0) (by decide +kernel) (by decide +kernel)
theorem se_yX7_nodeCount : xWd (.selects RX7 yX7_nodeCount yX7_nodeCount) := xWd.at (i := 1) (by decide +kernel) (by decide +kernel)
theorem se_yX7_likeTyped : xWd (.selects RX7 yX7_likeTyped yX7_likeTyped) := xWd.at (i := 2) (by decide +kernel) (by decide +kernel)
theorem se_yX4_leastFrom : xWd (.selects RX4 yX4_leastFrom yX4_leastFrom) := xWd.at (i := 3) (by decide +kernel) (by decide +kernel)
theorem se_yX4_sumThrough : xWd (.selects RX4 yX4_sumThrough yX4_sumThrough) := xWd.at (i := 4) (by decide +kernel) (by decide +kernel)
theorem se_yX4_isTurned : xWd (.selects RX4 yX4_isTurned yX4_isTurned) := xWd.at (i := 5) (by decide +kernel) (by decide +kernel)
theorem se_yX7_allTales : xWd (.selects RX7 yX7_allTales yX7_allTales) := xWd.at (i := 6) (by decide +kernel) (by decide +kernel)
theorem se_yX7_measureAnew : xWd (.selects RX7 yX7_measureAnew yX7_measureAnew) := xWd.at (i := 7) (by decide +kernel) (by decide +kernel)
theorem se_yX6_findNearest : xWd (.selects RX6 yX6_findNearest yX6_findNearest) := xWd.at (i := 8) (by decide +kernel) (by decide +kernel)
theorem se_yX6_compareTypes : xWd (.selects RX6 yX6_compareTypes yX6_compareTypes) := xWd.at (i := 9) (by decide +kernel) (by decide +kernel)
theorem se_yX6_joinNearest : xWd (.selects RX6 yX6_joinNearest yX6_joinNearest) := xWd.at (i := 10) (by decide +kernel) (by decide +kernel)
theorem se_yX7_isTale : xWd (.selects RX7 yX7_isTale yX7_isTale) := xWd.at (i := 11) (by decide +kernel) (by decide +kernel)
theorem se_yX4_rowsFrom : xWd (.selects RX4 yX4_rowsFrom yX4_rowsFrom) := xWd.at (i := 12) (by decide +kernel) (by decide +kernel)
theorem se_yX4_leastStep : xWd (.selects RX4 yX4_leastStep yX4_leastStep) := xWd.at (i := 13) (by decide +kernel) (by decide +kernel)
theorem se_yX4_sharedFrom : xWd (.selects RX4 yX4_sharedFrom yX4_sharedFrom) := xWd.at (i := 14) (by decide +kernel) (by decide +kernel)
theorem se_yX2_sumTo : xWd (.selects RX2 yX2_sumTo yX2_sumTo) := xWd.at (i := 15) (by decide +kernel) (by decide +kernel)
theorem se_yX7_areTales : xWd (.selects RX7 yX7_areTales yX7_areTales) := xWd.at (i := 16) (by decide +kernel) (by decide +kernel)
theorem se_yX7_addDrawn : xWd (.selects RX7 yX7_addDrawn yX7_addDrawn) := xWd.at (i := 17) (by decide +kernel) (by decide +kernel)
theorem se_yX7_draw : xWd (.selects RX7 yX7_draw yX7_draw) := xWd.at (i := 18) (by decide +kernel) (by decide +kernel)
theorem se_yX8_notes : xWd (.selects RX8 yX8_notes yX8_notes) := xWd.at (i := 19) (by decide +kernel) (by decide +kernel)
theorem se_yX8_nodesMany : xWd (.selects RX8 yX8_nodesMany yX8_nodesMany) := xWd.at (i := 20) (by decide +kernel) (by decide +kernel)
theorem se_yX8_likeTyped : xWd (.selects RX8 yX8_likeTyped yX8_likeTyped) := xWd.at (i := 21) (by decide +kernel) (by decide +kernel)
theorem se_yX8_takes : xWd (.selects RX8 yX8_takes yX8_takes) := xWd.at (i := 22) (by decide +kernel) (by decide +kernel)
theorem se_yX8_linesUp : xWd (.selects RX8 yX8_linesUp yX8_linesUp) := xWd.at (i := 23) (by decide +kernel) (by decide +kernel)
theorem se_yX8_stepCost : xWd (.selects RX8 yX8_stepCost yX8_stepCost) := xWd.at (i := 24) (by decide +kernel) (by decide +kernel)
theorem se_yX8_changeOf : xWd (.selects RX8 yX8_changeOf yX8_changeOf) := xWd.at (i := 25) (by decide +kernel) (by decide +kernel)
theorem se_yX8_isTurned : xWd (.selects RX8 yX8_isTurned yX8_isTurned) := xWd.at (i := 26) (by decide +kernel) (by decide +kernel)
theorem se_yX8_allHave : xWd (.selects RX8 yX8_allHave yX8_allHave) := xWd.at (i := 27) (by decide +kernel) (by decide +kernel)
theorem se_yX8_wrong : xWd (.selects RX8 yX8_wrong yX8_wrong) := xWd.at (i := 28) (by decide +kernel) (by decide +kernel)
theorem se_yX8_isTale : xWd (.selects RX8 yX8_isTale yX8_isTale) := xWd.at (i := 29) (by decide +kernel) (by decide +kernel)
theorem se_yX8_apart : xWd (.selects RX8 yX8_apart yX8_apart) := xWd.at (i := 30) (by decide +kernel) (by decide +kernel)
theorem se_yX8_wanders : xWd (.selects RX8 yX8_wanders yX8_wanders) := xWd.at (i := 31) (by decide +kernel) (by decide +kernel)
theorem se_yX8_over : xWd (.selects RX8 yX8_over yX8_over) := xWd.at (i := 32) (by decide +kernel) (by decide +kernel)
theorem se_yX8_hangs : xWd (.selects RX8 yX8_hangs yX8_hangs) := xWd.at (i := 33) (by decide +kernel) (by decide +kernel)
theorem se_yX8_laysWay : xWd (.selects RX8 yX8_laysWay yX8_laysWay) := xWd.at (i := 34) (by decide +kernel) (by decide +kernel)
theorem se_yX8_isOfLeast : xWd (.selects RX8 yX8_isOfLeast yX8_isOfLeast) := xWd.at (i := 35) (by decide +kernel) (by decide +kernel)
theorem se_yX8_commonOrder : xWd (.selects RX8 yX8_commonOrder yX8_commonOrder) := xWd.at (i := 36) (by decide +kernel) (by decide +kernel)
theorem se_yX8_laysNodes : xWd (.selects RX8 yX8_laysNodes yX8_laysNodes) := xWd.at (i := 37) (by decide +kernel) (by decide +kernel)
theorem se_yX8_beginsTypes : xWd (.selects RX8 yX8_beginsTypes yX8_beginsTypes) := xWd.at (i := 38) (by decide +kernel) (by decide +kernel)
theorem se_yX8_laysFar : xWd (.selects RX8 yX8_laysFar yX8_laysFar) := xWd.at (i := 39) (by decide +kernel) (by decide +kernel)
theorem se_yX8_joinsOnce : xWd (.selects RX8 yX8_joinsOnce yX8_joinsOnce) := xWd.at (i := 40) (by decide +kernel) (by decide +kernel)
theorem se_yX8_nearBy : xWd (.selects RX8 yX8_nearBy yX8_nearBy) := xWd.at (i := 41) (by decide +kernel) (by decide +kernel)
theorem se_yX8_partsOf : xWd (.selects RX8 yX8_partsOf yX8_partsOf) := xWd.at (i := 42) (by decide +kernel) (by decide +kernel)
theorem se_yX8_joins : xWd (.selects RX8 yX8_joins yX8_joins) := xWd.at (i := 43) (by decide +kernel) (by decide +kernel)
theorem se_yX8_middleOf : xWd (.selects RX8 yX8_middleOf yX8_middleOf) := xWd.at (i := 44) (by decide +kernel) (by decide +kernel)
theorem se_yX8_areTales : xWd (.selects RX8 yX8_areTales yX8_areTales) := xWd.at (i := 45) (by decide +kernel) (by decide +kernel)
theorem se_yX8_draw : xWd (.selects RX8 yX8_draw yX8_draw) := xWd.at (i := 46) (by decide +kernel) (by decide +kernel)
theorem se_yX7_feed : xWd (.selects RX7 yX7_feed yX7_feed) := xWd.at (i := 286) (by decide +kernel) (by decide +kernel)
theorem se_yX7_tale : xWd (.selects RX7 yX7_tale yX7_tale) := xWd.at (i := 299) (by decide +kernel) (by decide +kernel)
theorem se_yX1_remember : xWd (.selects RX1 yX1_remember yX1_remember) := xWd.at (i := 308) (by decide +kernel) (by decide +kernel)
theorem se_yX5_become : xWd (.selects RX5 yX5_become yX5_become) := xWd.at (i := 312) (by decide +kernel) (by decide +kernel)
theorem se_yX5_add : xWd (.selects RX5 yX5_add yX5_add) := xWd.at (i := 322) (by decide +kernel) (by decide +kernel)
theorem se_yX7_told : xWd (.selects RX7 yX7_told yX7_told) := xWd.at (i := 326) (by decide +kernel) (by decide +kernel)
theorem se_yX4_lineUp : xWd (.selects RX4 yX4_lineUp yX4_lineUp) := xWd.at (i := 338) (by decide +kernel) (by decide +kernel)
theorem se_yX4_apart : xWd (.selects RX4 yX4_apart yX4_apart) := xWd.at (i := 371) (by decide +kernel) (by decide +kernel)
theorem se_yX5_motifsOfAll : xWd (.selects RX5 yX5_motifsOfAll yX5_motifsOfAll) := xWd.at (i := 379) (by decide +kernel) (by decide +kernel)
theorem se_yX2_measure : xWd (.selects RX2 yX2_measure yX2_measure) := xWd.at (i := 391) (by decide +kernel) (by decide +kernel)
theorem se_yX6_grow : xWd (.selects RX6 yX6_grow yX6_grow) := xWd.at (i := 397) (by decide +kernel) (by decide +kernel)
theorem se_yX2_between : xWd (.selects RX2 yX2_between yX2_between) := xWd.at (i := 410) (by decide +kernel) (by decide +kernel)
theorem se_yX0_firstOtherwise : xWd (.selects RX0 yX0_firstOtherwise yX0_firstOtherwise) := xWd.at (i := 428) (by decide +kernel) (by decide +kernel)
theorem se_yX7_taleAt : xWd (.selects RX7 yX7_taleAt yX7_taleAt) := xWd.at (i := 433) (by decide +kernel) (by decide +kernel)
theorem se_yX7_motif : xWd (.selects RX7 yX7_motif yX7_motif) := xWd.at (i := 452) (by decide +kernel) (by decide +kernel)
theorem se_yX7_costAt : xWd (.selects RX7 yX7_costAt yX7_costAt) := xWd.at (i := 456) (by decide +kernel) (by decide +kernel)
theorem se_yX7_pair : xWd (.selects RX7 yX7_pair yX7_pair) := xWd.at (i := 460) (by decide +kernel) (by decide +kernel)
theorem se_yX4_ways : xWd (.selects RX4 yX4_ways yX4_ways) := xWd.at (i := 464) (by decide +kernel) (by decide +kernel)
theorem se_yX4_wayLength : xWd (.selects RX4 yX4_wayLength yX4_wayLength) := xWd.at (i := 472) (by decide +kernel) (by decide +kernel)
theorem se_yX4_commonLength : xWd (.selects RX4 yX4_commonLength yX4_commonLength) := xWd.at (i := 480) (by decide +kernel) (by decide +kernel)
theorem se_yX7_step : xWd (.selects RX7 yX7_step yX7_step) := xWd.at (i := 489) (by decide +kernel) (by decide +kernel)
theorem se_yX4_stepOfWay : xWd (.selects RX4 yX4_stepOfWay yX4_stepOfWay) := xWd.at (i := 493) (by decide +kernel) (by decide +kernel)
theorem se_yX7_node : xWd (.selects RX7 yX7_node yX7_node) := xWd.at (i := 498) (by decide +kernel) (by decide +kernel)
theorem se_yX2_middleOf : xWd (.selects RX2 yX2_middleOf yX2_middleOf) := xWd.at (i := 502) (by decide +kernel) (by decide +kernel)
theorem se_yX7_types : xWd (.selects RX7 yX7_types yX7_types) := xWd.at (i := 511) (by decide +kernel) (by decide +kernel)
theorem se_yX6_nodesUpTo : xWd (.selects RX6 yX6_nodesUpTo yX6_nodesUpTo) := xWd.at (i := 515) (by decide +kernel) (by decide +kernel)
theorem se_yX6_typeOf : xWd (.selects RX6 yX6_typeOf yX6_typeOf) := xWd.at (i := 519) (by decide +kernel) (by decide +kernel)
theorem se_yX7_middle : xWd (.selects RX7 yX7_middle yX7_middle) := xWd.at (i := 524) (by decide +kernel) (by decide +kernel)
theorem se_yX7_common : xWd (.selects RX7 yX7_common yX7_common) := xWd.at (i := 532) (by decide +kernel) (by decide +kernel)
theorem se_yX7_wandered : xWd (.selects RX7 yX7_wandered yX7_wandered) := xWd.at (i := 536) (by decide +kernel) (by decide +kernel)
theorem se_yX7_take : xWd (.selects RX7 yX7_take yX7_take) := xWd.at (i := 543) (by decide +kernel) (by decide +kernel)
theorem se_yX5_remove : xWd (.selects RX5 yX5_remove yX5_remove) := xWd.at (i := 547) (by decide +kernel) (by decide +kernel)
theorem se_yX7_cost : xWd (.selects RX7 yX7_cost yX7_cost) := xWd.at (i := 551) (by decide +kernel) (by decide +kernel)
theorem se_yX7_kind : xWd (.selects RX7 yX7_kind yX7_kind) := xWd.at (i := 555) (by decide +kernel) (by decide +kernel)
theorem se_yX7_road : xWd (.selects RX7 yX7_road yX7_road) := xWd.at (i := 559) (by decide +kernel) (by decide +kernel)
theorem se_yX5_setRoad : xWd (.selects RX5 yX5_setRoad yX5_setRoad) := xWd.at (i := 566) (by decide +kernel) (by decide +kernel)
theorem se_yX5_countRoads : xWd (.selects RX5 yX5_countRoads yX5_countRoads) := xWd.at (i := 570) (by decide +kernel) (by decide +kernel)
theorem se_yX7_at : xWd (.selects RX7 yX7_at yX7_at) := xWd.at (i := 575) (by decide +kernel) (by decide +kernel)
theorem se_yX7_drift : xWd (.selects RX7 yX7_drift yX7_drift) := xWd.at (i := 579) (by decide +kernel) (by decide +kernel)
theorem se_yX7_undo : xWd (.selects RX7 yX7_undo yX7_undo) := xWd.at (i := 595) (by decide +kernel) (by decide +kernel)
theorem se_yX1_takeBack : xWd (.selects RX1 yX1_takeBack yX1_takeBack) := xWd.at (i := 599) (by decide +kernel) (by decide +kernel)
theorem se_yX7_write : xWd (.selects RX7 yX7_write yX7_write) := xWd.at (i := 603) (by decide +kernel) (by decide +kernel)
theorem se_yX0_add : xWd (.selects RX0 yX0_add yX0_add) := xWd.at (i := 607) (by decide +kernel) (by decide +kernel)
theorem se_yX7_tear : xWd (.selects RX7 yX7_tear yX7_tear) := xWd.at (i := 611) (by decide +kernel) (by decide +kernel)
theorem se_yX7_seed : xWd (.selects RX7 yX7_seed yX7_seed) := xWd.at (i := 615) (by decide +kernel) (by decide +kernel)
theorem se_yX7_keep : xWd (.selects RX7 yX7_keep yX7_keep) := xWd.at (i := 619) (by decide +kernel) (by decide +kernel)
theorem se_yX7_goBack : xWd (.selects RX7 yX7_goBack yX7_goBack) := xWd.at (i := 624) (by decide +kernel) (by decide +kernel)
theorem se_yX8_feed : xWd (.selects RX8 yX8_feed yX8_feed) := xWd.at (i := 708) (by decide +kernel) (by decide +kernel)
theorem se_yX8_tale : xWd (.selects RX8 yX8_tale yX8_tale) := xWd.at (i := 717) (by decide +kernel) (by decide +kernel)
theorem se_yX8_told : xWd (.selects RX8 yX8_told yX8_told) := xWd.at (i := 729) (by decide +kernel) (by decide +kernel)
theorem se_yX8_taleAt : xWd (.selects RX8 yX8_taleAt yX8_taleAt) := xWd.at (i := 793) (by decide +kernel) (by decide +kernel)
theorem se_yX8_motif : xWd (.selects RX8 yX8_motif yX8_motif) := xWd.at (i := 813) (by decide +kernel) (by decide +kernel)
theorem se_yX8_costAt : xWd (.selects RX8 yX8_costAt yX8_costAt) := xWd.at (i := 817) (by decide +kernel) (by decide +kernel)
theorem se_yX8_pair : xWd (.selects RX8 yX8_pair yX8_pair) := xWd.at (i := 821) (by decide +kernel) (by decide +kernel)
theorem se_yX8_step : xWd (.selects RX8 yX8_step yX8_step) := xWd.at (i := 837) (by decide +kernel) (by decide +kernel)
theorem se_yX8_node : xWd (.selects RX8 yX8_node yX8_node) := xWd.at (i := 841) (by decide +kernel) (by decide +kernel)
theorem se_yX8_types : xWd (.selects RX8 yX8_types yX8_types) := xWd.at (i := 877) (by decide +kernel) (by decide +kernel)
theorem se_yX8_middle : xWd (.selects RX8 yX8_middle yX8_middle) := xWd.at (i := 881) (by decide +kernel) (by decide +kernel)
theorem se_yX8_common : xWd (.selects RX8 yX8_common yX8_common) := xWd.at (i := 889) (by decide +kernel) (by decide +kernel)
theorem se_yX8_wandered : xWd (.selects RX8 yX8_wandered yX8_wandered) := xWd.at (i := 893) (by decide +kernel) (by decide +kernel)
theorem se_yX8_take : xWd (.selects RX8 yX8_take yX8_take) := xWd.at (i := 897) (by decide +kernel) (by decide +kernel)
theorem se_yX8_cost : xWd (.selects RX8 yX8_cost yX8_cost) := xWd.at (i := 901) (by decide +kernel) (by decide +kernel)
theorem se_yX8_kind : xWd (.selects RX8 yX8_kind yX8_kind) := xWd.at (i := 905) (by decide +kernel) (by decide +kernel)
theorem se_yX8_road : xWd (.selects RX8 yX8_road yX8_road) := xWd.at (i := 909) (by decide +kernel) (by decide +kernel)
theorem se_yX8_at : xWd (.selects RX8 yX8_at yX8_at) := xWd.at (i := 916) (by decide +kernel) (by decide +kernel)
theorem se_yX8_drift : xWd (.selects RX8 yX8_drift yX8_drift) := xWd.at (i := 920) (by decide +kernel) (by decide +kernel)
theorem se_yX8_undo : xWd (.selects RX8 yX8_undo yX8_undo) := xWd.at (i := 932) (by decide +kernel) (by decide +kernel)
theorem se_yX8_write : xWd (.selects RX8 yX8_write yX8_write) := xWd.at (i := 936) (by decide +kernel) (by decide +kernel)
theorem se_yX8_tear : xWd (.selects RX8 yX8_tear yX8_tear) := xWd.at (i := 940) (by decide +kernel) (by decide +kernel)
theorem se_yX8_seed : xWd (.selects RX8 yX8_seed yX8_seed) := xWd.at (i := 944) (by decide +kernel) (by decide +kernel)
theorem se_yX8_keep : xWd (.selects RX8 yX8_keep yX8_keep) := xWd.at (i := 948) (by decide +kernel) (by decide +kernel)
theorem se_yX8_goBack : xWd (.selects RX8 yX8_goBack yX8_goBack) := xWd.at (i := 952) (by decide +kernel) (by decide +kernel)
theorem ce_yX7_init : xCe yX7_init cX7_init 2 none 0 := ⟨xWd.at (i := 64) (by decide +kernel) (by decide +kernel), it_TaleTypes, by decide +kernel, by decide +kernel⟩
theorem kd_Lib_objectInit : xWd (.code Lib.objectInit object_method_1_code 1 none) := xWd.at (i := 67) (by decide +kernel) (by decide +kernel)
theorem ce_yX5_init : xCe yX5_init cX5_init 1 none 0 := ⟨xWd.at (i := 72) (by decide +kernel) (by decide +kernel), it_TaleTypes_State, by decide +kernel, by decide +kernel⟩
theorem ce_yX1_init : xCe yX1_init cX1_init 2 none 0 := ⟨xWd.at (i := 108) (by decide +kernel) (by decide +kernel), it_TaleTypes_Deeds, by decide +kernel, by decide +kernel⟩
theorem ce_yX0_init : xCe yX0_init cX0_init 1 none 0 := ⟨xWd.at (i := 128) (by decide +kernel) (by decide +kernel), it_TaleTypes_Book, by decide +kernel, by decide +kernel⟩
theorem ce_yX4_init : xCe yX4_init cX4_init 1 none 0 := ⟨xWd.at (i := 148) (by decide +kernel) (by decide +kernel), it_TaleTypes_Lineup, by decide +kernel, by decide +kernel⟩
theorem ce_yX2_init : xCe yX2_init cX2_init 1 none 0 := ⟨xWd.at (i := 182) (by decide +kernel) (by decide +kernel), it_TaleTypes_Distances, by decide +kernel, by decide +kernel⟩
theorem ce_yX6_init : xCe yX6_init cX6_init 1 none 0 := ⟨xWd.at (i := 192) (by decide +kernel) (by decide +kernel), it_TaleTypes_Tree, by decide +kernel, by decide +kernel⟩
theorem ce_yX3_init : xCe yX3_init cX3_init 1 none 0 := ⟨xWd.at (i := 236) (by decide +kernel) (by decide +kernel), it_TaleTypes_Image, by decide +kernel, by decide +kernel⟩
theorem ce_yX7_feed : xCe yX7_feed cX7_feed 2 (some .int) 1 := ⟨xWd.at (i := 287) (by decide +kernel) (by decide +kernel), it_TaleTypes, by decide +kernel, by decide +kernel⟩
theorem ce_yX7_lengthOf : xCe yX7_lengthOf cX7_lengthOf 2 (some .int) 1 := ⟨xWd.at (i := 291) (by decide +kernel) (by decide +kernel), it_TaleTypes, by decide +kernel, by decide +kernel⟩
theorem ce_yX7_longer : xCe yX7_longer cX7_longer 3 (some .long) 2 := ⟨xWd.at (i := 295) (by decide +kernel) (by decide +kernel), it_TaleTypes, by decide +kernel, by decide +kernel⟩
theorem ce_yX7_tale : xCe yX7_tale cX7_tale 1 (some .int) 0 := ⟨xWd.at (i := 300) (by decide +kernel) (by decide +kernel), it_TaleTypes, by decide +kernel, by decide +kernel⟩
theorem ce_yX7_beginDeed : xCe yX7_beginDeed cX7_beginDeed 1 none 0 := ⟨xWd.at (i := 305) (by decide +kernel) (by decide +kernel), it_TaleTypes, by decide +kernel, by decide +kernel⟩
theorem ce_yX1_remember : xCe yX1_remember cX1_remember 2 none 1 := ⟨xWd.at (i := 309) (by decide +kernel) (by decide +kernel), it_TaleTypes_Deeds, by decide +kernel, by decide +kernel⟩
theorem ce_yX5_become : xCe yX5_become cX5_become 2 none 1 := ⟨xWd.at (i := 313) (by decide +kernel) (by decide +kernel), it_TaleTypes_State, by decide +kernel, by decide +kernel⟩
theorem ce_yJ9_min_7cf53 : xCe yJ9_min_7cf53 cJ9_min_7cf53 2 (some .int) 2 := ⟨xWd.at (i := 319) (by decide +kernel) (by decide +kernel), it_java_lang_Math, by decide +kernel, by decide +kernel⟩
theorem ce_yX5_add : xCe yX5_add cX5_add 4 none 2 := ⟨xWd.at (i := 323) (by decide +kernel) (by decide +kernel), it_TaleTypes_State, by decide +kernel, by decide +kernel⟩
theorem ce_yX7_told : xCe yX7_told cX7_told 2 (some .int) 1 := ⟨xWd.at (i := 327) (by decide +kernel) (by decide +kernel), it_TaleTypes, by decide +kernel, by decide +kernel⟩
theorem ce_yX7_nodeCount : xCe yX7_nodeCount cX7_nodeCount 1 (some .int) 0 := ⟨xWd.at (i := 331) (by decide +kernel) (by decide +kernel), it_TaleTypes, by decide +kernel, by decide +kernel⟩
theorem ce_yX7_likeTyped : xCe yX7_likeTyped cX7_likeTyped 4 (some .int) 0 := ⟨xWd.at (i := 335) (by decide +kernel) (by decide +kernel), it_TaleTypes, by decide +kernel, by decide +kernel⟩
theorem ce_yX4_lineUp : xCe yX4_lineUp cX4_lineUp 8 none 3 := ⟨xWd.at (i := 339) (by decide +kernel) (by decide +kernel), it_TaleTypes_Lineup, by decide +kernel, by decide +kernel⟩
theorem ce_yX4_spell : xCe yX4_spell cX4_spell 5 (some .int) 2 := ⟨xWd.at (i := 342) (by decide +kernel) (by decide +kernel), it_TaleTypes_Lineup, by decide +kernel, by decide +kernel⟩
theorem ce_yX7_motifOf : xCe yX7_motifOf cX7_motifOf 3 (some .int) 2 := ⟨xWd.at (i := 347) (by decide +kernel) (by decide +kernel), it_TaleTypes, by decide +kernel, by decide +kernel⟩
theorem ce_yX4_leastFrom : xCe yX4_leastFrom cX4_leastFrom 5 (some .int) 2 := ⟨xWd.at (i := 352) (by decide +kernel) (by decide +kernel), it_TaleTypes_Lineup, by decide +kernel, by decide +kernel⟩
theorem ce_yX4_sumThrough : xCe yX4_sumThrough cX4_sumThrough 8 (some .int) 3 := ⟨xWd.at (i := 357) (by decide +kernel) (by decide +kernel), it_TaleTypes_Lineup, by decide +kernel, by decide +kernel⟩
theorem ce_yJ9_abs_0f7a4 : xCe yJ9_abs_0f7a4 cJ9_abs_0f7a4 1 (some .int) 1 := ⟨xWd.at (i := 364) (by decide +kernel) (by decide +kernel), it_java_lang_Math, by decide +kernel, by decide +kernel⟩
theorem ce_yX4_isTurned : xCe yX4_isTurned cX4_isTurned 3 (some .boolean) 2 := ⟨xWd.at (i := 368) (by decide +kernel) (by decide +kernel), it_TaleTypes_Lineup, by decide +kernel, by decide +kernel⟩
theorem ce_yX4_apart : xCe yX4_apart cX4_apart 1 (some .int) 0 := ⟨xWd.at (i := 372) (by decide +kernel) (by decide +kernel), it_TaleTypes_Lineup, by decide +kernel, by decide +kernel⟩
theorem ce_yX7_allTales : xCe yX7_allTales cX7_allTales 1 (some .int) 0 := ⟨xWd.at (i := 376) (by decide +kernel) (by decide +kernel), it_TaleTypes, by decide +kernel, by decide +kernel⟩
theorem ce_yX5_motifsOfAll : xCe yX5_motifsOfAll cX5_motifsOfAll 4 (some .int) 1 := ⟨xWd.at (i := 380) (by decide +kernel) (by decide +kernel), it_TaleTypes_State, by decide +kernel, by decide +kernel⟩
theorem ce_yX7_motifsOf : xCe yX7_motifsOf cX7_motifsOf 4 (some .int) 1 := ⟨xWd.at (i := 383) (by decide +kernel) (by decide +kernel), it_TaleTypes, by decide +kernel, by decide +kernel⟩
theorem ce_yX7_measureAnew : xCe yX7_measureAnew cX7_measureAnew 1 none 0 := ⟨xWd.at (i := 388) (by decide +kernel) (by decide +kernel), it_TaleTypes, by decide +kernel, by decide +kernel⟩
theorem ce_yX2_measure : xCe yX2_measure cX2_measure 5 none 2 := ⟨xWd.at (i := 392) (by decide +kernel) (by decide +kernel), it_TaleTypes_Distances, by decide +kernel, by decide +kernel⟩
theorem ce_yX6_grow : xCe yX6_grow cX6_grow 5 none 3 := ⟨xWd.at (i := 398) (by decide +kernel) (by decide +kernel), it_TaleTypes_Tree, by decide +kernel, by decide +kernel⟩
theorem ce_yX6_findNearest : xCe yX6_findNearest cX6_findNearest 7 none 3 := ⟨xWd.at (i := 402) (by decide +kernel) (by decide +kernel), it_TaleTypes_Tree, by decide +kernel, by decide +kernel⟩
theorem ce_yX6_compareTypes : xCe yX6_compareTypes cX6_compareTypes 11 none 4 := ⟨xWd.at (i := 406) (by decide +kernel) (by decide +kernel), it_TaleTypes_Tree, by decide +kernel, by decide +kernel⟩
theorem ce_yX2_between : xCe yX2_between cX2_between 3 (some .int) 2 := ⟨xWd.at (i := 411) (by decide +kernel) (by decide +kernel), it_TaleTypes_Distances, by decide +kernel, by decide +kernel⟩
theorem ce_yJ9_max_7cf53 : xCe yJ9_max_7cf53 cJ9_max_7cf53 2 (some .int) 2 := ⟨xWd.at (i := 415) (by decide +kernel) (by decide +kernel), it_java_lang_Math, by decide +kernel, by decide +kernel⟩
theorem ce_yJ6_bitCount_0f7a4 : xCe yJ6_bitCount_0f7a4 cJ6_bitCount_0f7a4 1 (some .int) 1 := ⟨xWd.at (i := 418) (by decide +kernel) (by decide +kernel), it_java_lang_Integer, by decide +kernel, by decide +kernel⟩
theorem ce_yX6_joinNearest : xCe yX6_joinNearest cX6_joinNearest 3 none 1 := ⟨xWd.at (i := 425) (by decide +kernel) (by decide +kernel), it_TaleTypes_Tree, by decide +kernel, by decide +kernel⟩
theorem ce_yX0_firstOtherwise : xCe yX0_firstOtherwise cX0_firstOtherwise 5 (some .int) 2 := ⟨xWd.at (i := 429) (by decide +kernel) (by decide +kernel), it_TaleTypes_Book, by decide +kernel, by decide +kernel⟩
theorem ce_yX7_taleAt : xCe yX7_taleAt cX7_taleAt 3 (some .int) 2 := ⟨xWd.at (i := 434) (by decide +kernel) (by decide +kernel), it_TaleTypes, by decide +kernel, by decide +kernel⟩
theorem ce_yX7_isTale : xCe yX7_isTale cX7_isTale 2 (some .boolean) 1 := ⟨xWd.at (i := 438) (by decide +kernel) (by decide +kernel), it_TaleTypes, by decide +kernel, by decide +kernel⟩
theorem ce_yX7_hull : xCe yX7_hull cX7_hull 5 (some .int) 2 := ⟨xWd.at (i := 442) (by decide +kernel) (by decide +kernel), it_TaleTypes, by decide +kernel, by decide +kernel⟩
theorem ce_yX7_hangTogether : xCe yX7_hangTogether cX7_hangTogether 5 (some .boolean) 2 := ⟨xWd.at (i := 446) (by decide +kernel) (by decide +kernel), it_TaleTypes, by decide +kernel, by decide +kernel⟩
theorem ce_yX7_roadsOf : xCe yX7_roadsOf cX7_roadsOf 1 (some .int) 1 := ⟨xWd.at (i := 449) (by decide +kernel) (by decide +kernel), it_TaleTypes, by decide +kernel, by decide +kernel⟩
theorem ce_yX7_motif : xCe yX7_motif cX7_motif 3 (some .int) 2 := ⟨xWd.at (i := 453) (by decide +kernel) (by decide +kernel), it_TaleTypes, by decide +kernel, by decide +kernel⟩
theorem ce_yX7_costAt : xCe yX7_costAt cX7_costAt 2 (some .int) 1 := ⟨xWd.at (i := 457) (by decide +kernel) (by decide +kernel), it_TaleTypes, by decide +kernel, by decide +kernel⟩
theorem ce_yX7_pair : xCe yX7_pair cX7_pair 4 (some .int) 3 := ⟨xWd.at (i := 461) (by decide +kernel) (by decide +kernel), it_TaleTypes, by decide +kernel, by decide +kernel⟩
theorem ce_yX4_ways : xCe yX4_ways cX4_ways 3 (some .int) 0 := ⟨xWd.at (i := 465) (by decide +kernel) (by decide +kernel), it_TaleTypes_Lineup, by decide +kernel, by decide +kernel⟩
theorem ce_yX4_rowsFrom : xCe yX4_rowsFrom cX4_rowsFrom 5 (some .int) 2 := ⟨xWd.at (i := 469) (by decide +kernel) (by decide +kernel), it_TaleTypes_Lineup, by decide +kernel, by decide +kernel⟩
theorem ce_yX4_wayLength : xCe yX4_wayLength cX4_wayLength 5 (some .int) 0 := ⟨xWd.at (i := 473) (by decide +kernel) (by decide +kernel), it_TaleTypes_Lineup, by decide +kernel, by decide +kernel⟩
theorem ce_yX4_leastStep : xCe yX4_leastStep cX4_leastStep 4 (some .int) 2 := ⟨xWd.at (i := 477) (by decide +kernel) (by decide +kernel), it_TaleTypes_Lineup, by decide +kernel, by decide +kernel⟩
theorem ce_yX4_commonLength : xCe yX4_commonLength cX4_commonLength 3 (some .int) 0 := ⟨xWd.at (i := 481) (by decide +kernel) (by decide +kernel), it_TaleTypes_Lineup, by decide +kernel, by decide +kernel⟩
theorem ce_yX4_sharedFrom : xCe yX4_sharedFrom cX4_sharedFrom 3 (some .int) 2 := ⟨xWd.at (i := 485) (by decide +kernel) (by decide +kernel), it_TaleTypes_Lineup, by decide +kernel, by decide +kernel⟩
theorem ce_yX7_step : xCe yX7_step cX7_step 4 (some .int) 3 := ⟨xWd.at (i := 490) (by decide +kernel) (by decide +kernel), it_TaleTypes, by decide +kernel, by decide +kernel⟩
theorem ce_yX4_stepOfWay : xCe yX4_stepOfWay cX4_stepOfWay 3 (some .int) 1 := ⟨xWd.at (i := 494) (by decide +kernel) (by decide +kernel), it_TaleTypes_Lineup, by decide +kernel, by decide +kernel⟩
theorem ce_yX7_node : xCe yX7_node cX7_node 3 (some .int) 2 := ⟨xWd.at (i := 499) (by decide +kernel) (by decide +kernel), it_TaleTypes, by decide +kernel, by decide +kernel⟩
theorem ce_yX2_middleOf : xCe yX2_middleOf cX2_middleOf 6 (some .int) 1 := ⟨xWd.at (i := 503) (by decide +kernel) (by decide +kernel), it_TaleTypes_Distances, by decide +kernel, by decide +kernel⟩
theorem ce_yX2_sumTo : xCe yX2_sumTo cX2_sumTo 5 (some .int) 2 := ⟨xWd.at (i := 507) (by decide +kernel) (by decide +kernel), it_TaleTypes_Distances, by decide +kernel, by decide +kernel⟩
theorem ce_yX7_types : xCe yX7_types cX7_types 3 (some .int) 2 := ⟨xWd.at (i := 512) (by decide +kernel) (by decide +kernel), it_TaleTypes, by decide +kernel, by decide +kernel⟩
theorem ce_yX6_nodesUpTo : xCe yX6_nodesUpTo cX6_nodesUpTo 3 (some .int) 1 := ⟨xWd.at (i := 516) (by decide +kernel) (by decide +kernel), it_TaleTypes_Tree, by decide +kernel, by decide +kernel⟩
theorem ce_yX6_typeOf : xCe yX6_typeOf cX6_typeOf 6 (some .int) 2 := ⟨xWd.at (i := 520) (by decide +kernel) (by decide +kernel), it_TaleTypes_Tree, by decide +kernel, by decide +kernel⟩
theorem ce_yX7_middle : xCe yX7_middle cX7_middle 2 (some .int) 1 := ⟨xWd.at (i := 525) (by decide +kernel) (by decide +kernel), it_TaleTypes, by decide +kernel, by decide +kernel⟩
theorem ce_yX7_areTales : xCe yX7_areTales cX7_areTales 2 (some .boolean) 1 := ⟨xWd.at (i := 529) (by decide +kernel) (by decide +kernel), it_TaleTypes, by decide +kernel, by decide +kernel⟩
theorem ce_yX7_common : xCe yX7_common cX7_common 2 (some .int) 1 := ⟨xWd.at (i := 533) (by decide +kernel) (by decide +kernel), it_TaleTypes, by decide +kernel, by decide +kernel⟩
theorem ce_yX7_wandered : xCe yX7_wandered cX7_wandered 3 (some .int) 2 := ⟨xWd.at (i := 537) (by decide +kernel) (by decide +kernel), it_TaleTypes, by decide +kernel, by decide +kernel⟩
theorem ce_yX7_arePlaces : xCe yX7_arePlaces cX7_arePlaces 1 (some .boolean) 1 := ⟨xWd.at (i := 540) (by decide +kernel) (by decide +kernel), it_TaleTypes, by decide +kernel, by decide +kernel⟩
theorem ce_yX7_take : xCe yX7_take cX7_take 2 (some .int) 1 := ⟨xWd.at (i := 544) (by decide +kernel) (by decide +kernel), it_TaleTypes, by decide +kernel, by decide +kernel⟩
theorem ce_yX5_remove : xCe yX5_remove cX5_remove 3 none 1 := ⟨xWd.at (i := 548) (by decide +kernel) (by decide +kernel), it_TaleTypes_State, by decide +kernel, by decide +kernel⟩
theorem ce_yX7_cost : xCe yX7_cost cX7_cost 5 (some .int) 2 := ⟨xWd.at (i := 552) (by decide +kernel) (by decide +kernel), it_TaleTypes, by decide +kernel, by decide +kernel⟩
theorem ce_yX7_kind : xCe yX7_kind cX7_kind 3 (some .int) 1 := ⟨xWd.at (i := 556) (by decide +kernel) (by decide +kernel), it_TaleTypes, by decide +kernel, by decide +kernel⟩
theorem ce_yX7_road : xCe yX7_road cX7_road 4 (some .int) 3 := ⟨xWd.at (i := 560) (by decide +kernel) (by decide +kernel), it_TaleTypes, by decide +kernel, by decide +kernel⟩
theorem ce_yX7_isPlace : xCe yX7_isPlace cX7_isPlace 1 (some .boolean) 1 := ⟨xWd.at (i := 563) (by decide +kernel) (by decide +kernel), it_TaleTypes, by decide +kernel, by decide +kernel⟩
theorem ce_yX5_setRoad : xCe yX5_setRoad cX5_setRoad 4 none 3 := ⟨xWd.at (i := 567) (by decide +kernel) (by decide +kernel), it_TaleTypes_State, by decide +kernel, by decide +kernel⟩
theorem ce_yX5_countRoads : xCe yX5_countRoads cX5_countRoads 3 (some .int) 0 := ⟨xWd.at (i := 571) (by decide +kernel) (by decide +kernel), it_TaleTypes_State, by decide +kernel, by decide +kernel⟩
theorem ce_yX7_at : xCe yX7_at cX7_at 3 (some .int) 2 := ⟨xWd.at (i := 576) (by decide +kernel) (by decide +kernel), it_TaleTypes, by decide +kernel, by decide +kernel⟩
theorem ce_yX7_drift : xCe yX7_drift cX7_drift 3 (some .int) 1 := ⟨xWd.at (i := 580) (by decide +kernel) (by decide +kernel), it_TaleTypes, by decide +kernel, by decide +kernel⟩
theorem ce_yX7_addDrawn : xCe yX7_addDrawn cX7_addDrawn 5 none 0 := ⟨xWd.at (i := 584) (by decide +kernel) (by decide +kernel), it_TaleTypes, by decide +kernel, by decide +kernel⟩
theorem ce_yX7_draw : xCe yX7_draw cX7_draw 4 (some .int) 1 := ⟨xWd.at (i := 588) (by decide +kernel) (by decide +kernel), it_TaleTypes, by decide +kernel, by decide +kernel⟩
theorem ce_yX7_undo : xCe yX7_undo cX7_undo 2 (some .int) 1 := ⟨xWd.at (i := 596) (by decide +kernel) (by decide +kernel), it_TaleTypes, by decide +kernel, by decide +kernel⟩
theorem ce_yX1_takeBack : xCe yX1_takeBack cX1_takeBack 3 none 2 := ⟨xWd.at (i := 600) (by decide +kernel) (by decide +kernel), it_TaleTypes_Deeds, by decide +kernel, by decide +kernel⟩
theorem ce_yX7_write : xCe yX7_write cX7_write 4 (some .int) 3 := ⟨xWd.at (i := 604) (by decide +kernel) (by decide +kernel), it_TaleTypes, by decide +kernel, by decide +kernel⟩
theorem ce_yX0_add : xCe yX0_add cX0_add 4 none 3 := ⟨xWd.at (i := 608) (by decide +kernel) (by decide +kernel), it_TaleTypes_Book, by decide +kernel, by decide +kernel⟩
theorem ce_yX7_tear : xCe yX7_tear cX7_tear 2 (some .int) 0 := ⟨xWd.at (i := 612) (by decide +kernel) (by decide +kernel), it_TaleTypes, by decide +kernel, by decide +kernel⟩
theorem ce_yX7_seed : xCe yX7_seed cX7_seed 3 (some .int) 1 := ⟨xWd.at (i := 616) (by decide +kernel) (by decide +kernel), it_TaleTypes, by decide +kernel, by decide +kernel⟩
theorem ce_yX7_keep : xCe yX7_keep cX7_keep 3 (some .int) 1 := ⟨xWd.at (i := 620) (by decide +kernel) (by decide +kernel), it_TaleTypes, by decide +kernel, by decide +kernel⟩
theorem ce_yX7_goBack : xCe yX7_goBack cX7_goBack 3 (some .int) 1 := ⟨xWd.at (i := 625) (by decide +kernel) (by decide +kernel), it_TaleTypes, by decide +kernel, by decide +kernel⟩
theorem ce_yX8_init : xCe yX8_init cX8_init 1 none 0 := ⟨xWd.at (i := 630) (by decide +kernel) (by decide +kernel), it_TaleTypesModel, by decide +kernel, by decide +kernel⟩
theorem ce_yX8_feed : xCe yX8_feed cX8_feed 2 (some .int) 1 := ⟨xWd.at (i := 709) (by decide +kernel) (by decide +kernel), it_TaleTypesModel, by decide +kernel, by decide +kernel⟩
theorem ce_yX8_in : xCe yX8_in cX8_in 3 (some .boolean) 3 := ⟨xWd.at (i := 712) (by decide +kernel) (by decide +kernel), it_TaleTypesModel, by decide +kernel, by decide +kernel⟩
theorem ce_yX8_tale : xCe yX8_tale cX8_tale 2 (some .int) 0 := ⟨xWd.at (i := 718) (by decide +kernel) (by decide +kernel), it_TaleTypesModel, by decide +kernel, by decide +kernel⟩
theorem ce_yX8_notes : xCe yX8_notes cX8_notes 1 none 0 := ⟨xWd.at (i := 723) (by decide +kernel) (by decide +kernel), it_TaleTypesModel, by decide +kernel, by decide +kernel⟩
theorem ce_yX8_bring : xCe yX8_bring cX8_bring 6 none 5 := ⟨xWd.at (i := 726) (by decide +kernel) (by decide +kernel), it_TaleTypesModel, by decide +kernel, by decide +kernel⟩
theorem ce_yX8_told : xCe yX8_told cX8_told 2 (some .int) 1 := ⟨xWd.at (i := 730) (by decide +kernel) (by decide +kernel), it_TaleTypesModel, by decide +kernel, by decide +kernel⟩
theorem ce_yX8_nodesMany : xCe yX8_nodesMany cX8_nodesMany 1 (some .int) 0 := ⟨xWd.at (i := 734) (by decide +kernel) (by decide +kernel), it_TaleTypesModel, by decide +kernel, by decide +kernel⟩
theorem ce_yX8_likeTyped : xCe yX8_likeTyped cX8_likeTyped 5 (some .int) 0 := ⟨xWd.at (i := 738) (by decide +kernel) (by decide +kernel), it_TaleTypesModel, by decide +kernel, by decide +kernel⟩
theorem ce_yX8_takes : xCe yX8_takes cX8_takes 3 none 2 := ⟨xWd.at (i := 743) (by decide +kernel) (by decide +kernel), it_TaleTypesModel, by decide +kernel, by decide +kernel⟩
theorem ce_yX8_linesUp : xCe yX8_linesUp cX8_linesUp 10 (some .int) 0 := ⟨xWd.at (i := 747) (by decide +kernel) (by decide +kernel), it_TaleTypesModel, by decide +kernel, by decide +kernel⟩
theorem ce_yX8_stepCost : xCe yX8_stepCost cX8_stepCost 4 (some .int) 3 := ⟨xWd.at (i := 751) (by decide +kernel) (by decide +kernel), it_TaleTypesModel, by decide +kernel, by decide +kernel⟩
theorem ce_yX8_changeOf : xCe yX8_changeOf cX8_changeOf 4 (some .int) 2 := ⟨xWd.at (i := 755) (by decide +kernel) (by decide +kernel), it_TaleTypesModel, by decide +kernel, by decide +kernel⟩
theorem ce_yX8_lesser : xCe yX8_lesser cX8_lesser 2 (some .int) 2 := ⟨xWd.at (i := 758) (by decide +kernel) (by decide +kernel), it_TaleTypesModel, by decide +kernel, by decide +kernel⟩
theorem ce_yX8_isTurned : xCe yX8_isTurned cX8_isTurned 4 (some .boolean) 2 := ⟨xWd.at (i := 762) (by decide +kernel) (by decide +kernel), it_TaleTypesModel, by decide +kernel, by decide +kernel⟩
theorem ce_yX8_firstBy : xCe yX8_firstBy cX8_firstBy 1 (some .int) 1 := ⟨xWd.at (i := 765) (by decide +kernel) (by decide +kernel), it_TaleTypesModel, by decide +kernel, by decide +kernel⟩
theorem ce_yX8_otherBy : xCe yX8_otherBy cX8_otherBy 1 (some .int) 1 := ⟨xWd.at (i := 768) (by decide +kernel) (by decide +kernel), it_TaleTypesModel, by decide +kernel, by decide +kernel⟩
theorem ce_yX8_cellOf : xCe yX8_cellOf cX8_cellOf 2 (some .int) 2 := ⟨xWd.at (i := 771) (by decide +kernel) (by decide +kernel), it_TaleTypesModel, by decide +kernel, by decide +kernel⟩
theorem ce_yX8_allHave : xCe yX8_allHave cX8_allHave 6 (some .int) 1 := ⟨xWd.at (i := 775) (by decide +kernel) (by decide +kernel), it_TaleTypesModel, by decide +kernel, by decide +kernel⟩
theorem ce_yX8_has : xCe yX8_has cX8_has 2 (some .boolean) 2 := ⟨xWd.at (i := 778) (by decide +kernel) (by decide +kernel), it_TaleTypesModel, by decide +kernel, by decide +kernel⟩
theorem ce_yX8_wrong : xCe yX8_wrong cX8_wrong 4 (some .int) 0 := ⟨xWd.at (i := 782) (by decide +kernel) (by decide +kernel), it_TaleTypesModel, by decide +kernel, by decide +kernel⟩
theorem ce_yX8_isTale : xCe yX8_isTale cX8_isTale 2 (some .boolean) 1 := ⟨xWd.at (i := 786) (by decide +kernel) (by decide +kernel), it_TaleTypesModel, by decide +kernel, by decide +kernel⟩
theorem ce_yX8_apart : xCe yX8_apart cX8_apart 3 (some .int) 2 := ⟨xWd.at (i := 790) (by decide +kernel) (by decide +kernel), it_TaleTypesModel, by decide +kernel, by decide +kernel⟩
theorem ce_yX8_taleAt : xCe yX8_taleAt cX8_taleAt 3 (some .int) 2 := ⟨xWd.at (i := 794) (by decide +kernel) (by decide +kernel), it_TaleTypesModel, by decide +kernel, by decide +kernel⟩
theorem ce_yX8_wanders : xCe yX8_wanders cX8_wanders 3 (some .int) 1 := ⟨xWd.at (i := 799) (by decide +kernel) (by decide +kernel), it_TaleTypesModel, by decide +kernel, by decide +kernel⟩
theorem ce_yX8_over : xCe yX8_over cX8_over 4 (some .int) 1 := ⟨xWd.at (i := 803) (by decide +kernel) (by decide +kernel), it_TaleTypesModel, by decide +kernel, by decide +kernel⟩
theorem ce_yX8_hangs : xCe yX8_hangs cX8_hangs 5 (some .boolean) 1 := ⟨xWd.at (i := 807) (by decide +kernel) (by decide +kernel), it_TaleTypesModel, by decide +kernel, by decide +kernel⟩
theorem ce_yX8_ones : xCe yX8_ones cX8_ones 3 (some .int) 1 := ⟨xWd.at (i := 810) (by decide +kernel) (by decide +kernel), it_TaleTypesModel, by decide +kernel, by decide +kernel⟩
theorem ce_yX8_motif : xCe yX8_motif cX8_motif 3 (some .int) 2 := ⟨xWd.at (i := 814) (by decide +kernel) (by decide +kernel), it_TaleTypesModel, by decide +kernel, by decide +kernel⟩
theorem ce_yX8_costAt : xCe yX8_costAt cX8_costAt 2 (some .int) 1 := ⟨xWd.at (i := 818) (by decide +kernel) (by decide +kernel), it_TaleTypesModel, by decide +kernel, by decide +kernel⟩
theorem ce_yX8_pair : xCe yX8_pair cX8_pair 4 (some .int) 3 := ⟨xWd.at (i := 822) (by decide +kernel) (by decide +kernel), it_TaleTypesModel, by decide +kernel, by decide +kernel⟩
theorem ce_yX8_laysWay : xCe yX8_laysWay cX8_laysWay 8 (some .int) 2 := ⟨xWd.at (i := 826) (by decide +kernel) (by decide +kernel), it_TaleTypesModel, by decide +kernel, by decide +kernel⟩
theorem ce_yX8_isOfLeast : xCe yX8_isOfLeast cX8_isOfLeast 6 (some .boolean) 4 := ⟨xWd.at (i := 830) (by decide +kernel) (by decide +kernel), it_TaleTypesModel, by decide +kernel, by decide +kernel⟩
theorem ce_yX8_commonOrder : xCe yX8_commonOrder cX8_commonOrder 8 (some .int) 2 := ⟨xWd.at (i := 834) (by decide +kernel) (by decide +kernel), it_TaleTypesModel, by decide +kernel, by decide +kernel⟩
theorem ce_yX8_step : xCe yX8_step cX8_step 5 (some .int) 3 := ⟨xWd.at (i := 838) (by decide +kernel) (by decide +kernel), it_TaleTypesModel, by decide +kernel, by decide +kernel⟩
theorem ce_yX8_node : xCe yX8_node cX8_node 3 (some .int) 2 := ⟨xWd.at (i := 842) (by decide +kernel) (by decide +kernel), it_TaleTypesModel, by decide +kernel, by decide +kernel⟩
theorem ce_yX8_laysNodes : xCe yX8_laysNodes cX8_laysNodes 2 none 0 := ⟨xWd.at (i := 846) (by decide +kernel) (by decide +kernel), it_TaleTypesModel, by decide +kernel, by decide +kernel⟩
theorem ce_yX8_beginsTypes : xCe yX8_beginsTypes cX8_beginsTypes 2 none 0 := ⟨xWd.at (i := 850) (by decide +kernel) (by decide +kernel), it_TaleTypesModel, by decide +kernel, by decide +kernel⟩
theorem ce_yX8_laysFar : xCe yX8_laysFar cX8_laysFar 3 none 0 := ⟨xWd.at (i := 854) (by decide +kernel) (by decide +kernel), it_TaleTypesModel, by decide +kernel, by decide +kernel⟩
theorem ce_yX8_joinsOnce : xCe yX8_joinsOnce cX8_joinsOnce 8 none 1 := ⟨xWd.at (i := 858) (by decide +kernel) (by decide +kernel), it_TaleTypesModel, by decide +kernel, by decide +kernel⟩
theorem ce_yX8_nearBy : xCe yX8_nearBy cX8_nearBy 9 (some .int) 2 := ⟨xWd.at (i := 862) (by decide +kernel) (by decide +kernel), it_TaleTypesModel, by decide +kernel, by decide +kernel⟩
theorem ce_yX8_partsOf : xCe yX8_partsOf cX8_partsOf 3 (some .int) 2 := ⟨xWd.at (i := 866) (by decide +kernel) (by decide +kernel), it_TaleTypesModel, by decide +kernel, by decide +kernel⟩
theorem ce_yX8_joins : xCe yX8_joins cX8_joins 3 none 2 := ⟨xWd.at (i := 870) (by decide +kernel) (by decide +kernel), it_TaleTypesModel, by decide +kernel, by decide +kernel⟩
theorem ce_yX8_middleOf : xCe yX8_middleOf cX8_middleOf 7 (some .int) 1 := ⟨xWd.at (i := 874) (by decide +kernel) (by decide +kernel), it_TaleTypesModel, by decide +kernel, by decide +kernel⟩
theorem ce_yX8_types : xCe yX8_types cX8_types 6 (some .int) 2 := ⟨xWd.at (i := 878) (by decide +kernel) (by decide +kernel), it_TaleTypesModel, by decide +kernel, by decide +kernel⟩
theorem ce_yX8_middle : xCe yX8_middle cX8_middle 2 (some .int) 1 := ⟨xWd.at (i := 882) (by decide +kernel) (by decide +kernel), it_TaleTypesModel, by decide +kernel, by decide +kernel⟩
theorem ce_yX8_areTales : xCe yX8_areTales cX8_areTales 2 (some .boolean) 1 := ⟨xWd.at (i := 886) (by decide +kernel) (by decide +kernel), it_TaleTypesModel, by decide +kernel, by decide +kernel⟩
theorem ce_yX8_common : xCe yX8_common cX8_common 2 (some .int) 1 := ⟨xWd.at (i := 890) (by decide +kernel) (by decide +kernel), it_TaleTypesModel, by decide +kernel, by decide +kernel⟩
theorem ce_yX8_wandered : xCe yX8_wandered cX8_wandered 3 (some .int) 2 := ⟨xWd.at (i := 894) (by decide +kernel) (by decide +kernel), it_TaleTypesModel, by decide +kernel, by decide +kernel⟩
theorem ce_yX8_take : xCe yX8_take cX8_take 3 (some .int) 1 := ⟨xWd.at (i := 898) (by decide +kernel) (by decide +kernel), it_TaleTypesModel, by decide +kernel, by decide +kernel⟩
theorem ce_yX8_cost : xCe yX8_cost cX8_cost 4 (some .int) 2 := ⟨xWd.at (i := 902) (by decide +kernel) (by decide +kernel), it_TaleTypesModel, by decide +kernel, by decide +kernel⟩
theorem ce_yX8_kind : xCe yX8_kind cX8_kind 3 (some .int) 1 := ⟨xWd.at (i := 906) (by decide +kernel) (by decide +kernel), it_TaleTypesModel, by decide +kernel, by decide +kernel⟩
theorem ce_yX8_road : xCe yX8_road cX8_road 6 (some .int) 3 := ⟨xWd.at (i := 910) (by decide +kernel) (by decide +kernel), it_TaleTypesModel, by decide +kernel, by decide +kernel⟩
theorem ce_yX8_isPlace : xCe yX8_isPlace cX8_isPlace 1 (some .boolean) 1 := ⟨xWd.at (i := 913) (by decide +kernel) (by decide +kernel), it_TaleTypesModel, by decide +kernel, by decide +kernel⟩
theorem ce_yX8_at : xCe yX8_at cX8_at 3 (some .int) 2 := ⟨xWd.at (i := 917) (by decide +kernel) (by decide +kernel), it_TaleTypesModel, by decide +kernel, by decide +kernel⟩
theorem ce_yX8_drift : xCe yX8_drift cX8_drift 5 (some .int) 1 := ⟨xWd.at (i := 921) (by decide +kernel) (by decide +kernel), it_TaleTypesModel, by decide +kernel, by decide +kernel⟩
theorem ce_yX8_draw : xCe yX8_draw cX8_draw 4 (some .int) 1 := ⟨xWd.at (i := 925) (by decide +kernel) (by decide +kernel), it_TaleTypesModel, by decide +kernel, by decide +kernel⟩
theorem ce_yX8_undo : xCe yX8_undo cX8_undo 2 (some .int) 1 := ⟨xWd.at (i := 933) (by decide +kernel) (by decide +kernel), it_TaleTypesModel, by decide +kernel, by decide +kernel⟩
theorem ce_yX8_write : xCe yX8_write cX8_write 4 (some .int) 3 := ⟨xWd.at (i := 937) (by decide +kernel) (by decide +kernel), it_TaleTypesModel, by decide +kernel, by decide +kernel⟩
theorem ce_yX8_tear : xCe yX8_tear cX8_tear 2 (some .int) 0 := ⟨xWd.at (i := 941) (by decide +kernel) (by decide +kernel), it_TaleTypesModel, by decide +kernel, by decide +kernel⟩
theorem ce_yX8_seed : xCe yX8_seed cX8_seed 3 (some .int) 1 := ⟨xWd.at (i := 945) (by decide +kernel) (by decide +kernel), it_TaleTypesModel, by decide +kernel, by decide +kernel⟩
theorem ce_yX8_keep : xCe yX8_keep cX8_keep 2 (some .int) 1 := ⟨xWd.at (i := 949) (by decide +kernel) (by decide +kernel), it_TaleTypesModel, by decide +kernel, by decide +kernel⟩
theorem ce_yX8_goBack : xCe yX8_goBack cX8_goBack 2 (some .int) 1 := ⟨xWd.at (i := 953) (by decide +kernel) (by decide +kernel), it_TaleTypesModel, by decide +kernel, by decide +kernel⟩
theorem xcl0 : xCl 0 RX0 TX0 4 tyX0 := ⟨rfl, by unfold xWd; decide +kernel, tyX0_ok, nmX0, rfl, by decide +kernel, by decide +kernel⟩
theorem xcl1 : xCl 1 RX1 TX1 3 tyX1 := ⟨rfl, by unfold xWd; decide +kernel, tyX1_ok, nmX1, rfl, by decide +kernel, by decide +kernel⟩
theorem xcl2 : xCl 2 RX2 TX2 1 tyX2 := ⟨rfl, by unfold xWd; decide +kernel, tyX2_ok, nmX2, rfl, by decide +kernel, by decide +kernel⟩
theorem xcl3 : xCl 3 RX3 TX3 3 tyX3 := ⟨rfl, by unfold xWd; decide +kernel, tyX3_ok, nmX3, rfl, by decide +kernel, by decide +kernel⟩
theorem xcl4 : xCl 4 RX4 TX4 9 tyX4 := ⟨rfl, by unfold xWd; decide +kernel, tyX4_ok, nmX4, rfl, by decide +kernel, by decide +kernel⟩
theorem xcl5 : xCl 5 RX5 TX5 6 tyX5 := ⟨rfl, by unfold xWd; decide +kernel, tyX5_ok, nmX5, rfl, by decide +kernel, by decide +kernel⟩
theorem xcl6 : xCl 6 RX6 TX6 11 tyX6 := ⟨rfl, by unfold xWd; decide +kernel, tyX6_ok, nmX6, rfl, by decide +kernel, by decide +kernel⟩
theorem xcl7 : xCl 7 RX7 TX7 10 tyX7 := ⟨rfl, by unfold xWd; decide +kernel, tyX7_ok, nmX7, rfl, by decide +kernel, by decide +kernel⟩
theorem xcl8 : xCl 8 RX8 TX8 24 tyX8 := ⟨rfl, by unfold xWd; decide +kernel, tyX8_ok, nmX8, rfl, by decide +kernel, by decide +kernel⟩
end
section
def xSH (k : Nat) : Nat × Nat := ([(0, 7), (0, 5), (2, 8), (1, 8), (1, 4), (1, 8), (0, 1), (4, 16), (0, 5), (2, 8), (1, 8), (1, 4), (1, 8), (0, 5), (2, 8), (1, 8), (1, 4), (1, 8), (0, 5), (2, 8), (1, 8), (1, 4), (1, 8), (0, 5), (2, 8), (1, 8), (1, 4), (1, 8), (0, 5), (2, 8), (1, 8), (1, 4), (1, 8), (0, 5), (2, 8), (1, 8), (1, 4), (1, 8), (0, 5), (2, 8), (1, 8), (1, 4), (1, 8), (0, 5), (2, 8), (1, 8), (1, 4), (1, 8), (0, 5), (2, 8), (1, 8), (1, 4), (1, 8), (0, 5), (2, 8), (1, 8), (1, 4), (1, 8), (0, 5), (2, 8), (1, 8), (1, 4), (1, 8), (0, 5), (2, 8), (1, 8), (1, 4), (1, 8), (0, 5), (2, 8), (1, 8), (1, 4), (1, 8), (0, 5), (2, 8), (1, 8), (1, 4), (1, 8), (0, 5), (2, 8), (1, 8), (1, 4), (1, 8), (0, 5), (2, 8), (1, 8), (1, 4), (1, 8), (0, 0), (1, 20), (1, 20), (1, 20), (0, 4), (1, 10), (1, 10), (1, 4), (1, 121), (1, 121), (1, 121), (1, 20), (0, 2), (1, 64), (0, 6), (1, 8), (1, 8), (1, 8), (1, 8), (5, 2), (0, 3), (0, 5), (2, 8), (1, 8), (1, 4), (1, 8), (0, 3), (0, 5), (2, 8), (1, 8), (1, 4), (1, 8), (0, 8), (1, 110), (1, 1760), (1, 222), (3, 2), (1, 10), (1, 60), (1, 10), (1, 10), (1, 121), (1, 121), (1, 20), (1, 121), (1, 64), (1, 8), (1, 7), (1, 7), (1, 7)] : List (Nat × Nat)).getD k (1, 0)
def xRF (k : Nat) (j : Int) : Int := if j < 0 then -1 else (([[1, 6, 88, 92, 100, 102, 107], [2, 3, 4, 5], [], [], [], [], [7], [8, 13, 18, 23, 28, 33, 38, 43, 48, 53, 58, 63, 68, 73, 78, 83], [9, 10, 11, 12], [], [], [], [], [14, 15, 16, 17], [], [], [], [], [19, 20, 21, 22], [], [], [], [], [24, 25, 26, 27], [], [], [], [], [29, 30, 31, 32], [], [], [], [], [34, 35, 36, 37], [], [], [], [], [39, 40, 41, 42], [], [], [], [], [44, 45, 46, 47], [], [], [], [], [49, 50, 51, 52], [], [], [], [], [54, 55, 56, 57], [], [], [], [], [59, 60, 61, 62], [], [], [], [], [64, 65, 66, 67], [], [], [], [], [69, 70, 71, 72], [], [], [], [], [74, 75, 76, 77], [], [], [], [], [79, 80, 81, 82], [], [], [], [], [84, 85, 86, 87], [], [], [], [], [89, 90, 91], [], [], [], [93, 94, 95, 96, 97, 98, 99], [], [], [], [], [], [], [], [101], [], [103, 104, 105, 106], [], [], [], [], [108, 114], [109], [110, 111, 112, 113], [], [], [], [], [115], [116, 117, 118, 119], [], [], [], [], [121, 122, -1, 123, 124, 125, -1, 126, -1, -1, 127, -1, 128, -1, 129, 130, 131, 132, 133, 134, -1, 135, 136, 137], [], [], [], [], [], [], [], [], [], [], [], [], [], [], [], [], []] : List (List Int)).getD k []).getD j.toNat (-1)
def WW : xW := (138, xSH, xRF)
theorem s_0 : WW.2.1 0 = (0, 7) := by decide +kernel
theorem s_1 : WW.2.1 1 = (0, 5) := by decide +kernel
theorem s_2 : WW.2.1 2 = (2, 8) := by decide +kernel
theorem s_3 : WW.2.1 3 = (1, 8) := by decide +kernel
theorem s_4 : WW.2.1 4 = (1, 4) := by decide +kernel
theorem s_5 : WW.2.1 5 = (1, 8) := by decide +kernel
theorem s_6 : WW.2.1 6 = (0, 1) := by decide +kernel
theorem s_7 : WW.2.1 7 = (4, 16) := by decide +kernel
theorem s_8 : WW.2.1 8 = (0, 5) := by decide +kernel
theorem s_9 : WW.2.1 9 = (2, 8) := by decide +kernel
theorem s_10 : WW.2.1 10 = (1, 8) := by decide +kernel
theorem s_11 : WW.2.1 11 = (1, 4) := by decide +kernel
theorem s_12 : WW.2.1 12 = (1, 8) := by decide +kernel
theorem s_13 : WW.2.1 13 = (0, 5) := by decide +kernel
theorem s_14 : WW.2.1 14 = (2, 8) := by decide +kernel
theorem s_15 : WW.2.1 15 = (1, 8) := by decide +kernel
theorem s_16 : WW.2.1 16 = (1, 4) := by decide +kernel
theorem s_17 : WW.2.1 17 = (1, 8) := by decide +kernel
theorem s_18 : WW.2.1 18 = (0, 5) := by decide +kernel
theorem s_19 : WW.2.1 19 = (2, 8) := by decide +kernel
theorem s_20 : WW.2.1 20 = (1, 8) := by decide +kernel
theorem s_21 : WW.2.1 21 = (1, 4) := by decide +kernel
theorem s_22 : WW.2.1 22 = (1, 8) := by decide +kernel
theorem s_23 : WW.2.1 23 = (0, 5) := by decide +kernel
theorem s_24 : WW.2.1 24 = (2, 8) := by decide +kernel
theorem s_25 : WW.2.1 25 = (1, 8) := by decide +kernel
theorem s_26 : WW.2.1 26 = (1, 4) := by decide +kernel
theorem s_27 : WW.2.1 27 = (1, 8) := by decide +kernel
theorem s_28 : WW.2.1 28 = (0, 5) := by decide +kernel
theorem s_29 : WW.2.1 29 = (2, 8) := by decide +kernel
theorem s_30 : WW.2.1 30 = (1, 8) := by decide +kernel
theorem s_31 : WW.2.1 31 = (1, 4) := by decide +kernel
theorem s_32 : WW.2.1 32 = (1, 8) := by decide +kernel
theorem s_33 : WW.2.1 33 = (0, 5) := by decide +kernel
theorem s_34 : WW.2.1 34 = (2, 8) := by decide +kernel
theorem s_35 : WW.2.1 35 = (1, 8) := by decide +kernel
theorem s_36 : WW.2.1 36 = (1, 4) := by decide +kernel
theorem s_37 : WW.2.1 37 = (1, 8) := by decide +kernel
theorem s_38 : WW.2.1 38 = (0, 5) := by decide +kernel
theorem s_39 : WW.2.1 39 = (2, 8) := by decide +kernel
theorem s_40 : WW.2.1 40 = (1, 8) := by decide +kernel
theorem s_41 : WW.2.1 41 = (1, 4) := by decide +kernel
theorem s_42 : WW.2.1 42 = (1, 8) := by decide +kernel
theorem s_43 : WW.2.1 43 = (0, 5) := by decide +kernel
theorem s_44 : WW.2.1 44 = (2, 8) := by decide +kernel
theorem s_45 : WW.2.1 45 = (1, 8) := by decide +kernel
theorem s_46 : WW.2.1 46 = (1, 4) := by decide +kernel
theorem s_47 : WW.2.1 47 = (1, 8) := by decide +kernel
theorem s_48 : WW.2.1 48 = (0, 5) := by decide +kernel
theorem s_49 : WW.2.1 49 = (2, 8) := by decide +kernel
theorem s_50 : WW.2.1 50 = (1, 8) := by decide +kernel
theorem s_51 : WW.2.1 51 = (1, 4) := by decide +kernel
theorem s_52 : WW.2.1 52 = (1, 8) := by decide +kernel
theorem s_53 : WW.2.1 53 = (0, 5) := by decide +kernel
theorem s_54 : WW.2.1 54 = (2, 8) := by decide +kernel
theorem s_55 : WW.2.1 55 = (1, 8) := by decide +kernel
theorem s_56 : WW.2.1 56 = (1, 4) := by decide +kernel
theorem s_57 : WW.2.1 57 = (1, 8) := by decide +kernel
theorem s_58 : WW.2.1 58 = (0, 5) := by decide +kernel
theorem s_59 : WW.2.1 59 = (2, 8) := by decide +kernel
theorem s_60 : WW.2.1 60 = (1, 8) := by decide +kernel
theorem s_61 : WW.2.1 61 = (1, 4) := by decide +kernel
theorem s_62 : WW.2.1 62 = (1, 8) := by decide +kernel
theorem s_63 : WW.2.1 63 = (0, 5) := by decide +kernel
theorem s_64 : WW.2.1 64 = (2, 8) := by decide +kernel
theorem s_65 : WW.2.1 65 = (1, 8) := by decide +kernel
theorem s_66 : WW.2.1 66 = (1, 4) := by decide +kernel
theorem s_67 : WW.2.1 67 = (1, 8) := by decide +kernel
theorem s_68 : WW.2.1 68 = (0, 5) := by decide +kernel
theorem s_69 : WW.2.1 69 = (2, 8) := by decide +kernel
theorem s_70 : WW.2.1 70 = (1, 8) := by decide +kernel
theorem s_71 : WW.2.1 71 = (1, 4) := by decide +kernel
theorem s_72 : WW.2.1 72 = (1, 8) := by decide +kernel
theorem s_73 : WW.2.1 73 = (0, 5) := by decide +kernel
theorem s_74 : WW.2.1 74 = (2, 8) := by decide +kernel
theorem s_75 : WW.2.1 75 = (1, 8) := by decide +kernel
theorem s_76 : WW.2.1 76 = (1, 4) := by decide +kernel
theorem s_77 : WW.2.1 77 = (1, 8) := by decide +kernel
theorem s_78 : WW.2.1 78 = (0, 5) := by decide +kernel
theorem s_79 : WW.2.1 79 = (2, 8) := by decide +kernel
theorem s_80 : WW.2.1 80 = (1, 8) := by decide +kernel
theorem s_81 : WW.2.1 81 = (1, 4) := by decide +kernel
theorem s_82 : WW.2.1 82 = (1, 8) := by decide +kernel
theorem s_83 : WW.2.1 83 = (0, 5) := by decide +kernel
theorem s_84 : WW.2.1 84 = (2, 8) := by decide +kernel
theorem s_85 : WW.2.1 85 = (1, 8) := by decide +kernel
theorem s_86 : WW.2.1 86 = (1, 4) := by decide +kernel
theorem s_87 : WW.2.1 87 = (1, 8) := by decide +kernel
theorem s_88 : WW.2.1 88 = (0, 0) := by decide +kernel
theorem s_89 : WW.2.1 89 = (1, 20) := by decide +kernel
theorem s_90 : WW.2.1 90 = (1, 20) := by decide +kernel
theorem s_91 : WW.2.1 91 = (1, 20) := by decide +kernel
theorem s_92 : WW.2.1 92 = (0, 4) := by decide +kernel
theorem s_93 : WW.2.1 93 = (1, 10) := by decide +kernel
theorem s_94 : WW.2.1 94 = (1, 10) := by decide +kernel
theorem s_95 : WW.2.1 95 = (1, 4) := by decide +kernel
theorem s_96 : WW.2.1 96 = (1, 121) := by decide +kernel
theorem s_97 : WW.2.1 97 = (1, 121) := by decide +kernel
theorem s_98 : WW.2.1 98 = (1, 121) := by decide +kernel
theorem s_99 : WW.2.1 99 = (1, 20) := by decide +kernel
theorem s_100 : WW.2.1 100 = (0, 2) := by decide +kernel
theorem s_101 : WW.2.1 101 = (1, 64) := by decide +kernel
theorem s_102 : WW.2.1 102 = (0, 6) := by decide +kernel
theorem s_103 : WW.2.1 103 = (1, 8) := by decide +kernel
theorem s_104 : WW.2.1 104 = (1, 8) := by decide +kernel
theorem s_105 : WW.2.1 105 = (1, 8) := by decide +kernel
theorem s_106 : WW.2.1 106 = (1, 8) := by decide +kernel
theorem s_107 : WW.2.1 107 = (5, 2) := by decide +kernel
theorem s_108 : WW.2.1 108 = (0, 3) := by decide +kernel
theorem s_109 : WW.2.1 109 = (0, 5) := by decide +kernel
theorem s_110 : WW.2.1 110 = (2, 8) := by decide +kernel
theorem s_111 : WW.2.1 111 = (1, 8) := by decide +kernel
theorem s_112 : WW.2.1 112 = (1, 4) := by decide +kernel
theorem s_113 : WW.2.1 113 = (1, 8) := by decide +kernel
theorem s_114 : WW.2.1 114 = (0, 3) := by decide +kernel
theorem s_115 : WW.2.1 115 = (0, 5) := by decide +kernel
theorem s_116 : WW.2.1 116 = (2, 8) := by decide +kernel
theorem s_117 : WW.2.1 117 = (1, 8) := by decide +kernel
theorem s_118 : WW.2.1 118 = (1, 4) := by decide +kernel
theorem s_119 : WW.2.1 119 = (1, 8) := by decide +kernel
theorem s_120 : WW.2.1 120 = (0, 8) := by decide +kernel
theorem s_121 : WW.2.1 121 = (1, 110) := by decide +kernel
theorem s_122 : WW.2.1 122 = (1, 1760) := by decide +kernel
theorem s_123 : WW.2.1 123 = (1, 222) := by decide +kernel
theorem s_124 : WW.2.1 124 = (3, 2) := by decide +kernel
theorem s_125 : WW.2.1 125 = (1, 10) := by decide +kernel
theorem s_126 : WW.2.1 126 = (1, 60) := by decide +kernel
theorem s_127 : WW.2.1 127 = (1, 10) := by decide +kernel
theorem s_128 : WW.2.1 128 = (1, 10) := by decide +kernel
theorem s_129 : WW.2.1 129 = (1, 121) := by decide +kernel
theorem s_130 : WW.2.1 130 = (1, 121) := by decide +kernel
theorem s_131 : WW.2.1 131 = (1, 20) := by decide +kernel
theorem s_132 : WW.2.1 132 = (1, 121) := by decide +kernel
theorem s_133 : WW.2.1 133 = (1, 64) := by decide +kernel
theorem s_134 : WW.2.1 134 = (1, 8) := by decide +kernel
theorem s_135 : WW.2.1 135 = (1, 7) := by decide +kernel
theorem s_136 : WW.2.1 136 = (1, 7) := by decide +kernel
theorem s_137 : WW.2.1 137 = (1, 7) := by decide +kernel
theorem f_0_0 : WW.2.2 0 0 = ((1 : Nat) : Int) := by decide +kernel
theorem f_0_1 : WW.2.2 0 1 = ((6 : Nat) : Int) := by decide +kernel
theorem f_0_2 : WW.2.2 0 2 = ((88 : Nat) : Int) := by decide +kernel
theorem f_0_3 : WW.2.2 0 3 = ((92 : Nat) : Int) := by decide +kernel
theorem f_0_4 : WW.2.2 0 4 = ((100 : Nat) : Int) := by decide +kernel
theorem f_0_5 : WW.2.2 0 5 = ((102 : Nat) : Int) := by decide +kernel
theorem f_0_6 : WW.2.2 0 6 = ((107 : Nat) : Int) := by decide +kernel
theorem f_1_0 : WW.2.2 1 0 = ((2 : Nat) : Int) := by decide +kernel
theorem f_1_1 : WW.2.2 1 1 = ((3 : Nat) : Int) := by decide +kernel
theorem f_1_2 : WW.2.2 1 2 = ((4 : Nat) : Int) := by decide +kernel
theorem f_1_3 : WW.2.2 1 3 = ((5 : Nat) : Int) := by decide +kernel
theorem f_6_0 : WW.2.2 6 0 = ((7 : Nat) : Int) := by decide +kernel
theorem f_7_0 : WW.2.2 7 0 = ((8 : Nat) : Int) := by decide +kernel
theorem f_7_1 : WW.2.2 7 1 = ((13 : Nat) : Int) := by decide +kernel
theorem f_7_2 : WW.2.2 7 2 = ((18 : Nat) : Int) := by decide +kernel
theorem f_7_3 : WW.2.2 7 3 = ((23 : Nat) : Int) := by decide +kernel
theorem f_7_4 : WW.2.2 7 4 = ((28 : Nat) : Int) := by decide +kernel
theorem f_7_5 : WW.2.2 7 5 = ((33 : Nat) : Int) := by decide +kernel
theorem f_7_6 : WW.2.2 7 6 = ((38 : Nat) : Int) := by decide +kernel
theorem f_7_7 : WW.2.2 7 7 = ((43 : Nat) : Int) := by decide +kernel
theorem f_7_8 : WW.2.2 7 8 = ((48 : Nat) : Int) := by decide +kernel
theorem f_7_9 : WW.2.2 7 9 = ((53 : Nat) : Int) := by decide +kernel
theorem f_7_10 : WW.2.2 7 10 = ((58 : Nat) : Int) := by decide +kernel
theorem f_7_11 : WW.2.2 7 11 = ((63 : Nat) : Int) := by decide +kernel
theorem f_7_12 : WW.2.2 7 12 = ((68 : Nat) : Int) := by decide +kernel
theorem f_7_13 : WW.2.2 7 13 = ((73 : Nat) : Int) := by decide +kernel
theorem f_7_14 : WW.2.2 7 14 = ((78 : Nat) : Int) := by decide +kernel
theorem f_7_15 : WW.2.2 7 15 = ((83 : Nat) : Int) := by decide +kernel
theorem f_8_0 : WW.2.2 8 0 = ((9 : Nat) : Int) := by decide +kernel
theorem f_8_1 : WW.2.2 8 1 = ((10 : Nat) : Int) := by decide +kernel
theorem f_8_2 : WW.2.2 8 2 = ((11 : Nat) : Int) := by decide +kernel
theorem f_8_3 : WW.2.2 8 3 = ((12 : Nat) : Int) := by decide +kernel
theorem f_13_0 : WW.2.2 13 0 = ((14 : Nat) : Int) := by decide +kernel
theorem f_13_1 : WW.2.2 13 1 = ((15 : Nat) : Int) := by decide +kernel
theorem f_13_2 : WW.2.2 13 2 = ((16 : Nat) : Int) := by decide +kernel
theorem f_13_3 : WW.2.2 13 3 = ((17 : Nat) : Int) := by decide +kernel
theorem f_18_0 : WW.2.2 18 0 = ((19 : Nat) : Int) := by decide +kernel
theorem f_18_1 : WW.2.2 18 1 = ((20 : Nat) : Int) := by decide +kernel
theorem f_18_2 : WW.2.2 18 2 = ((21 : Nat) : Int) := by decide +kernel
theorem f_18_3 : WW.2.2 18 3 = ((22 : Nat) : Int) := by decide +kernel
theorem f_23_0 : WW.2.2 23 0 = ((24 : Nat) : Int) := by decide +kernel
theorem f_23_1 : WW.2.2 23 1 = ((25 : Nat) : Int) := by decide +kernel
theorem f_23_2 : WW.2.2 23 2 = ((26 : Nat) : Int) := by decide +kernel
theorem f_23_3 : WW.2.2 23 3 = ((27 : Nat) : Int) := by decide +kernel
theorem f_28_0 : WW.2.2 28 0 = ((29 : Nat) : Int) := by decide +kernel
theorem f_28_1 : WW.2.2 28 1 = ((30 : Nat) : Int) := by decide +kernel
theorem f_28_2 : WW.2.2 28 2 = ((31 : Nat) : Int) := by decide +kernel
theorem f_28_3 : WW.2.2 28 3 = ((32 : Nat) : Int) := by decide +kernel
theorem f_33_0 : WW.2.2 33 0 = ((34 : Nat) : Int) := by decide +kernel
theorem f_33_1 : WW.2.2 33 1 = ((35 : Nat) : Int) := by decide +kernel
theorem f_33_2 : WW.2.2 33 2 = ((36 : Nat) : Int) := by decide +kernel
theorem f_33_3 : WW.2.2 33 3 = ((37 : Nat) : Int) := by decide +kernel
theorem f_38_0 : WW.2.2 38 0 = ((39 : Nat) : Int) := by decide +kernel
theorem f_38_1 : WW.2.2 38 1 = ((40 : Nat) : Int) := by decide +kernel
theorem f_38_2 : WW.2.2 38 2 = ((41 : Nat) : Int) := by decide +kernel
theorem f_38_3 : WW.2.2 38 3 = ((42 : Nat) : Int) := by decide +kernel
theorem f_43_0 : WW.2.2 43 0 = ((44 : Nat) : Int) := by decide +kernel
theorem f_43_1 : WW.2.2 43 1 = ((45 : Nat) : Int) := by decide +kernel
theorem f_43_2 : WW.2.2 43 2 = ((46 : Nat) : Int) := by decide +kernel
theorem f_43_3 : WW.2.2 43 3 = ((47 : Nat) : Int) := by decide +kernel
theorem f_48_0 : WW.2.2 48 0 = ((49 : Nat) : Int) := by decide +kernel
theorem f_48_1 : WW.2.2 48 1 = ((50 : Nat) : Int) := by decide +kernel
theorem f_48_2 : WW.2.2 48 2 = ((51 : Nat) : Int) := by decide +kernel
theorem f_48_3 : WW.2.2 48 3 = ((52 : Nat) : Int) := by decide +kernel
theorem f_53_0 : WW.2.2 53 0 = ((54 : Nat) : Int) := by decide +kernel
theorem f_53_1 : WW.2.2 53 1 = ((55 : Nat) : Int) := by decide +kernel
theorem f_53_2 : WW.2.2 53 2 = ((56 : Nat) : Int) := by decide +kernel
theorem f_53_3 : WW.2.2 53 3 = ((57 : Nat) : Int) := by decide +kernel
theorem f_58_0 : WW.2.2 58 0 = ((59 : Nat) : Int) := by decide +kernel
theorem f_58_1 : WW.2.2 58 1 = ((60 : Nat) : Int) := by decide +kernel
theorem f_58_2 : WW.2.2 58 2 = ((61 : Nat) : Int) := by decide +kernel
theorem f_58_3 : WW.2.2 58 3 = ((62 : Nat) : Int) := by decide +kernel
theorem f_63_0 : WW.2.2 63 0 = ((64 : Nat) : Int) := by decide +kernel
theorem f_63_1 : WW.2.2 63 1 = ((65 : Nat) : Int) := by decide +kernel
theorem f_63_2 : WW.2.2 63 2 = ((66 : Nat) : Int) := by decide +kernel
theorem f_63_3 : WW.2.2 63 3 = ((67 : Nat) : Int) := by decide +kernel
theorem f_68_0 : WW.2.2 68 0 = ((69 : Nat) : Int) := by decide +kernel
theorem f_68_1 : WW.2.2 68 1 = ((70 : Nat) : Int) := by decide +kernel
theorem f_68_2 : WW.2.2 68 2 = ((71 : Nat) : Int) := by decide +kernel
theorem f_68_3 : WW.2.2 68 3 = ((72 : Nat) : Int) := by decide +kernel
theorem f_73_0 : WW.2.2 73 0 = ((74 : Nat) : Int) := by decide +kernel
theorem f_73_1 : WW.2.2 73 1 = ((75 : Nat) : Int) := by decide +kernel
theorem f_73_2 : WW.2.2 73 2 = ((76 : Nat) : Int) := by decide +kernel
theorem f_73_3 : WW.2.2 73 3 = ((77 : Nat) : Int) := by decide +kernel
theorem f_78_0 : WW.2.2 78 0 = ((79 : Nat) : Int) := by decide +kernel
theorem f_78_1 : WW.2.2 78 1 = ((80 : Nat) : Int) := by decide +kernel
theorem f_78_2 : WW.2.2 78 2 = ((81 : Nat) : Int) := by decide +kernel
theorem f_78_3 : WW.2.2 78 3 = ((82 : Nat) : Int) := by decide +kernel
theorem f_83_0 : WW.2.2 83 0 = ((84 : Nat) : Int) := by decide +kernel
theorem f_83_1 : WW.2.2 83 1 = ((85 : Nat) : Int) := by decide +kernel
theorem f_83_2 : WW.2.2 83 2 = ((86 : Nat) : Int) := by decide +kernel
theorem f_83_3 : WW.2.2 83 3 = ((87 : Nat) : Int) := by decide +kernel
theorem f_88_0 : WW.2.2 88 0 = ((89 : Nat) : Int) := by decide +kernel
theorem f_88_1 : WW.2.2 88 1 = ((90 : Nat) : Int) := by decide +kernel
theorem f_88_2 : WW.2.2 88 2 = ((91 : Nat) : Int) := by decide +kernel
theorem f_92_0 : WW.2.2 92 0 = ((93 : Nat) : Int) := by decide +kernel
theorem f_92_1 : WW.2.2 92 1 = ((94 : Nat) : Int) := by decide +kernel
theorem f_92_2 : WW.2.2 92 2 = ((95 : Nat) : Int) := by decide +kernel
theorem f_92_3 : WW.2.2 92 3 = ((96 : Nat) : Int) := by decide +kernel
theorem f_92_4 : WW.2.2 92 4 = ((97 : Nat) : Int) := by decide +kernel
theorem f_92_5 : WW.2.2 92 5 = ((98 : Nat) : Int) := by decide +kernel
theorem f_92_6 : WW.2.2 92 6 = ((99 : Nat) : Int) := by decide +kernel
theorem f_100_0 : WW.2.2 100 0 = ((101 : Nat) : Int) := by decide +kernel
theorem f_102_0 : WW.2.2 102 0 = ((103 : Nat) : Int) := by decide +kernel
theorem f_102_1 : WW.2.2 102 1 = ((104 : Nat) : Int) := by decide +kernel
theorem f_102_2 : WW.2.2 102 2 = ((105 : Nat) : Int) := by decide +kernel
theorem f_102_3 : WW.2.2 102 3 = ((106 : Nat) : Int) := by decide +kernel
theorem f_107_0 : WW.2.2 107 0 = ((108 : Nat) : Int) := by decide +kernel
theorem f_107_1 : WW.2.2 107 1 = ((114 : Nat) : Int) := by decide +kernel
theorem f_108_0 : WW.2.2 108 0 = ((109 : Nat) : Int) := by decide +kernel
theorem f_109_0 : WW.2.2 109 0 = ((110 : Nat) : Int) := by decide +kernel
theorem f_109_1 : WW.2.2 109 1 = ((111 : Nat) : Int) := by decide +kernel
theorem f_109_2 : WW.2.2 109 2 = ((112 : Nat) : Int) := by decide +kernel
theorem f_109_3 : WW.2.2 109 3 = ((113 : Nat) : Int) := by decide +kernel
theorem f_114_0 : WW.2.2 114 0 = ((115 : Nat) : Int) := by decide +kernel
theorem f_115_0 : WW.2.2 115 0 = ((116 : Nat) : Int) := by decide +kernel
theorem f_115_1 : WW.2.2 115 1 = ((117 : Nat) : Int) := by decide +kernel
theorem f_115_2 : WW.2.2 115 2 = ((118 : Nat) : Int) := by decide +kernel
theorem f_115_3 : WW.2.2 115 3 = ((119 : Nat) : Int) := by decide +kernel
theorem f_120_0 : WW.2.2 120 0 = ((121 : Nat) : Int) := by decide +kernel
theorem f_120_1 : WW.2.2 120 1 = ((122 : Nat) : Int) := by decide +kernel
theorem f_120_3 : WW.2.2 120 3 = ((123 : Nat) : Int) := by decide +kernel
theorem f_120_4 : WW.2.2 120 4 = ((124 : Nat) : Int) := by decide +kernel
theorem f_120_5 : WW.2.2 120 5 = ((125 : Nat) : Int) := by decide +kernel
theorem f_120_7 : WW.2.2 120 7 = ((126 : Nat) : Int) := by decide +kernel
theorem f_120_10 : WW.2.2 120 10 = ((127 : Nat) : Int) := by decide +kernel
theorem f_120_12 : WW.2.2 120 12 = ((128 : Nat) : Int) := by decide +kernel
theorem f_120_14 : WW.2.2 120 14 = ((129 : Nat) : Int) := by decide +kernel
theorem f_120_15 : WW.2.2 120 15 = ((130 : Nat) : Int) := by decide +kernel
theorem f_120_16 : WW.2.2 120 16 = ((131 : Nat) : Int) := by decide +kernel
theorem f_120_17 : WW.2.2 120 17 = ((132 : Nat) : Int) := by decide +kernel
theorem f_120_18 : WW.2.2 120 18 = ((133 : Nat) : Int) := by decide +kernel
theorem f_120_19 : WW.2.2 120 19 = ((134 : Nat) : Int) := by decide +kernel
theorem f_120_21 : WW.2.2 120 21 = ((135 : Nat) : Int) := by decide +kernel
theorem f_120_22 : WW.2.2 120 22 = ((136 : Nat) : Int) := by decide +kernel
theorem f_120_23 : WW.2.2 120 23 = ((137 : Nat) : Int) := by decide +kernel
def xsts : List Nat := [1, 8, 13, 18, 23, 28, 33, 38, 43, 48, 53, 58, 63, 68, 73, 78, 83, 109, 115]
/-- a State: its cell, and the four rows behind it -/
theorem st_sh : ∀ c ∈ xsts, WW.2.1 c = (0, 5) ∧ WW.2.1 (c + 1) = (2, 8) ∧ WW.2.1 (c + 2) = (1, 8) ∧ WW.2.1 (c + 3) = (1, 4) ∧ WW.2.1 (c + 4) = (1, 8) ∧ c + 4 < WW.1 ∧ WW.2.2 c 0 = ((c + 1 : Nat) : Int) ∧ WW.2.2 c 1 = ((c + 2 : Nat) : Int) ∧ WW.2.2 c 2 = ((c + 3 : Nat) : Int) ∧ WW.2.2 c 3 = ((c + 4 : Nat) : Int) := by decide +kernel
def bk (k : Nat) : Nat := ([9, 1, 2, 0, 3, 0, 4, 0, 1, 2, 0, 3, 0, 1, 2, 0, 3, 0, 1, 2, 0, 3, 0, 1, 2, 0, 3, 0, 1, 2, 0, 3, 0, 1, 2, 0, 3, 0, 1, 2, 0, 3, 0, 1, 2, 0, 3, 0, 1, 2, 0, 3, 0, 1, 2, 0, 3, 0, 1, 2, 0, 3, 0, 1, 2, 0, 3, 0, 1, 2, 0, 3, 0, 1, 2, 0, 3, 0, 1, 2, 0, 3, 0, 1, 2, 0, 3, 0, 5, 6, 6, 0, 10, 15, 15, 3, 0, 0, 0, 0, 0, 7, 8, 0, 0, 0, 0, 0, 0, 1, 2, 0, 3, 0, 0, 1, 2, 0, 3, 0, 11, 12, 13, 14, 0, 15, 16, 15, 15, 0, 0, 0, 0, 7, 0, 0, 0, 0] : List Nat).getD k 0
/-- what a slot may hold, by the kind of its cell -/
def bd (kd : Nat) (j v : Int) : Prop := match kd with
  | 1 => (j = 4 → 0 ≤ v ∧ v ≤ 8) ∧ (j = 5 → 0 ≤ v ∧ v ≤ 2)
  | 2 => 0 ≤ v ∧ v ≤ 47244640255
  | 3 => 0 ≤ v ∧ v ≤ 9
  | 4 => (j = 1 → 0 ≤ v ∧ v ≤ 16) ∧ (j = 2 → 0 ≤ v ∧ v ≤ 15)
  | 5 => j = 3 → 0 ≤ v ∧ v ≤ 20
  | 6 => 0 ≤ v ∧ v ≤ 7
  | 7 => 0 ≤ v ∧ v ≤ 180
  | 8 => j = 4 → 0 ≤ v ∧ v ≤ 7
  | 9 => j = 7 → 0 ≤ v ∧ v ≤ 47244640255
  | 10 => (j = 7 → 0 ≤ v ∧ v ≤ 10) ∧ (j = 8 → 0 ≤ v ∧ v ≤ 10)
  | 11 => (j = 2 → 0 ≤ v ∧ v ≤ 16) ∧ (j = 6 → 0 ≤ v ∧ v ≤ 10) ∧ (j = 8 → 0 ≤ v ∧ v ≤ 20) ∧ (j = 9 → 0 ≤ v ∧ v ≤ 2147483647) ∧ (j = 11 → 0 ≤ v ∧ v ≤ 10) ∧ (j = 13 → 0 ≤ v ∧ v ≤ 10) ∧ (j = 20 → 0 ≤ v ∧ v ≤ 8)
  | 12 => (j = 0 → 0 ≤ v ∧ v ≤ 8) ∧ (j = 1 → 0 ≤ v ∧ v ≤ 2) ∧ (2 ≤ j ∧ j ≤ 5 → 0 ≤ v ∧ v ≤ 9) ∧ (6 ≤ j ∧ j ≤ 13 → 0 ≤ v ∧ v ≤ 10) ∧ (30 ≤ j → 0 ≤ v ∧ v ≤ 7)
  | 13 => (j % 110 = 0 → 0 ≤ v ∧ v ≤ 8) ∧ (j % 110 = 1 → 0 ≤ v ∧ v ≤ 2) ∧ (2 ≤ j % 110 ∧ j % 110 ≤ 5 → 0 ≤ v ∧ v ≤ 9) ∧ (6 ≤ j % 110 ∧ j % 110 ≤ 13 → 0 ≤ v ∧ v ≤ 10) ∧ (30 ≤ j % 110 → 0 ≤ v ∧ v ≤ 7)
  | 14 => (j % 111 = 0 → 0 ≤ v ∧ v ≤ 8) ∧ (j % 111 = 1 → 0 ≤ v ∧ v ≤ 2) ∧ (2 ≤ j % 111 ∧ j % 111 ≤ 5 → 0 ≤ v ∧ v ≤ 9) ∧ (6 ≤ j % 111 ∧ j % 111 ≤ 13 → 0 ≤ v ∧ v ≤ 10) ∧ (30 ≤ j % 111 ∧ j % 111 ≤ 109 → 0 ≤ v ∧ v ≤ 7) ∧ (j % 111 = 110 → 0 ≤ v ∧ v ≤ 2147483647)
  | 15 => 0 ≤ v ∧ v ≤ 7
  | 16 => (j % 3 ≤ 1 → 0 ≤ v ∧ v ≤ 7)
  | _ => True
def BI (μ : xM) : Prop := ∀ k j, bd (bk k) j (μ k j)
theorem BI.up {μ : xM} (h : BI μ) {k : Nat} {j v : Int} (hv : bd (bk k) j v) : BI (xup μ k j v) := by
  intro a b
  by_cases hab : a = k ∧ b = j
  · obtain ⟨rfl, rfl⟩ := hab
    rw [xup_s]
    exact hv
  · simp only [xup, if_neg hab]
    exact h a b
/-- nothing changes but what S names -/
def Fr (S : Nat → Int → Prop) (μ μ' : xM) : Prop := ∀ k j, ¬ S k j → μ' k j = μ k j
theorem Fr.rf {S : Nat → Int → Prop} {μ : xM} : Fr S μ μ := fun _ _ _ => rfl
theorem Fr.up {S : Nat → Int → Prop} {μ μ1 : xM} (h : Fr S μ μ1) {k : Nat} {j v : Int} (hs : S k j) : Fr S μ (xup μ1 k j v) := by
  intro a b hab
  have : ¬ (a = k ∧ b = j) := by
    rintro ⟨rfl, rfl⟩
    exact hab hs
  simp only [xup, if_neg this]
  exact h a b hab
theorem Fr.trans {S : Nat → Int → Prop} {μ μ1 μ2 : xM} (h : Fr S μ μ1) (h2 : Fr S μ1 μ2) : Fr S μ μ2 := fun k j hs => (h2 k j hs).trans (h k j hs)
theorem Fr.sub {S S' : Nat → Int → Prop} {μ μ' : xM} (h : Fr S μ μ') (hs : ∀ k j, S k j → S' k j) : Fr S' μ μ' := fun k j hn => h k j (fun z => hn (hs k j z))
/-- what the class's reads may touch: lineup, distances, tree, and whether they are measured -/
def RO (k : Nat) (j : Int) : Prop := (92 ≤ k ∧ k ≤ 106) ∨ (k = 0 ∧ j = 9)
/-- what the reference's reads may touch -/
def RM (k : Nat) (j : Int) : Prop := 127 ≤ k ∨ (k = 120 ∧ (j = 11 ∨ j = 13 ∨ j = 20))
/-! a method of these worlds, its names given -/
theorem xMet.go {y : MethodName} {cc : ByteArray} {maxL : Nat} {ret : Option FieldType} {fr lc mc ms : Nat} {av : List xV} {w : xW} {μ : xM} {K : Option xV → xW → xM → Prop} (own nm : String) (h1 : y.cls = own) (h2 : y.name = nm) (hy : plainName y.cls = true) (lo : xLoc) (hlen : (xpl av).length ≤ maxL) (hlo : xpl av ++ List.replicate (maxL - (xpl av).length) none = lo)
    (body : ∀ X, Lg own nm cc maxL { frames := fr, cells := mc, slots := ms, locals := lc } ret mc ms K X → X 0 0 w μ 0 lo []) : xMet y cc maxL ret fr lc mc ms av w μ K := by
  subst h1; subst h2
  exact xMet.of hy lo hlen hlo body
/-! numbers -/
theorem xand_rg (x y : Int) : xrg (xand x y) := xn_rg _
theorem xor_rg (x y : Int) : xrg (xor' x y) := xn_rg _
theorem xxor_rg (x y : Int) : xrg (xxor x y) := xn_rg _
theorem xshl_rg (x y : Int) : xrg (xshl x y) := xn_rg _
theorem xshr_rg (x y : Int) : xrg (xshr x y) := xn_rg _
theorem xushr_rg (x y : Int) : xrg (xushr x y) := xn_rg _
theorem xdiv_rg (x y : Int) : xrg (xdiv x y) := xn_rg _
theorem xrem_rg (x y : Int) : xrg (xrem x y) := xn_rg _
theorem xland_rg (x y : Int) : xrl (xland x y) := xn_rl _
theorem xlor_rg (x y : Int) : xrl (xlor x y) := xn_rl _
theorem xlshl_rg (x y : Int) : xrl (xlshl x y) := xn_rl _
theorem xlushr_rg (x y : Int) : xrl (xlushr x y) := xn_rl _
theorem xlrem_rg (x y : Int) : xrl (xlrem x y) := xn_rl _
end
section
theorem wb_tb (n : Nat) : (lN n).toBitVec = BitVec.ofNat 64 n := rfl
theorem wb_inj {a b : Int64} (h : a.toBitVec = b.toBitVec) : a = b := Int64.toBitVec_inj.mp h
theorem wb_tn {n : Nat} (h : n < 2 ^ 64) : (lN n).toBitVec.toNat = n := by rw [wb_tb, BitVec.toNat_ofNat, Nat.mod_eq_of_lt h]
theorem wb_of (x : Int64) : ∃ n, n < 2 ^ 64 ∧ x = lN n := ⟨x.toBitVec.toNat, x.toBitVec.isLt, wb_inj (by rw [wb_tb]; simp)⟩
theorem wb_of32 (x : Int32) : ∃ n, n < 2 ^ 32 ∧ x = nI n := ⟨x.toBitVec.toNat, x.toBitVec.isLt, Int32.toBitVec_inj.mp (by show _ = BitVec.ofNat 32 _; simp)⟩
theorem wb_c : ∀ k, k < 64 → ((nI k).toInt64 &&& 63) = lN k := by decide +kernel
theorem wb_cu : ∀ k, k < 64 → ((nI k).toInt64.toUInt64 &&& Int64.toUInt64 63) = UInt64.ofNat k := by decide +kernel
theorem wb_sm : ∀ k, k < 64 → (BitVec.ofNat 64 k).smod 64 = BitVec.ofNat 64 k := by decide +kernel
theorem wb_pw {a b : Nat} (h : a ≤ b) : 2 ^ b = 2 ^ a * 2 ^ (b - a) := by rw [← Nat.pow_add]; congr 1; omega
theorem wb_lt2 {a b : Nat} (h : a < b) : 2 ^ a < 2 ^ b := Nat.pow_lt_pow_right (by decide) h
theorem wb_mod (n : Nat) : lN n = lN (n % 2 ^ 64) := wb_inj (by rw [wb_tb, wb_tb]; apply BitVec.eq_of_toNat_eq; rw [BitVec.toNat_ofNat, BitVec.toNat_ofNat, Nat.mod_mod])
theorem wb_shr {n k : Nat} (hn : n < 2 ^ 64) (hk : k < 64) : ((lN n).toUInt64 >>> ((nI k).toInt64.toUInt64 &&& Int64.toUInt64 63)).toInt64 = lN (n / 2 ^ k) := by
  rw [wb_cu k hk]
  apply wb_inj
  apply BitVec.eq_of_toNat_eq
  show ((lN n).toUInt64 >>> UInt64.ofNat k).toNat = (BitVec.ofNat 64 _).toNat
  have h1 : (UInt64.ofNat k).toNat = k := by
    show (BitVec.ofNat 64 k).toNat = k
    rw [BitVec.toNat_ofNat, Nat.mod_eq_of_lt (by omega)]
  have h2 : (lN n).toUInt64.toNat = n := wb_tn hn
  rw [UInt64.toNat_shiftRight, h1, h2, Nat.mod_eq_of_lt hk, Nat.shiftRight_eq_div_pow, BitVec.toNat_ofNat, Nat.mod_eq_of_lt (Nat.lt_of_le_of_lt (Nat.div_le_self _ _) hn)]
theorem wb_shl (n : Nat) {k : Nat} (hk : k < 64) : lN n <<< ((nI k).toInt64 &&& 63) = lN (n * 2 ^ k) := by
  rw [wb_c k hk]
  apply wb_inj
  rw [Int64.toBitVec_shiftLeft, wb_tb, wb_tb, wb_tb, wb_sm k hk]
  apply BitVec.eq_of_toNat_eq
  rw [BitVec.shiftLeft_eq', BitVec.toNat_shiftLeft, BitVec.toNat_ofNat, BitVec.toNat_ofNat, BitVec.toNat_ofNat, Nat.mod_eq_of_lt (show k < 2 ^ 64 by omega), Nat.shiftLeft_eq, Nat.mul_mod, Nat.mod_mod, ← Nat.mul_mod]
theorem wb_and {a b : Nat} (ha : a < 2 ^ 64) (hb : b < 2 ^ 64) : lN a &&& lN b = lN (a &&& b) := by
  apply wb_inj
  rw [Int64.toBitVec_and, wb_tb, wb_tb, wb_tb]
  apply BitVec.eq_of_toNat_eq
  rw [BitVec.toNat_and, BitVec.toNat_ofNat, BitVec.toNat_ofNat, BitVec.toNat_ofNat, Nat.mod_eq_of_lt ha, Nat.mod_eq_of_lt hb, Nat.mod_eq_of_lt (Nat.and_lt_two_pow _ hb)]
theorem wb_or {a b : Nat} (ha : a < 2 ^ 64) (hb : b < 2 ^ 64) : lN a ||| lN b = lN (a ||| b) := by
  apply wb_inj
  rw [Int64.toBitVec_or, wb_tb, wb_tb, wb_tb]
  apply BitVec.eq_of_toNat_eq
  rw [BitVec.toNat_or, BitVec.toNat_ofNat, BitVec.toNat_ofNat, BitVec.toNat_ofNat, Nat.mod_eq_of_lt ha, Nat.mod_eq_of_lt hb, Nat.mod_eq_of_lt (Nat.or_lt_two_pow ha hb)]
theorem wb_mask {n k : Nat} (hn : n < 2 ^ 64) (hk : k < 64) : lN n &&& lN (2 ^ k - 1) = lN (n % 2 ^ k) := by
  rw [wb_and hn (by have := wb_lt2 hk; omega), Nat.and_two_pow_sub_one_eq_mod]
theorem wb_a1 {n : Nat} (hn : n < 2 ^ 64) : lN n &&& 1 = lN (n % 2) := wb_mask (k := 1) hn (by decide)
theorem wb_bit {n k : Nat} (hn : n < 2 ^ 64) (hk : k < 64) : ((lN n).toUInt64 >>> ((nI k).toInt64.toUInt64 &&& Int64.toUInt64 63)).toInt64 &&& 1 = lN (n / 2 ^ k % 2) := by
  rw [wb_shr hn hk, wb_a1 (Nat.lt_of_le_of_lt (Nat.div_le_self _ _) hn)]
theorem xn_lN (n : Nat) : Int64.ofInt (n : Int) = lN n := by
  apply wb_inj
  show BitVec.ofInt 64 (n : Int) = BitVec.ofNat 64 n
  exact BitVec.ofInt_natCast ..
theorem xn_nI (n : Nat) : Int32.ofInt (n : Int) = nI n := by
  apply Int32.toBitVec_inj.mp
  show BitVec.ofInt 32 (n : Int) = BitVec.ofNat 32 n
  exact BitVec.ofInt_natCast ..
theorem xn_lT {n : Nat} (h : n < 2 ^ 63) : (lN n).toInt = (n : Int) := by
  rw [← xn_lN, xn_l (by omega)]
theorem xn_nT {n : Nat} (h : n < 2 ^ 31) : (nI n).toInt = (n : Int) := by
  rw [← xn_nI, xn_i (by omega)]
/-- a chain's bits from a place on -/
theorem xl_ushr {c s : Int} (h0 : 0 ≤ c) (h1 : c ≤ 9223372036854775807) (hs0 : 0 ≤ s) (hs : s < 64) : xlushr c s = c / 2 ^ s.toNat := by
  obtain ⟨n, rfl⟩ := Int.eq_ofNat_of_zero_le h0
  obtain ⟨k, rfl⟩ := Int.eq_ofNat_of_zero_le hs0
  unfold xlushr
  rw [xn_lN, xn_nI, wb_shr (by omega) (by omega), xn_lT (Nat.lt_of_le_of_lt (Nat.div_le_self _ _) (by omega))]
  simp
theorem xl_32 {c : Int} (h0 : 0 ≤ c) (h1 : c ≤ 9223372036854775807) : xlushr c 32 = c / 4294967296 := by
  rw [xl_ushr h0 h1 (by omega) (by omega)]
  rfl
/-- one motif more -/
theorem xl_longer {c m : Int} (h0 : 0 ≤ c) (h1 : c / 4294967296 ≤ 9) (hm0 : 0 ≤ m) (hm : m ≤ 7) : 0 ≤ xlor c (xlshl m (3 * (c / 4294967296))) ∧ xlor c (xlshl m (3 * (c / 4294967296))) / 4294967296 = c / 4294967296 := by
  obtain ⟨n, rfl⟩ := Int.eq_ofNat_of_zero_le h0
  obtain ⟨q, rfl⟩ := Int.eq_ofNat_of_zero_le hm0
  obtain ⟨k, hk⟩ : ∃ k : Nat, k = n / 4294967296 := ⟨_, rfl⟩
  have hk9 : k ≤ 9 := by omega
  have e1 : 3 * ((n : Int) / 4294967296) = ((3 * k : Nat) : Int) := by omega
  have hp : q * 2 ^ (3 * k) < 2 ^ 30 := by
    have h2 : 2 ^ (3 * k) ≤ 2 ^ 27 := Nat.pow_le_pow_right (by decide) (by omega)
    have h3 : q * 2 ^ (3 * k) ≤ 7 * 2 ^ 27 := Nat.mul_le_mul (by omega) h2
    omega
  have hs : xlshl (q : Int) (3 * ((n : Int) / 4294967296)) = ((q * 2 ^ (3 * k) : Nat) : Int) := by
    rw [e1]
    unfold xlshl
    rw [xn_lN, xn_nI, wb_shl _ (by omega), xn_lT (by omega)]
  have hor : n ||| q * 2 ^ (3 * k) < 2 ^ 63 := Nat.or_lt_two_pow (by omega) (by omega)
  have ho : xlor (n : Int) (xlshl (q : Int) (3 * ((n : Int) / 4294967296))) = ((n ||| q * 2 ^ (3 * k) : Nat) : Int) := by
    rw [hs]
    unfold xlor
    rw [xn_lN, xn_lN, wb_or (by omega) (by omega), xn_lT hor]
  rw [ho]
  refine ⟨by omega, ?_⟩
  have hd : (n ||| q * 2 ^ (3 * k)) / 2 ^ 32 = n / 2 ^ 32 := by
    rw [← Nat.shiftRight_eq_div_pow, ← Nat.shiftRight_eq_div_pow, Nat.shiftRight_or_distrib, Nat.shiftRight_eq_div_pow (q * 2 ^ (3 * k)), Nat.div_eq_of_lt (show q * 2 ^ (3 * k) < 2 ^ 32 by omega)]
    simp
  omega
theorem xdiv_nn {x y : Int} (h0 : 0 ≤ x) (h1 : x ≤ 2147483647) (h2 : 0 < y) (h3 : y ≤ 2147483647) : xdiv x y = x / y := by
  obtain ⟨n, rfl⟩ := Int.eq_ofNat_of_zero_le h0
  obtain ⟨k, rfl⟩ := Int.eq_ofNat_of_zero_le (Int.le_of_lt h2)
  unfold xdiv
  rw [xn_nI, xn_nI, pk_div (by omega) (by omega) (by omega), xn_nT (Nat.lt_of_le_of_lt (Nat.div_le_self _ _) (by omega))]
  simp
theorem xrem_nn {x y : Int} (h0 : 0 ≤ x) (h1 : x ≤ 2147483647) (h2 : 0 < y) (h3 : y ≤ 2147483647) : xrem x y = x % y := by
  obtain ⟨n, rfl⟩ := Int.eq_ofNat_of_zero_le h0
  obtain ⟨k, rfl⟩ := Int.eq_ofNat_of_zero_le (Int.le_of_lt h2)
  unfold xrem
  rw [xn_nI, xn_nI, pk_rem (by omega) (by omega) (by omega), xn_nT (Nat.lt_of_le_of_lt (Nat.mod_le _ _) (by omega))]
  simp
/-- the low bits of any number -/
theorem xand_m (x : Int) (k : Nat) (hk : k ≤ 30) {m : Int} (hm : m = 2 ^ k - 1) : 0 ≤ xand x m ∧ xand x m ≤ m := by
  subst hm
  have h2 : (2 : Int) ^ k - 1 = ((2 ^ k - 1 : Nat) : Int) := by
    have := Nat.one_le_two_pow (n := k)
    have e : ((2 ^ k : Nat) : Int) = (2 : Int) ^ k := by simp
    omega
  have hb : 2 ^ k ≤ 2 ^ 30 := Nat.pow_le_pow_right (by decide) hk
  have hm : (Int32.ofInt ((2 : Int) ^ k - 1)).toBitVec.toNat = 2 ^ k - 1 := by
    rw [h2, xn_nI, pk_tn (by omega)]
  obtain ⟨j, hj, e⟩ := pk_andE (Int32.ofInt x) k hm
  unfold xand
  rw [e, xn_nT (by omega), h2]
  omega
theorem xand_7 (x : Int) : 0 ≤ xand x 7 ∧ xand x 7 ≤ 7 := xand_m x 3 (by omega) (by decide)
theorem xand_1 (x : Int) : 0 ≤ xand x 1 ∧ xand x 1 ≤ 1 := xand_m x 1 (by omega) (by decide)
theorem xand_31 (x : Int) : 0 ≤ xand x 31 ∧ xand x 31 ≤ 31 := xand_m x 5 (by omega) (by decide)
theorem xOF_rg (j : Int) : 0 ≤ xOF j ∧ xOF j ≤ 2 := by unfold xOF; omega
theorem xOO_rg (j : Int) : 0 ≤ xOO j ∧ xOO j ≤ 2 := by unfold xOO; omega
section
variable {own nm : String} {cc : ByteArray} {nL : Nat} {R : Room} {ret : Option FieldType} {mc ms : Nat} {K : Option xV → xW → xM → Prop} {X : Nat → Nat → xW → xM → Nat → xLoc → List xV → Prop}
variable {cu su : Nat} {w : xW} {μ : xM} {pc : Nat} {lo : xLoc} {st : List xV}
theorem r_ldcw (hL : Lg own nm cc nL R ret mc ms K X) {i : Nat} {v : Int32} {n : Int} (hd : decode cc pc = .ok (.ldc_w i, 3)) (hc : xWd (.constant own i v)) (hv : v = Int32.ofInt n) (k : X cu su w μ (pc + 3) lo (xI n :: st)) : X cu su w μ pc lo st := by
  obtain ⟨p, l, e, s, m, args, below, meth, c, g, w0, ad0, A, ⟨hx, hb, hml, hown, hT, hK, hSt, hA⟩, hr, hlk, hnm, rfl⟩ := hL
  intro H locs ls ad a1 a2 a3 hP hD hS hok hlo
  have kk := k H locs ls ad a1 a2 a3 hP hD hS hok hlo
  simp only [List.map_cons, xt] at kk ⊢
  exact lv_ldcw hx hb hown (hT _ (hv ▸ hc) _) hd kk
end
theorem BI.cp {μ : xM} (h : BI μ) {k q : Nat} {n : Int} (hk : bk k = bk q) : BI (xcp μ k q n) := by
  intro a b
  by_cases hab : a = q ∧ 0 ≤ b ∧ b < n
  · simp only [xcp, if_pos hab]
    rw [hab.1, ← hk]
    exact h k b
  · simp only [xcp, if_neg hab]
    exact h a b
theorem Fr.cp {S : Nat → Int → Prop} {μ μ1 : xM} (h : Fr S μ μ1) {k q : Nat} {n : Int} (hs : ∀ j, 0 ≤ j → j < n → S q j) : Fr S μ (xcp μ1 k q n) := by
  intro a b hab
  have : ¬ (a = q ∧ 0 ≤ b ∧ b < n) := by
    rintro ⟨rfl, h1, h2⟩
    exact hab (hs b h1 h2)
  simp only [xcp, if_neg this]
  exact h a b hab
theorem st_bk : ∀ c ∈ xsts, bk c = 1 ∧ bk (c + 1) = 2 ∧ bk (c + 2) = 0 ∧ bk (c + 3) = 3 ∧ bk (c + 4) = 0 := by decide +kernel
theorem st_ap : ∀ a ∈ xsts, ∀ b ∈ xsts, a = b ∨ a + 4 < b ∨ b + 4 < a := by decide +kernel
/-- how many bits are set, as the JDK counts them -/
def xbc (x : Int) : Int :=
  let a := x - xand (xushr x 1) 1431655765
  let b := xand a 858993459 + xand (xushr a 2) 858993459
  let c := xand (b + xushr b 4) 252645135
  let d := c + xushr c 8
  let e := d + xushr d 16
  xand e 63
theorem xdrop_get : ∀ (is : List Nat) (lo : xLoc) (j : Nat) (v : xV), (is.foldl (fun l i => l.set i none) lo)[j]? = some (some v) → lo[j]? = some (some v) := by
  intro is
  induction is with
  | nil => intro lo j v h; exact h
  | cons i is ih =>
    intro lo j v h
    have h1 := ih _ j v h
    by_cases hij : i = j
    · subst hij
      have hl := (List.getElem?_eq_some_iff.mp h1).1
      rw [List.length_set] at hl
      rw [List.getElem?_set_self hl] at h1
      cases h1
    · rw [List.getElem?_set_ne hij] at h1
      exact h1
/-- less is kept in mind of the locals -/
theorem r_drop {own nm : String} {cc : ByteArray} {nL : Nat} {R : Room} {ret : Option FieldType} {mc ms : Nat} {K : Option xV → xW → xM → Prop} {X : Nat → Nat → xW → xM → Nat → xLoc → List xV → Prop} {cu su : Nat} {w : xW} {μ : xM} {pc : Nat} {lo lo' : xLoc} {st : List xV} (hL : Lg own nm cc nL R ret mc ms K X) (is : List Nat) (hl : is.foldl (fun l i => l.set i none) lo = lo') (k : X cu su w μ pc lo' st) : X cu su w μ pc lo st :=
  r_less hL (fun i v hv => xdrop_get is lo i v (by rw [hl]; exact hv)) k
/-- a number as an int keeps it -/
def xwr (x : Int) : Int := (Int32.ofInt x).toInt
theorem xwr_rg (x : Int) : xrg (xwr x) := xn_rg _
theorem xwr_id {x : Int} (h : xrg x) : xwr x = x := xn_i h
theorem r_norm {own nm : String} {cc : ByteArray} {nL : Nat} {R : Room} {ret : Option FieldType} {mc ms : Nat} {K : Option xV → xW → xM → Prop} {X : Nat → Nat → xW → xM → Nat → xLoc → List xV → Prop} {cu su : Nat} {w : xW} {μ : xM} {pc : Nat} {lo : xLoc} {st : List xV} {x : Int} (hL : Lg own nm cc nL R ret mc ms K X) (k : ∀ z, z = xwr x → xrg z → X cu su w μ pc lo (xI z :: st)) : X cu su w μ pc lo (xI x :: st) := by
  obtain ⟨p, l, e, s, m, args, below, meth, c, g, w0, ad0, A, ⟨hx, hb, hml, hown, hT, hK, hSt, hA⟩, hr, hlk, hnm, rfl⟩ := hL
  intro H locs ls ad a1 a2 a3 hP hD hS hok hlo
  have kk := k _ rfl (xwr_rg x) H locs ls ad a1 a2 a3 hP hD hS hok hlo
  simp only [List.map_cons, xt, xwr, xn_of] at kk ⊢
  exact kk
theorem xmul_bd {a b A B : Int} (h0 : 0 ≤ a) (h1 : a ≤ A) (h2 : 0 ≤ b) (h3 : b ≤ B) : 0 ≤ a * b ∧ a * b ≤ A * B := ⟨Int.mul_nonneg h0 h2, Int.mul_le_mul h1 h3 h2 (Int.le_trans h0 h1)⟩
theorem xOF_v (j : Int) : (j = 0 → xOF j = 1) ∧ (j = 1 → xOF j = 1) ∧ (j = 2 → xOF j = 0) ∧ (j = 3 → xOF j = 2) := by unfold xOF; omega
theorem xOO_v (j : Int) : (j = 0 → xOO j = 1) ∧ (j = 1 → xOO j = 0) ∧ (j = 2 → xOO j = 1) ∧ (j = 3 → xOO j = 2) := by unfold xOO; omega
/-! the lineup: what is left of two chains costs at most 9 a motif -/
def LUp (f : Int → Int) (fl ol i j : Int) : Prop := ∀ a b, 0 ≤ a → a ≤ fl → 0 ≤ b → b ≤ ol → (i < a ∨ (a = i ∧ j < b)) → 0 ≤ f (a * 11 + b) ∧ f (a * 11 + b) ≤ 9 * ((fl - a) + (ol - b))
def LU (μ : xM) : Prop := LUp (μ 96) (μ 92 7) (μ 92 8) (-1) (μ 92 8)
theorem LUp.step {f f' : Int → Int} {fl ol i j v : Int} (h : LUp f fl ol i j) (hj : 0 ≤ j) (hj2 : j ≤ 10) (ho : ol ≤ 10) (hv : 0 ≤ v ∧ v ≤ 9 * ((fl - i) + (ol - j))) (hf : ∀ q, f' q = if q = i * 11 + j then v else f q) : LUp f' fl ol i (j - 1) := by
  intro a b h1 h2 h3 h4 h5
  rw [hf]
  by_cases hq : a * 11 + b = i * 11 + j
  · have ha : a = i := by omega
    have hb : b = j := by omega
    rw [if_pos hq, ha, hb]
    exact hv
  · rw [if_neg hq]
    exact h a b h1 h2 h3 h4 (by omega)
theorem LUp.up {f : Int → Int} {fl ol i : Int} (h : LUp f fl ol i (-1)) : LUp f fl ol (i - 1) ol := by
  intro a b h1 h2 h3 h4 h5
  exact h a b h1 h2 h3 h4 (by omega)
theorem LUp.none {f : Int → Int} {fl ol : Int} : LUp f fl ol fl ol := by
  intro a b h1 h2 h3 h4 h5
  omega
theorem LU.keep {μ μ' : xM} (h : LU μ) (h1 : μ' 96 = μ 96) (h2 : μ' 92 7 = μ 92 7) (h3 : μ' 92 8 = μ 92 8) : LU μ' := by
  unfold LU
  rw [h1, h2, h3]
  exact h
theorem LU.at {μ : xM} (h : LU μ) {i j : Int} (h0 : 0 ≤ i) (h1 : i ≤ μ 92 7) (h2 : 0 ≤ j) (h3 : j ≤ μ 92 8) : 0 ≤ μ 96 (i * 11 + j) ∧ μ 96 (i * 11 + j) ≤ 9 * ((μ 92 7 - i) + (μ 92 8 - j)) := h i j h0 h1 h2 h3 (by omega)
theorem f_7b {j : Int} (h0 : 0 ≤ j) (h1 : j ≤ 15) : ∃ c ∈ xsts, WW.2.2 7 j = (c : Int) ∧ c = 8 + 5 * j.toNat := by
  obtain ⟨n, rfl⟩ := Int.eq_ofNat_of_zero_le h0
  have hn : n < 16 := by omega
  have key : ∀ n : Nat, n < 16 → (8 + 5 * n) ∈ xsts ∧ WW.2.2 7 (n : Int) = ((8 + 5 * n : Nat) : Int) := by decide +kernel
  exact ⟨8 + 5 * n, (key n hn).1, (key n hn).2, by simp⟩
theorem sm_Lib_Math_min_name : xWd (.static Lib.Math.min.name) := sm_yJ9_min_7cf53
theorem sm_Lib_Math_max_name : xWd (.static Lib.Math.max.name) := sm_yJ9_max_7cf53
theorem sm_Lib_Math_abs_name : xWd (.static Lib.Math.abs.name) := sm_yJ9_abs_0f7a4
theorem kd_Lib_Math_min_name : xWd (.code Lib.Math.min.name Lib.Math.min.code 2 (some .int)) := ce_yJ9_min_7cf53.1
theorem kd_Lib_Math_max_name : xWd (.code Lib.Math.max.name Lib.Math.max.code 2 (some .int)) := ce_yJ9_max_7cf53.1
theorem kd_Lib_Math_abs_name : xWd (.code Lib.Math.abs.name Lib.Math.abs.code 1 (some .int)) := ce_yJ9_abs_0f7a4.1
theorem LU.zero {μ : xM} (h : LU μ) (hB : BI μ) : 0 ≤ μ 96 0 ∧ μ 96 0 ≤ 180 := by
  have h1 : ((7 : Int) = 7 → 0 ≤ μ 92 7 ∧ μ 92 7 ≤ 10) ∧ ((7 : Int) = 8 → 0 ≤ μ 92 7 ∧ μ 92 7 ≤ 10) := hB 92 7
  have h2 : ((8 : Int) = 7 → 0 ≤ μ 92 8 ∧ μ 92 8 ≤ 10) ∧ ((8 : Int) = 8 → 0 ≤ μ 92 8 ∧ μ 92 8 ≤ 10) := hB 92 8
  have h3 := h.at (i := 0) (j := 0) (by omega) (by omega) (by omega) (by omega)
  rw [show ((0 : Int) * 11 + 0) = 0 from rfl] at h3
  omega
theorem LU.lup {μ : xM} (h : LU μ) {i j : Int} (hi : 0 ≤ i) : LUp (μ 96) (μ 92 7) (μ 92 8) i j := fun a b h1 h2 h3 h4 h5 => h a b h1 h2 h3 h4 (by omega)
/-- what comparing two types touches -/
def CT (k : Nat) (j : Int) : Prop := k = 102 ∧ (j = 5 ∨ j = 6)
theorem xland_31 (x : Int) : 0 ≤ xland x 2147483647 ∧ xland x 2147483647 ≤ 2147483647 := by
  unfold xland
  obtain ⟨n, hn, e⟩ := wb_of (Int64.ofInt x)
  have h2 : (Int64.ofInt 2147483647) = lN (2 ^ 31 - 1) := rfl
  rw [e, h2, wb_mask hn (by decide), xn_lT (by omega)]
  omega
end
section
def bt (x : Int32) (i : Nat) : Bool := x.toBitVec.getLsbD i
theorem b_ext {x y : Int32} (h : ∀ i, i < 32 → bt x i = bt y i) : x = y := Int32.toBitVec_inj.mp (BitVec.eq_of_getLsbD_eq (fun i hi => h i hi))
theorem b_or (x y : Int32) (i : Nat) : bt (x ||| y) i = (bt x i || bt y i) := by unfold bt; rw [Int32.toBitVec_or, BitVec.getLsbD_or]
theorem b_and (x y : Int32) (i : Nat) : bt (x &&& y) i = (bt x i && bt y i) := by unfold bt; rw [Int32.toBitVec_and, BitVec.getLsbD_and]
theorem b_big {x : Int32} {i : Nat} (h : 32 ≤ i) : bt x i = false := BitVec.getLsbD_of_ge _ _ h
theorem b_0 (i : Nat) : bt 0 i = false := BitVec.getLsbD_zero
theorem s_l : ∀ n, n < 32 → ((nI n &&& 31).toBitVec.smod 32).toNat = n := by decide +kernel
theorem b_shl (n : Nat) (hn : n < 32) (x : Int32) {i : Nat} (hi : i < 32) : bt (x <<< (nI n &&& 31)) i = (decide (n ≤ i) && bt x (i - n)) := by
  unfold bt
  rw [Int32.toBitVec_shiftLeft]
  show (x.toBitVec <<< ((nI n &&& 31).toBitVec.smod 32).toNat).getLsbD i = _
  rw [s_l n hn, BitVec.getLsbD_shiftLeft]
  rcases Nat.lt_or_ge i n with h | h
  · simp [h, Nat.not_le.mpr h]
  · simp [hi, h, Nat.not_lt.mpr h]
theorem b_sshr (n : Nat) (hn : n < 32) (x : Int32) {i : Nat} (hi : i < 32) : bt (x >>> (nI n &&& 31)) i = if n + i < 32 then bt x (n + i) else bt x 31 := by
  unfold bt
  rw [Int32.toBitVec_shiftRight]
  show (x.toBitVec.sshiftRight ((nI n &&& 31).toBitVec.smod 32).toNat).getLsbD i = _
  rw [s_l n hn, BitVec.getLsbD_sshiftRight, BitVec.msb_eq_getLsbD_last]
  simp [hi]
theorem b_1 : ∀ i, i < 32 → bt 1 i = decide (i = 0) := by decide +kernel
def xB (x k : Int) : Bool := bt (Int32.ofInt x) k.toNat
theorem xbit (x : Int) {k : Int} (h0 : 0 ≤ k) (h1 : k < 32) : xand (xshr x k) 1 = if xB x k then 1 else 0 := by
  obtain ⟨n, rfl⟩ := Int.eq_ofNat_of_zero_le h0
  have hn : n < 32 := by omega
  have e : (Int32.ofInt (xshr x n) &&& Int32.ofInt 1) = if xB x n then 1 else 0 := by
    apply b_ext
    intro i hi
    rw [b_and, show Int32.ofInt 1 = (1 : Int32) from rfl, b_1 i hi]
    unfold xshr xB
    rw [xn_of, xn_nI, b_sshr n hn _ hi]
    by_cases hz : i = 0
    · subst hz
      rw [if_pos (by omega)]
      simp only [Nat.add_zero, decide_true, Bool.and_true, Int.toNat_natCast]
      by_cases hb : bt (Int32.ofInt x) n = true
      · rw [if_pos hb, hb]; rfl
      · rw [if_neg hb]
        simp at hb
        rw [hb]; rfl
    · simp only [hz, decide_false, Bool.and_false]
      split
      · rw [b_1 i hi]; simp [hz]
      · rw [b_0]
  unfold xand
  rw [e]
  split <;> rfl
/-- how many of the first bits are set -/
def xonf (x : Int) : Nat → Int
  | 0 => 0
  | n + 1 => xonf x n + xand (xshr x n) 1
theorem xonf_bd (x : Int) : ∀ n, 0 ≤ xonf x n ∧ xonf x n ≤ n := by
  intro n
  induction n with
  | zero => simp [xonf]
  | succ n ih =>
    have h := xand_1 (xshr x n)
    simp only [xonf]
    omega
/-- a set of tales that isn't empty -/
def xne (x : Int) : Prop := ∃ k : Nat, k < 8 ∧ bt (Int32.ofInt x) k = true
theorem xonf_pos {x : Int} (h : xne x) : 1 ≤ xonf x 8 := by
  obtain ⟨k, hk, hb⟩ := h
  have key : ∀ n : Nat, n ≤ 8 → k < n → 1 ≤ xonf x n := by
    intro n
    induction n with
    | zero => intro _ h; omega
    | succ n ih =>
      intro hn hkn
      simp only [xonf]
      have h1 := xand_1 (xshr x n)
      have h2 := xonf_bd x n
      by_cases e : k = n
      · subst e
        have h3 := xbit x (k := (k : Int)) (by omega) (by omega)
        rw [if_pos (by unfold xB; simpa using hb)] at h3
        omega
      · have := ih (by omega) (by omega)
        omega
  exact key 8 (by omega) hk
theorem xne_or {a b : Int} (h : xne a) : xne (xor' a b) := by
  obtain ⟨k, hk, hb⟩ := h
  refine ⟨k, hk, ?_⟩
  unfold xor'
  rw [xn_of, b_or, hb]
  rfl
theorem xne_one {t : Int} (h0 : 0 ≤ t) (h1 : t ≤ 7) : xne (xshl 1 t) := by
  obtain ⟨n, rfl⟩ := Int.eq_ofNat_of_zero_le h0
  refine ⟨n, by omega, ?_⟩
  unfold xshl
  rw [xn_of, xn_nI]
  exact (by decide +kernel : ∀ n, n < 8 → bt (Int32.ofInt 1 <<< (nI n &&& 31)) n = true) n (by omega)
/-! a stretch brought over -/
def xbr (μ : xM) (f : Nat) (i : Int) (t : Nat) (j n : Int) : xM := fun a b => if a = t ∧ j ≤ b ∧ b < j + n then μ f (i + (b - j)) else μ a b
theorem xbr_0 {μ : xM} {f t : Nat} {i j n : Int} (h : n ≤ 0) : xbr μ f i t j n = μ := by
  funext a b
  simp only [xbr]
  rw [if_neg (by omega)]
theorem xbr_eq {μ : xM} {f t : Nat} {i j n k : Int} (h : k = n ∨ (k ≤ 0 ∧ n ≤ 0)) : xbr μ f i t j k = xbr μ f i t j n := by
  rcases h with rfl | ⟨h1, h2⟩
  · rfl
  · rw [xbr_0 h1, xbr_0 h2]
theorem xbr_c {μ : xM} {f t a : Nat} {i j n : Int} (h : a ≠ t) : xbr μ f i t j n a = μ a := by
  funext b
  simp [xbr, h]
theorem xbr_j {μ : xM} {f t a : Nat} {i j n b : Int} (h : ¬ (j ≤ b ∧ b < j + n)) : xbr μ f i t j n a b = μ a b := by
  simp only [xbr]
  rw [if_neg (fun z => h z.2)]
theorem xbr_src {μ : xM} {f t : Nat} {i j k : Int} (hft : f = t → j ≤ i) (hk : 0 ≤ k) : xbr μ f i t j k f (i + k) = μ f (i + k) := by
  simp only [xbr]
  by_cases h : f = t ∧ j ≤ i + k ∧ i + k < j + k
  · exact absurd (hft h.1) (by omega)
  · rw [if_neg h]
theorem xbr_step {μ : xM} {f t : Nat} {i j k : Int} (hft : f = t → j ≤ i) (hk : 0 ≤ k) : xup (xbr μ f i t j k) t (j + k) (xbr μ f i t j k f (i + k)) = xbr μ f i t j (k + 1) := by
  rw [xbr_src hft hk]
  funext a b
  simp only [xup, xbr]
  by_cases h1 : a = t ∧ b = j + k
  · rw [if_pos h1, if_pos ⟨h1.1, by omega, by omega⟩, show i + (b - j) = i + k by omega]
  · rw [if_neg h1]
    by_cases h2 : a = t ∧ j ≤ b ∧ b < j + k
    · rw [if_pos h2, if_pos ⟨h2.1, by omega, by omega⟩]
    · rw [if_neg h2, if_neg]
      intro h3
      by_cases h4 : b = j + k
      · exact h1 ⟨h3.1, h4⟩
      · exact h2 ⟨h3.1, by omega, by omega⟩
theorem BI.br {μ : xM} (h : BI μ) {f t : Nat} {i j n : Int} (hb : ∀ k, 0 ≤ k → k < n → bd (bk t) (j + k) (μ f (i + k))) : BI (xbr μ f i t j n) := by
  intro a b
  by_cases hab : a = t ∧ j ≤ b ∧ b < j + n
  · simp only [xbr, if_pos hab]
    have := hb (b - j) (by omega) (by omega)
    rw [show j + (b - j) = b by omega] at this
    rw [hab.1]
    exact this
  · simp only [xbr, if_neg hab]
    exact h a b
theorem Fr.br {S : Nat → Int → Prop} {μ μ1 : xM} (h : Fr S μ μ1) {f t : Nat} {i j n : Int} (hs : ∀ b, j ≤ b → b < j + n → S t b) : Fr S μ (xbr μ1 f i t j n) := by
  intro a b hab
  have : ¬ (a = t ∧ j ≤ b ∧ b < j + n) := by
    rintro ⟨rfl, h1, h2⟩
    exact hab (hs b h1 h2)
  simp only [xbr, if_neg this]
  exact h a b hab
/-! what a step costs, in the reference -/
def mCh (μ : xM) (a b : Int) : Int := if a < b then min ((b - a) * μ 121 4) (if b - a = 0 then 0 else μ 121 5) else min ((a - b) * μ 121 4) (if a - b = 0 then 0 else μ 121 5)
abbrev mTu (μ : xM) (i j : Int) : Prop := i + 1 < μ 120 11 ∧ j + 1 < μ 120 13 ∧ μ 127 i = μ 128 (j + 1) ∧ μ 127 (i + 1) = μ 128 j ∧ ¬ μ 127 i = μ 128 j
def mCo (μ : xM) (i j s : Int) : Int := if s = 0 then (if i < μ 120 11 ∧ j < μ 120 13 then mCh μ (μ 127 i) (μ 128 j) else 100000) else if s = 1 then (if i < μ 120 11 then μ 121 2 else 100000) else if s = 2 then (if j < μ 120 13 then μ 121 2 else 100000) else if mTu μ i j then μ 121 3 else 100000
theorem mCo_in {μ : xM} {i j s : Int} (hi : i ≤ μ 120 11) (hj : j ≤ μ 120 13) (h0 : 0 ≤ s) (h3 : s ≤ 3) (h : mCo μ i j s ≤ 9) : i + xOF s ≤ μ 120 11 ∧ j + xOO s ≤ μ 120 13 ∧ 1 ≤ xOF s + xOO s := by
  have a := xOF_v s
  have b := xOO_v s
  unfold mCo at h
  rcases (show s = 0 ∨ s = 1 ∨ s = 2 ∨ s = 3 by omega) with e | e | e | e
  · rw [if_pos e] at h
    split at h
    · omega
    · omega
  · rw [if_neg (by omega), if_pos e] at h
    split at h
    · omega
    · omega
  · rw [if_neg (by omega), if_neg (by omega), if_pos e] at h
    split at h
    · omega
    · omega
  · rw [if_neg (by omega), if_neg (by omega), if_neg (by omega)] at h
    split at h
    · rename_i hh; omega
    · omega
theorem mCo_fr {μ ν : xM} (h : ∀ k j, (k = 120 ∨ k = 121 ∨ k = 127 ∨ k = 128) → ν k j = μ k j) (i j s : Int) : mCo ν i j s = mCo μ i j s := by
  simp only [mCo, mCh, mTu, h 120 11 (by omega), h 120 13 (by omega), h 121 2 (by omega), h 121 3 (by omega), h 121 4 (by omega), h 121 5 (by omega), h 127 i (by omega), h 127 (i + 1) (by omega), h 128 j (by omega), h 128 (j + 1) (by omega)]
/-- a sum that a first step gives -/
def mAt (μ : xM) (f : Int → Int) (a b v : Int) : Prop := ∃ s, 0 ≤ s ∧ s ≤ 3 ∧ mCo μ a b s ≤ 9 ∧ v = mCo μ a b s + f (11 * (a + xOF s) + (b + xOO s))
def MDp (μ : xM) (f : Int → Int) (i j : Int) : Prop := ∀ a b, 0 ≤ a → a ≤ μ 120 11 → 0 ≤ b → b ≤ μ 120 13 → (i < a ∨ (a = i ∧ j < b)) → (0 ≤ f (11 * a + b) ∧ f (11 * a + b) ≤ 9 * ((μ 120 11 - a) + (μ 120 13 - b))) ∧ ((a < μ 120 11 ∨ b < μ 120 13) → mAt μ f a b (f (11 * a + b)))
def MD (μ : xM) : Prop := MDp μ (μ 129) (-1) (μ 120 13)
theorem MDp.step {μ : xM} {f f' : Int → Int} {i j v : Int} (h : MDp μ f i j) (hj : 0 ≤ j) (hj2 : j ≤ 10) (ho : μ 120 13 ≤ 10) (hv : 0 ≤ v ∧ v ≤ 9 * ((μ 120 11 - i) + (μ 120 13 - j))) (hm : (i < μ 120 11 ∨ j < μ 120 13) → mAt μ f i j v) (hi : 0 ≤ i) (hf : ∀ q, f' q = if q = 11 * i + j then v else f q) : MDp μ f' i (j - 1) := by
  intro a b h1 h2 h3 h4 h5
  have hat : ∀ w, (a < μ 120 11 ∨ b < μ 120 13) → mAt μ f a b w → mAt μ f' a b w := by
    intro w hne hw
    obtain ⟨s, s0, s3, sc, sv⟩ := hw
    refine ⟨s, s0, s3, sc, ?_⟩
    obtain ⟨g1, g2, g3⟩ := mCo_in h2 h4 s0 s3 sc
    have r1 := xOF_rg s
    have r2 := xOO_rg s
    rw [hf, if_neg (by omega)]
    exact sv
  rw [hf]
  by_cases hq : 11 * a + b = 11 * i + j
  · have ha : a = i := by omega
    have hb : b = j := by omega
    subst ha; subst hb
    rw [if_pos rfl]
    exact ⟨hv, fun hne => hat v hne (hm hne)⟩
  · rw [if_neg hq]
    obtain ⟨e1, e2⟩ := h a b h1 h2 h3 h4 (by omega)
    exact ⟨e1, fun hne => hat _ hne (e2 hne)⟩
theorem MDp.up {μ : xM} {f : Int → Int} {i : Int} (h : MDp μ f i (-1)) : MDp μ f (i - 1) (μ 120 13) := by
  intro a b h1 h2 h3 h4 h5
  exact h a b h1 h2 h3 h4 (by omega)
theorem MDp.none {μ : xM} {f : Int → Int} : MDp μ f (μ 120 11) (μ 120 13) := by
  intro a b h1 h2 h3 h4 h5
  omega
theorem MDp.fr {μ ν : xM} {f : Int → Int} {i j : Int} (hfr : ∀ k j, (k = 120 ∨ k = 121 ∨ k = 127 ∨ k = 128) → ν k j = μ k j) (h : MDp μ f i j) : MDp ν f i j := by
  intro a b h1 h2 h3 h4 h5
  rw [hfr 120 11 (by omega)] at h2
  rw [hfr 120 13 (by omega)] at h4
  rw [hfr 120 11 (by omega), hfr 120 13 (by omega)]
  obtain ⟨e1, e2⟩ := h a b h1 h2 h3 h4 h5
  refine ⟨e1, fun hne => ?_⟩
  obtain ⟨s, s0, s3, sc, sv⟩ := e2 hne
  exact ⟨s, s0, s3, by rw [mCo_fr hfr]; exact sc, by rw [mCo_fr hfr]; exact sv⟩
theorem MD.keep {μ ν : xM} (h : MD μ) (hfr : ∀ k j, (k = 120 ∨ k = 121 ∨ k = 127 ∨ k = 128 ∨ k = 129) → ν k j = μ k j) : MD ν := by
  unfold MD
  rw [show ν 129 = μ 129 from funext fun j => hfr 129 j (by omega), hfr 120 13 (by omega)]
  exact MDp.fr (fun k j hk => hfr k j (by omega)) h
theorem MD.at {μ : xM} (h : MD μ) {a b : Int} (h1 : 0 ≤ a) (h2 : a ≤ μ 120 11) (h3 : 0 ≤ b) (h4 : b ≤ μ 120 13) : (0 ≤ μ 129 (11 * a + b) ∧ μ 129 (11 * a + b) ≤ 9 * ((μ 120 11 - a) + (μ 120 13 - b))) ∧ ((a < μ 120 11 ∨ b < μ 120 13) → mAt μ (μ 129) a b (μ 129 (11 * a + b))) := h a b h1 h2 h3 h4 (by omega)
/-- the least sum so far, while the steps are gone through -/
def mLe (μ : xM) (f : Int → Int) (i j v : Int) : Prop := (i = μ 120 11 ∧ j = μ 120 13 ∧ v = 0) ∨ ((i < μ 120 11 ∨ j < μ 120 13) ∧ (v = 100000 ∨ (0 ≤ v ∧ v ≤ 9 * ((μ 120 11 - i) + (μ 120 13 - j)) ∧ mAt μ f i j v)))
theorem mLe.bd {μ : xM} {f : Int → Int} {i j v : Int} (h : mLe μ f i j v) (h1 : 0 ≤ i ∧ i ≤ μ 120 11) (h2 : 0 ≤ j ∧ j ≤ μ 120 13) (h3 : μ 120 11 ≤ 10) (h4 : μ 120 13 ≤ 10) : 0 ≤ v ∧ v ≤ 100000 := by
  rcases h with ⟨_, _, rfl⟩ | ⟨_, rfl | ⟨g1, g2, _⟩⟩
  · omega
  · omega
  · omega
theorem mLe.least {μ : xM} {f : Int → Int} {i j v s c e : Int} (h : mLe μ f i j v) (s0 : 0 ≤ s) (s3 : s ≤ 3) (hc : c = mCo μ i j s) (h9 : c ≤ 9) (hc0 : 0 ≤ c) (hi : i ≤ μ 120 11) (hj : j ≤ μ 120 13) (he : e = f (11 * (i + xOF s) + (j + xOO s))) (hb : 0 ≤ e ∧ e ≤ 9 * ((μ 120 11 - (i + xOF s)) + (μ 120 13 - (j + xOO s)))) : mLe μ f i j (min (c + e) v) := by
  subst hc
  obtain ⟨g1, g2, g3⟩ := mCo_in hi hj s0 s3 h9
  have r1 := xOF_rg s
  have r2 := xOO_rg s
  have hne : i < μ 120 11 ∨ j < μ 120 13 := by omega
  have hat : mAt μ f i j (mCo μ i j s + e) := ⟨s, s0, s3, h9, by rw [he]⟩
  refine Or.inr ⟨hne, ?_⟩
  by_cases hl : mCo μ i j s + e < v
  · rw [show min (mCo μ i j s + e) v = mCo μ i j s + e by omega]
    exact Or.inr ⟨by omega, by omega, hat⟩
  · rw [show min (mCo μ i j s + e) v = v by omega]
    rcases h with ⟨e1, e2, _⟩ | ⟨_, e3⟩
    · omega
    · exact e3
/-- frames of the reference -/
def LN (k : Nat) (_ : Int) : Prop := k = 129 ∨ k = 130
def DW (k : Nat) (j : Int) : Prop := k = 120 ∧ j = 9
def NT (k : Nat) (j : Int) : Prop := k = 122 ∨ (k = 120 ∧ j = 2)
def TS (μ : xM) : Prop := ∀ q, 0 ≤ q → q < μ 120 20 → xne (μ 134 q)
theorem xlrem_nn {x y : Int} (h0 : 0 ≤ x) (h1 : x ≤ 9223372036854775807) (h2 : 0 < y) (h3 : y ≤ 9223372036854775807) : xlrem x y = x % y := by
  obtain ⟨n, rfl⟩ := Int.eq_ofNat_of_zero_le h0
  obtain ⟨k, rfl⟩ := Int.eq_ofNat_of_zero_le (Int.le_of_lt h2)
  unfold xlrem
  rw [xn_lN, xn_lN, pk_lRem (by omega) (by omega) (by omega), xn_lT (Nat.lt_of_le_of_lt (Nat.mod_le _ _) (by omega))]
  simp
theorem TS.keep {μ ν : xM} (h : TS μ) (h1 : ν 134 = μ 134) (h2 : ν 120 20 = μ 120 20) : TS ν := by
  unfold TS
  rw [h1, h2]
  exact h
theorem TS_join {μ M1 M2 M3 : xM} {a b z m n : Int} (hTS : TS μ) (hm : μ 120 20 = m) (ha : 0 ≤ a) (hab : a < b) (hbm : b < m) (e1 : M1 = xup μ 134 a z) (hz : xne z) (e2 : M2 = xup M1 120 20 (m - 1)) (hn : n = m - 1 - b) (e3 : M3 = xbr M2 134 (b + 1) 134 b n) : TS M3 ∧ M3 120 20 = m - 1 := by
  have c2 : M3 120 20 = m - 1 := by rw [e3, congrFun (xbr_c (by decide)) _, e2, xup_s]
  refine ⟨fun q h0 h1 => ?_, c2⟩
  rw [c2] at h1
  have k2 : ∀ r, M2 134 r = if r = a then z else μ 134 r := fun r => by rw [e2, congrFun (xup_c (by decide)) _, e1]; simp [xup]
  by_cases hq : q < b
  · rw [e3, xbr_j (by omega), k2]
    by_cases e : q = a
    · rw [if_pos e]; exact hz
    · rw [if_neg e]; exact hTS q h0 (by omega)
  · have : M3 134 q = M2 134 (b + 1 + (q - b)) := by
      rw [e3]
      exact if_pos ⟨rfl, by omega, by omega⟩
    rw [this, k2, if_neg (by omega)]
    exact hTS _ (by omega) (by omega)
end
section
/-! ===== cells are made ===== -/
theorem xent_ad {g : xG} {ad ad' : Nat → Nat} {s : Nat × Nat} {rf f : Int → Int} {n : Nat} (hr : ∀ j, rf j < (n : Int)) (ha : ∀ k, k < n → ad' k = ad k) : xent g ad' s rf f = xent g ad s rf f := by
  have key : ∀ j : Int, (if rf j < 0 then none else some (ad' (rf j).toNat)) = (if rf j < 0 then none else some (ad (rf j).toNat)) := by
    intro j
    by_cases h : rf j < 0
    · rw [if_pos h, if_pos h]
    · rw [if_neg h, if_neg h, ha _ (by have := hr j; omega)]
  unfold xent
  split
  · congr 2
    unfold xfs
    apply List.map_congr_left
    intro j _
    unfold xfv
    split
    · rfl
    · by_cases h : rf j < 0
      · rw [if_pos h, if_pos h]
      · rw [if_neg h, if_neg h, ha _ (by have := hr j; omega)]
    · rfl
  · rfl
  · rfl
  · rfl
  · rw [show (fun j : Nat => if rf j < 0 then none else some (ad' (rf j).toNat)) = (fun j : Nat => if rf j < 0 then none else some (ad (rf j).toNat)) from funext fun j => key j]
def xad (ad : Nat → Nat) (n q : Nat) : Nat → Nat := fun k => if k = n then q else ad k
theorem xad_lt {ad : Nat → Nat} {n q k : Nat} (h : k < n) : xad ad n q k = ad k := by unfold xad; rw [if_neg (by omega)]
def xgrow (w : xW) : xW := (w.1 + 1, w.2.1, w.2.2)
theorem xw_push {g : xG} {w : xW} {μ : xM} {ad : Nat → Nat} {q : Nat} (hok : xok w μ) (hr : ∀ j, w.2.2 w.1 j = -1) : xw g w μ ad ++ [(q, xent g ad (w.2.1 w.1) (w.2.2 w.1) (μ w.1))] = xw g (xgrow w) μ (xad ad w.1 q) := by
  unfold xw xgrow
  simp only
  rw [List.range_succ, List.map_append]
  congr 1
  · apply List.map_congr_left
    intro k hk
    have hk := List.mem_range.mp hk
    rw [xad_lt hk, xent_ad (n := w.1) (fun j => hok.2.2 k j hk) (fun k h => xad_lt h)]
  · simp only [List.map_cons, List.map_nil]
    rw [xent_ad (n := w.1) (ad' := xad ad w.1 q) (ad := ad) (fun j => by rw [hr]; omega) (fun k h => xad_lt h)]
    simp [xad]
theorem xok.grow {w : xW} {μ : xM} (h : xok w μ) (hr : ∀ j, w.2.2 w.1 j = -1) (hm : ∀ j, μ w.1 j = 0) : xok (xgrow w) μ := by
  refine ⟨fun k j hk hs => ?_, fun k j hk hs => ?_, fun k j hk => ?_⟩
  · by_cases e : k = w.1
    · subst e; rw [hm]; omega
    · exact h.1 k j (by have : k < w.1 + 1 := hk; omega) hs
  · by_cases e : k = w.1
    · subst e; rw [hm]; omega
    · exact h.2.1 k j (by have : k < w.1 + 1 := hk; omega) hs
  · show w.2.2 k j < ((w.1 + 1 : Nat) : Int)
    by_cases e : k = w.1
    · subst e; rw [hr]; omega
    · have := h.2.2 k j (by have : k < w.1 + 1 := hk; omega)
      omega
/-- the references at hand are of cells that there are -/
def xa1 (n : Nat) : List xV → Prop
  | [] => True
  | .inr (.inr (.inl k)) :: l => k < n ∧ xa1 n l
  | _ :: l => xa1 n l
def xa2 (n : Nat) : xLoc → Prop
  | [] => True
  | some (.inr (.inr (.inl k))) :: l => k < n ∧ xa2 n l
  | _ :: l => xa2 n l
theorem xa1_map {n : Nat} {ad ad' : Nat → Nat} (ha : ∀ k, k < n → ad' k = ad k) : ∀ st : List xV, xa1 n st → st.map (xt ad') = st.map (xt ad) := by
  intro st
  induction st with
  | nil => intro _; rfl
  | cons v l ih =>
    intro h
    match v, h with
    | .inl _, h => simp only [List.map_cons]; rw [ih h]; rfl
    | .inr (.inl _), h => simp only [List.map_cons]; rw [ih h]; rfl
    | .inr (.inr (.inl k)), h => simp only [List.map_cons]; rw [ih h.2]; simp only [xt]; rw [ha k h.1]
    | .inr (.inr (.inr _)), h => simp only [List.map_cons]; rw [ih h]; rfl
theorem xa2_get {n : Nat} : ∀ (lo : xLoc) (i k : Nat), xa2 n lo → lo[i]? = some (some (xR k)) → k < n := by
  intro lo
  induction lo with
  | nil => intro i k _ h; simp at h
  | cons o l ih =>
    intro i k h hi
    cases i with
    | zero =>
      simp only [List.getElem?_cons_zero, Option.some.injEq] at hi
      subst hi
      exact h.1
    | succ i =>
      simp only [List.getElem?_cons_succ] at hi
      refine ih i k ?_ hi
      match o, h with
      | none, h => exact h
      | some (.inl _), h => exact h
      | some (.inr (.inl _)), h => exact h
      | some (.inr (.inr (.inl _))), h => exact h.2
      | some (.inr (.inr (.inr _))), h => exact h
theorem xLo.ad {ls : Array Slot} {nL n : Nat} {lo : xLoc} {ad ad' : Nat → Nat} (h : xLo ls nL lo ad) (hl : xa2 n lo) (ha : ∀ k, k < n → ad' k = ad k) : xLo ls nL lo ad' := by
  refine ⟨h.1, h.2.1, fun i v hv => ?_⟩
  rw [h.2.2 i v hv]
  match v, hv with
  | .inl _, _ => rfl
  | .inr (.inl _), _ => rfl
  | .inr (.inr (.inl k)), hv => simp only [xt]; rw [ha k (xa2_get lo i k hl hv)]
  | .inr (.inr (.inr _)), _ => rfl
section
variable {own nm : String} {cc : ByteArray} {nL : Nat} {R : Room} {ret : Option FieldType} {mc ms : Nat} {K : Option xV → xW → xM → Prop} {X : Nat → Nat → xW → xM → Nat → xLoc → List xV → Prop}
variable {cu su : Nat} {w : xW} {μ : xM} {pc : Nat} {lo : xLoc} {st stk : List xV} {ci N : Nat} {C : String} {T : u_T} {ty : Nat → FieldType}
theorem r_new (hL : Lg own nm cc nL R ret mc ms K X) (hc : xCl ci C T N ty) {i : Nat} (hd : decode cc pc = .ok (.new i, 3)) (hcl : xWd (.classLink own i C)) (hin : xWd (.instantiable C N)) (hini : xWd (.initialized C)) (hdf : ∀ j, j < N → defaultValue (ty j) = xfv (fun _ => 0) (xkd (ty j)) (-1) 0)
    (hs : w.2.1 w.1 = (0, ci)) (hr : ∀ j, w.2.2 w.1 j = -1) (hm : ∀ j, μ w.1 j = 0) (h1 : xa1 w.1 st) (h2 : xa2 w.1 lo) (hcu : cu + 1 ≤ R.cells ∧ su + N ≤ R.slots) (k : X (cu + 1) (su + N) (xgrow w) μ (pc + 3) lo (xR w.1 :: st)) : X cu su w μ pc lo st := by
  obtain ⟨p, l, e, s, m, args, below, meth, c, g, w0, ad0, A, ⟨hx, hb, hml, hown, hT, hK, hSt, hA⟩, hr', hlk, hnm, rfl⟩ := hL
  intro H locs ls ad a1 a2 a3 hP hD hS hok hlo
  refine va_new (ci := ci) (C := C) (T := T) (N := N) hx hb (Ts := u_ws C T N) (fun w hw => hT w (hc.2.1 w hw) _) (fun _ h => h) ty hc.2.2.1 hown (hT _ hcl _) (hT _ hin _) (hT _ hini _) hK hP hD hS hA hc.1 (fs := xfs ad (xks ci) (w.2.2 w.1) (μ w.1)) ?_ hcu.1 hcu.2 hd (fun q H1 hP1 hD1 hS1 => ?_)
  · intro j hj
    have hlen : j < (xks ci).length := by rw [← hc.2.2.2.2.1]; exact hj
    have hg := xfs_get (ad := ad) (rf := w.2.2 w.1) (f := μ w.1) hlen
    unfold vp_V
    rw [List.getD_eq_getElem?_getD, hg, hdf j hj, hr, hm, hc.2.2.2.2.2.2 j hj]
    simp only [Option.getD_some]
    unfold xfv
    split <;> simp
  · have e : xw g w μ ad ++ [(q, .inr (ci, xfs ad (xks ci) (w.2.2 w.1) (μ w.1)))] = xw g (xgrow w) μ (xad ad w.1 q) := by
      rw [← xw_push hok hr, hs, xent_o]
    rw [e] at hP1 hD1
    have kk := k H1 locs ls (xad ad w.1 q) (Nat.le_succ_of_le a1) (fun k hk => by rw [xad_lt (by omega)]; exact a2 k hk) (fun h => by have : w.1 + 1 = w0.1 := h; omega) hP1 hD1 hS1 (hok.grow hr hm) (hlo.ad h2 (fun k h => xad_lt h))
    rw [List.map_cons, xa1_map (fun k h => xad_lt h) st h1] at kk
    rw [show xt (xad ad w.1 q) (xR w.1) = Value.ref q by simp [xt, xad]] at kk
    exact kk
/-- an array of ints, longs or booleans -/
theorem r_newa (hL : Lg own nm cc nL R ret mc ms K X) (kd : Nat) {n : Int} {nn : Nat} {at' : ArrayType} (hd : decode cc pc = .ok (.newarray at', 2)) (hty : (kd = 1 ∧ at' = .int) ∨ (kd = 2 ∧ at' = .long) ∨ (kd = 3 ∧ at' = .boolean)) (ha : xWd (.arrayClass (newarray.typeOf at'))) (hn : n = (nn : Int)) (hnn : nn ≤ 10000)
    (hs : w.2.1 w.1 = (kd, nn)) (hr : ∀ j, w.2.2 w.1 j = -1) (hm : ∀ j, μ w.1 j = 0) (h1 : xa1 w.1 st) (h2 : xa2 w.1 lo) (hcu : cu + 1 ≤ R.cells ∧ su + nn ≤ R.slots) (k : X (cu + 1) (su + nn) (xgrow w) μ (pc + 2) lo (xR w.1 :: st)) : X cu su w μ pc lo (xI n :: st) := by
  subst hn
  obtain ⟨p, l, e, s, m, args, below, meth, c, g, w0, ad0, A, ⟨hx, hb, hml, hown, hT, hK, hSt, hA⟩, hr', hlk, hnm, rfl⟩ := hL
  intro H locs ls ad a1 a2 a3 hP hD hS hok hlo
  simp only [List.map_cons, xt]
  have hneg : ¬ Int32.ofInt (nn : Int) < 0 := fun z => by have := (xn_lt (y := 0) (by omega) (by omega)).mp z; omega
  have hcl : (Int32.ofInt (nn : Int)).toNatClampNeg = nn := by rw [xn_cl (by omega) (by omega)]; simp
  have fin : ∀ (q : Nat) (H1 : Heap), va_P g.1 vwCl (xw g w μ ad ++ [(q, xent g ad (w.2.1 w.1) (w.2.2 w.1) (μ w.1))]) H1 → va_D A (xw g w μ ad ++ [(q, xent g ad (w.2.1 w.1) (w.2.2 w.1) (μ w.1))]) → va_S A s.heap H1 locs → W p l e R s m args below meth c H1 locs (cu + 1) (su + nn) (MQ below (xQ g w0 ad0 A K) args s mc ms A) (F0 m (pc + 2) ls (.ref q :: List.map (xt ad) st)) := by
    intro q H1 hP1 hD1 hS1
    rw [xw_push hok hr] at hP1 hD1
    have kk := k H1 locs ls (xad ad w.1 q) (Nat.le_succ_of_le a1) (fun k hk => by rw [xad_lt (by omega)]; exact a2 k hk) (fun h => by have : w.1 + 1 = w0.1 := h; omega) hP1 hD1 hS1 (hok.grow hr hm) (hlo.ad h2 (fun k h => xad_lt h))
    rw [List.map_cons, xa1_map (fun k h => xad_lt h) st h1] at kk
    rw [show xt (xad ad w.1 q) (xR w.1) = Value.ref q by simp [xt, xad]] at kk
    exact kk
  have hz : μ w.1 = fun _ => 0 := funext hm
  rcases hty with ⟨rfl, rfl⟩ | ⟨rfl, rfl⟩ | ⟨rfl, rfl⟩
  · refine va_newa (atype := .int) (ty := .int) (a0 := (nn, .inl fun _ => 0)) hx hb (hT _ ha _) rfl hK hP hD hS hA (fun cA => rfl) hneg hcl (by show nn * 4 ≤ _; omega) hcu.1 hcu.2 hd (fun q cA H1 hK1 hP1 hD1 hS1 => ?_)
    have e1 : cA = g.2.1 0 := Option.some.inj ((show s.vm.findClass _ = some cA from (hK1.2 5 (cA, .int) rfl).2).symm.trans (show s.vm.findClass _ = some (g.2.1 0) from (hK.2 0 (g.2.1 0, .int) rfl).2))
    subst e1
    refine fin q H1 ?_ ?_ hS1
    · rw [hs, hz]; exact hP1
    · rw [hs, hz]; exact hD1
  · refine va_newa (atype := .long) (ty := .long) (a0 := (nn, .inr (.inl fun _ => 0))) hx hb (hT _ ha _) rfl hK hP hD hS hA (fun cA => rfl) hneg hcl (by show nn * 8 ≤ _; omega) hcu.1 hcu.2 hd (fun q cA H1 hK1 hP1 hD1 hS1 => ?_)
    have e1 : cA = g.2.1 1 := Option.some.inj ((show s.vm.findClass _ = some cA from (hK1.2 5 (cA, .long) rfl).2).symm.trans (show s.vm.findClass _ = some (g.2.1 1) from (hK.2 1 (g.2.1 1, .long) rfl).2))
    subst e1
    refine fin q H1 ?_ ?_ hS1
    · rw [hs, hz]; exact hP1
    · rw [hs, hz]; exact hD1
  · refine va_newa (atype := .boolean) (ty := .boolean) (a0 := (nn, .inl fun _ => 0)) hx hb (hT _ ha _) rfl hK hP hD hS hA (fun cA => rfl) hneg hcl (by show nn * 1 ≤ _; omega) hcu.1 hcu.2 hd (fun q cA H1 hK1 hP1 hD1 hS1 => ?_)
    have e1 : cA = g.2.1 2 := Option.some.inj ((show s.vm.findClass _ = some cA from (hK1.2 5 (cA, .boolean) rfl).2).symm.trans (show s.vm.findClass _ = some (g.2.1 2) from (hK.2 2 (g.2.1 2, .boolean) rfl).2))
    subst e1
    refine fin q H1 ?_ ?_ hS1
    · rw [hs, hz]; exact hP1
    · rw [hs, hz]; exact hD1
/-- an array of objects -/
theorem r_newq (hL : Lg own nm cc nL R ret mc ms K X) (t : Nat) {n : Int} {nn i : Nat} {C : String} (hd : decode cc pc = .ok (.anewarray i, 3)) (hcl : xWd (.classLink own i C)) (hov : xWd (.arrayOver (.object C))) (hC : (t = 0 ∧ C = "TaleTypes$State") ∨ (t = 1 ∧ C = "TaleTypes$Image")) (hn : n = (nn : Int)) (hnn : nn ≤ 10000)
    (hs : w.2.1 w.1 = (t + 4, nn)) (hr : ∀ j, w.2.2 w.1 j = -1) (hm : ∀ j, μ w.1 j = 0) (h1 : xa1 w.1 st) (h2 : xa2 w.1 lo) (hcu : cu + 1 ≤ R.cells ∧ su + nn ≤ R.slots) (k : X (cu + 1) (su + nn) (xgrow w) μ (pc + 3) lo (xR w.1 :: st)) : X cu su w μ pc lo (xI n :: st) := by
  subst hn
  obtain ⟨p, l, e, s, m, args, below, meth, c, g, w0, ad0, A, ⟨hx, hb, hml, hown, hT, hK, hSt, hA⟩, hr', hlk, hnm, rfl⟩ := hL
  intro H locs ls ad a1 a2 a3 hP hD hS hok hlo
  simp only [List.map_cons, xt]
  have hneg : ¬ Int32.ofInt (nn : Int) < 0 := fun z => by have := (xn_lt (y := 0) (by omega) (by omega)).mp z; omega
  have hcn : (Int32.ofInt (nn : Int)).toNatClampNeg = nn := by rw [xn_cl (by omega) (by omega)]; simp
  refine va_newq hx hb hown (hT _ hcl _) (va_AO.of (hT _ hov #[])) hK hP hD hS hA hneg hcn (by omega) hcu.1 hcu.2 hd (fun q cA H1 hK1 hP1 hD1 hS1 => ?_)
  have e1 : cA = g.2.1 (t + 3) := by
    rcases hC with ⟨rfl, rfl⟩ | ⟨rfl, rfl⟩
    · obtain ⟨_, _, _, _, _, f1⟩ := (hK1.2 5 (cA, .object "TaleTypes$State") rfl).2
      obtain ⟨_, _, _, _, _, f2⟩ := (hK.2 3 (g.2.1 3, .object "TaleTypes$State") rfl).2
      exact Option.some.inj (f1.symm.trans f2)
    · obtain ⟨_, _, _, _, _, f1⟩ := (hK1.2 5 (cA, .object "TaleTypes$Image") rfl).2
      obtain ⟨_, _, _, _, _, f2⟩ := (hK.2 4 (g.2.1 4, .object "TaleTypes$Image") rfl).2
      exact Option.some.inj (f1.symm.trans f2)
  subst e1
  have e2 : xent g ad (w.2.1 w.1) (w.2.2 w.1) (μ w.1) = .inl (g.2.1 (t + 3), nn, .inr (.inr (.inr (.inr (fun _ => none))))) := by
    rw [hs, show w.2.2 w.1 = fun _ => -1 from funext hr]
    rfl
  rw [← e2, xw_push hok hr] at hP1 hD1
  have kk := k H1 locs ls (xad ad w.1 q) (Nat.le_succ_of_le a1) (fun k hk => by rw [xad_lt (by omega)]; exact a2 k hk) (fun h => by have : w.1 + 1 = w0.1 := h; omega) hP1 hD1 hS1 (hok.grow hr hm) (hlo.ad h2 (fun k h => xad_lt h))
  rw [List.map_cons, xa1_map (fun k h => xad_lt h) st h1] at kk
  rw [show xt (xad ad w.1 q) (xR w.1) = Value.ref q by simp [xt, xad]] at kk
  exact kk
theorem xok.rf {w : xW} {μ : xM} (h : xok w μ) {k : Nat} {j r : Int} (hr : r < (w.1 : Int)) : xok (xrf w k j r) μ := by
  refine ⟨h.1, h.2.1, fun a b ha => ?_⟩
  show xup w.2.2 k j r a b < (w.1 : Int)
  by_cases hab : a = k ∧ b = j
  · simp only [xup, if_pos hab]; exact hr
  · simp only [xup, if_neg hab]; exact h.2.2 a b ha
/-- a final reference, in a constructor -/
theorem r_putr (hL : Lg own "<init>" cc nL R ret mc ms K X) (hc : xCl ci C T N ty) {k i q : Nat} (j : Nat) {j' : Int} (hj' : (j : Int) = j') (hk : k < w.1) (hs : w.2.1 k = (0, ci)) (hj : j < N) (hl : xWd (.fieldLink own i C (T j).2.1 (T j).2.2.1)) (hf : (T j).2.2.2 = true) (hdecl : (T j).1 = own) (h2 : (xks ci).getD j 0 = 2) (hfit : ∀ a, narrow (ty j) (.ref a) = .ref a ∧ fits (ty j) (.ref a) = true) (hq : q < w.1)
    (hd : decode cc pc = .ok (.putfield i, 3)) (kk : X cu su (xrf w k j' (q : Int)) μ (pc + 3) lo st) : X cu su w μ pc lo (xR q :: xR k :: st) := by
  subst hj'
  obtain ⟨p, l, e, s, m, args, below, meth, c, g, w0, ad0, A, ⟨hx, hb, hml, hown, hT, hK, hSt, hA⟩, hr, hlk, hnm, rfl⟩ := hL
  intro H locs ls ad a1 a2 a3 hP hD hS hok hlo
  have hlen : j < (xks ci).length := by rw [← hc.2.2.2.2.1]; exact hj
  have hset : (xw g w μ ad).set k (ad k, .inr (ci, (xfs ad (xks ci) (w.2.2 k) (μ k)).set j (.ref (ad q)))) = xw g (xrf w k j (q : Int)) μ ad := by
    have hv : Value.ref (ad q) = xfv ad ((xks ci).getD j 0) (q : Int) (μ k j) := by
      rw [h2]
      show _ = if (q : Int) < 0 then Value.null else .ref (ad (q : Int).toNat)
      rw [if_neg (by omega)]
      rfl
    rw [hv, xfs_setr hlen, ← xw_setr hk, hs, xent_o]
  simp only [List.map_cons, xt]
  refine va_putF hx hb (Ts := u_ws C T N) (fun w hw => hT w (hc.2.1 w hw) _) (fun _ h => h) ty hc.2.2.1 hc.2.2.2.1 hown hK hP hD hS k (xw_o hk hs) hc.1 j hj (hT _ hl _) (fun x hx => (hc.2.2.2.2.2.1 j hj) ▸ hx) hf hnm hdecl (hc.2.2.1 j hj) (hfit _).1 (hfit _).2 (by rw [xfs_len]; exact hlen) hd (fun H1 locs1 hP1 hD1 hS1 => ?_)
  rw [hset] at hP1 hD1
  exact kk H1 locs1 ls ad a1 a2 a3 hP1 hD1 hS1 (hok.rf (by omega)) hlo
/-- an object into an array of objects -/
theorem r_aast (hL : Lg own nm cc nL R ret mc ms K X) (t : Nat) {k n q : Nat} {i : Int} (hc : xCl ci C T N ty) (hd : decode cc pc = .ok (.aastore, 1)) (hk : k < w.1) (hs : w.2.1 k = (t + 4, n)) (hC : (t = 0 ∧ C = "TaleTypes$State") ∨ (t = 1 ∧ C = "TaleTypes$Image")) (hn : n ≤ 10000) (h0 : 0 ≤ i) (h1 : i < n) (hq : q < w.1) (hqs : w.2.1 q = (0, ci)) (kk : X cu su (xrf w k i (q : Int)) μ (pc + 1) lo st) : X cu su w μ pc lo (xR q :: xI i :: xR k :: st) := by
  obtain ⟨p, l, e, s, m, args, below, meth, c, g, w0, ad0, A, ⟨hx, hb, hml, hown, hT, hK, hSt, hA⟩, hr, hlk, hnm, rfl⟩ := hL
  intro H locs ls ad a1 a2 a3 hP hD hS hok hlo
  simp only [List.map_cons, xt]
  have hty : (xtys g)[t + 3]? = some (g.2.1 (t + 3), .object C) := by
    rcases hC with ⟨rfl, rfl⟩ | ⟨rfl, rfl⟩ <;> rfl
  refine va_astq hx hb hK hP hD hS k (t + 3) q ci (n := n) (f := fun j => if w.2.2 k j < 0 then none else some (ad (w.2.2 k j).toNat)) (cA := g.2.1 (t + 3)) (r := (C, T, N)) (by rw [xw_get hk, hs]; rfl) hty (xw_o hq hqs) hc.1 (xn_in h0 h1 (by omega)) hd (fun H1 locs1 hP1 hD1 hS1 => ?_)
  have hset : (xw g w μ ad).set k (ad k, .inl (g.2.1 (t + 3), n, .inr (.inr (.inr (.inr (va_up (fun j => if w.2.2 k j < 0 then none else some (ad (w.2.2 k j).toNat)) (Int32.ofInt i).toNatClampNeg (some (ad q)))))))) = xw g (xrf w k i (q : Int)) μ ad := by
    rw [← xw_setr hk, hs]
    show _ = (xw g w μ ad).set k (ad k, .inl (g.2.1 (t + 3), n, .inr (.inr (.inr (.inr (fun j : Nat => if xf1 (w.2.2 k) i q j < 0 then none else some (ad (xf1 (w.2.2 k) i q j).toNat)))))))
    rw [show va_up (fun j : Nat => if w.2.2 k j < 0 then none else some (ad (w.2.2 k j).toNat)) (Int32.ofInt i).toNatClampNeg (some (ad q)) = (fun j : Nat => if xf1 (w.2.2 k) i q j < 0 then none else some (ad (xf1 (w.2.2 k) i q j).toNat)) from by
      funext j
      rw [xn_cl h0 (by omega)]
      unfold va_up xf1
      by_cases hj : j = i.toNat
      · rw [if_pos hj, if_pos (show (j : Int) = i by omega), if_neg (by omega)]
        simp
      · rw [if_neg hj, if_neg (show ¬ (j : Int) = i by omega)]]
  rw [hset] at hP1 hD1
  exact kk H1 locs1 ls ad a1 a2 a3 hP1 hD1 hS1 (hok.rf (by omega)) hlo
theorem r_objInit (hL : Lg own nm cc nL R ret mc ms K X) {i k : Nat} (hd : decode cc pc = .ok (.invokespecial i, 3)) (hl : xWd (.methodLink own i Lib.objectInit)) (him : xWd (.instanceMethod Lib.objectInit)) (hco : xWd (.code Lib.objectInit ⟨#[0xb1]⟩ 1 none)) (hR : 1 ≤ R.frames ∧ xcs st + 12 ≤ R.locals) (kk : X cu su w μ (pc + 3) lo st) : X cu su w μ pc lo (xR k :: st) := by
  obtain ⟨p, l, e, s, m, args, below, meth, c, g, w0, ad0, A, ⟨hx, hb, hml, hown, hT, hK, hSt, hA⟩, hr, hlk, hnm, rfl⟩ := hL
  intro H locs ls ad a1 a2 a3 hP hD hS hok hlo
  have kk := kk H locs ls ad a1 a2 a3 hP hD hS hok hlo
  simp only [List.map_cons, xt]
  exact W.objInit hx hb hown (hT _ hl _) (hT _ him _) (hT _ hco _) rfl (hlo.1.trans hml.symm) rfl hd hR.1 (by show 2 * 0 + _ + 12 ≤ _; rw [xcs_cat]; omega) kk
variable {y : MethodName} {b : ByteArray} {maxL fr lc i mc' ms' : Nat} {av : List xV}
/-- a constructor that makes cells -/
theorem r_callI (hL : Lg own nm cc nL R ret mc ms K X) {k : Nat} (hM : xMet y b maxL none fr lc mc' ms' [xR k] w μ (fun r w' μ' => r = none ∧ X (cu + mc') (su + ms') w' μ' (pc + 3) lo st)) (he : xCe y b maxL none 0) (hnm' : y.name = "<init>") (him : xWd (.instanceMethod y)) (hl : xWd (.methodLink own i y)) (hd : decode cc pc = .ok (.invokespecial i, 3)) (h1 : xa1 w.1 st) (h2 : xa2 w.1 lo) (hcs : xcs st ≤ 8) (hR : fr + 1 ≤ R.frames ∧ 8 + (maxL + 11) + lc ≤ R.locals) (hcu : cu + mc' ≤ R.cells ∧ su + ms' ≤ R.slots) : X cu su w μ pc lo (xR k :: st) := by
  obtain ⟨p, l, e, s, m, args, below, meth, c, g, w0, ad0, A, ⟨hx, hb, hml, hown, hT, hK, hSt, hA⟩, hr, hlk, hnm, rfl⟩ := hL
  intro H locs ls ad a1 a2 a3 hP hD hS hok hlo
  obtain ⟨g1, g2, g3, g4⟩ := he
  refine xcall (va_runI (Ts := []) (b := ad k) (As := []) (rest := st.map (xt ad)) (n := 0) ⟨hx, hb, hml, hown, fun _ h => by cases h⟩ (hM l g ad H.size) ⟨⟨rfl, rfl, hR.1, hR.2, fun q hq a' U hW => by rw [List.mem_singleton.mp hq]; exact hT.warm hW _ g1 _, List.mem_singleton.mpr rfl, hT _ g1 _, hT _ g2 _, g3, fun sig h => ?_, hT _ hl _⟩, hnm', hT _ him _⟩
    ⟨xblind, fun U hU hW => ⟨rfl, xpre hT hK hSt hA hP hD hS hok U hU hW⟩⟩ rfl rfl hlo.1 rfl (lv_room (by rw [xcs_cat]; exact hcs)) hd ⟨hcu.1, hcu.2⟩) hS hD hA (fun r w' μ' ad' H1 locs1 hk b1 b2 b3 hP1 hD1 hS1 hok1 => ?_)
  · rw [h] at g4; exact (Option.some.inj g4).symm
  · obtain ⟨rfl, hk⟩ := hk
    have kk := hk H1 locs1 ls ad' (Nat.le_trans a1 b1) (fun q hq => (b2 q (by omega)).trans (a2 q hq)) (fun h => (b3 (by omega)).trans (a3 (by omega))) hP1 hD1 hS1 hok1 (hlo.ad h2 b2)
    rw [xa1_map b2 st h1] at kk
    exact kk
theorem r_callIN (hL : Lg own nm cc nL R ret mc ms K X) {k : Nat} {host : String} (hM : xMet y b maxL none fr lc mc' ms' [xR k] w μ (fun r w' μ' => r = none ∧ X (cu + mc') (su + ms') w' μ' (pc + 3) lo st)) (he : xCe y b maxL none 0) (hnm' : y.name = "<init>") (him : xWd (.instanceMethod y)) (hl : xWd (.methodLinkNest own i y host)) (hd : decode cc pc = .ok (.invokespecial i, 3)) (h1 : xa1 w.1 st) (h2 : xa2 w.1 lo) (hcs : xcs st ≤ 8) (hR : fr + 1 ≤ R.frames ∧ 8 + (maxL + 11) + lc ≤ R.locals) (hcu : cu + mc' ≤ R.cells ∧ su + ms' ≤ R.slots) : X cu su w μ pc lo (xR k :: st) := by
  obtain ⟨p, l, e, s, m, args, below, meth, c, g, w0, ad0, A, ⟨hx, hb, hml, hown, hT, hK, hSt, hA⟩, hr, hlk, hnm, rfl⟩ := hL
  intro H locs ls ad a1 a2 a3 hP hD hS hok hlo
  obtain ⟨g1, g2, g3, g4⟩ := he
  refine xcall (va_runIN (Ts := []) (b := ad k) (As := []) (rest := st.map (xt ad)) (n := 0) ⟨hx, hb, hml, hown, fun _ h => by cases h⟩ (hM l g ad H.size) ⟨⟨⟨rfl, rfl, hR.1, hR.2, fun q hq a' U hW => by rw [List.mem_singleton.mp hq]; exact hT.warm hW _ g1 _, List.mem_singleton.mpr rfl⟩, hT _ g1 _, hT _ g2 _, g3, fun sig h => ?_, hT _ hl _⟩, hnm', hT _ him _⟩
    ⟨xblind, fun U hU hW => ⟨rfl, xpre hT hK hSt hA hP hD hS hok U hU hW⟩⟩ rfl rfl hlo.1 rfl (lv_room (by rw [xcs_cat]; exact hcs)) hd ⟨hcu.1, hcu.2⟩) hS hD hA (fun r w' μ' ad' H1 locs1 hk b1 b2 b3 hP1 hD1 hS1 hok1 => ?_)
  · rw [h] at g4; exact (Option.some.inj g4).symm
  · obtain ⟨rfl, hk⟩ := hk
    have kk := hk H1 locs1 ls ad' (Nat.le_trans a1 b1) (fun q hq => (b2 q (by omega)).trans (a2 q hq)) (fun h => (b3 (by omega)).trans (a3 (by omega))) hP1 hD1 hS1 hok1 (hlo.ad h2 b2)
    rw [xa1_map b2 st h1] at kk
    exact kk
/-- the same world under another name -/
theorem r_weq (hL : Lg own nm cc nL R ret mc ms K X) {w' : xW} (h1 : w'.1 = w.1) (h2 : ∀ k, k < w.1 → w'.2.1 k = w.2.1 k) (h3 : ∀ k j, k < w.1 → w'.2.2 k j = w.2.2 k j) (kk : X cu su w' μ pc lo st) : X cu su w μ pc lo st := by
  obtain ⟨p, l, e, s, m, args, below, meth, c, g, w0, ad0, A, ⟨hx, hb, hml, hown, hT, hK, hSt, hA⟩, hr, hlk, hnm, rfl⟩ := hL
  intro H locs ls ad a1 a2 a3 hP hD hS hok hlo
  have ew : xw g w' μ ad = xw g w μ ad := by
    unfold xw
    rw [h1]
    apply List.map_congr_left
    intro k hk
    have hk := List.mem_range.mp hk
    rw [h2 k hk, show w'.2.2 k = w.2.2 k from funext fun j => h3 k j hk]
  refine kk H locs ls ad (by omega) a2 (fun h => a3 (by omega)) (by rw [ew]; exact hP) (by rw [ew]; exact hD) hS ⟨fun k j hk hz => ?_, fun k j hk hz => ?_, fun k j hk => ?_⟩ hlo
  · rw [h1] at hk; rw [h2 k hk] at hz; exact hok.1 k j hk hz
  · rw [h1] at hk; rw [h2 k hk] at hz; exact hok.2.1 k j hk hz
  · rw [h1] at hk ⊢; rw [h3 k j hk]; exact hok.2.2 k j hk
end
end
section
/-! ===== what the constructors leave ===== -/
def xgl (l : List Int) (j : Int) : Int := if j < 0 then -1 else l.getD j.toNat (-1)
theorem xgl_out {l : List Int} {j : Int} (h : j < 0 ∨ (l.length : Int) ≤ j) : xgl l j = -1 := by
  unfold xgl
  by_cases hj : j < 0
  · rw [if_pos hj]
  · rw [if_neg hj, List.getD_eq_getElem?_getD, List.getElem?_eq_none (by omega)]
    rfl
theorem xRF_none {k : Nat} (h : ∀ j, xRF k j = xgl [] j) (j : Int) : xRF k j = -1 := by
  rw [h]
  unfold xgl
  split <;> rfl
theorem st_rl : ∀ c ∈ xsts, ∀ j, xRF c j = xgl [((c + 1 : Nat) : Int), ((c + 2 : Nat) : Int), ((c + 3 : Nat) : Int), ((c + 4 : Nat) : Int)] j ∧ xRF (c + 1) j = xgl [] j ∧ xRF (c + 2) j = xgl [] j ∧ xRF (c + 3) j = xgl [] j ∧ xRF (c + 4) j = xgl [] j := by
  intro c hc j
  have key : ∀ L : List Nat, (∀ c ∈ L, c ∈ xsts) → c ∈ L → (c ∈ L) := fun _ _ h => h
  simp only [xsts, List.mem_cons, List.not_mem_nil, or_false] at hc
  rcases hc with h | h | h | h | h | h | h | h | h | h | h | h | h | h | h | h | h | h | h <;> subst h <;> exact ⟨rfl, rfl, rfl, rfl, rfl⟩
theorem xRF_lt (k : Nat) (j : Int) : xRF k j < 138 := by
  unfold xRF
  split
  · omega
  · rename_i hj
    rw [List.getD_eq_getElem?_getD]
    cases e : (List.getD _ k [])[j.toNat]? with
    | none => show (-1 : Int) < 138; omega
    | some v =>
      show v < 138
      have hv := List.mem_of_getElem? e
      rw [List.getD_eq_getElem?_getD] at hv
      cases e2 : (_ : List (List Int))[k]? with
      | none => rw [e2] at hv; simp at hv
      | some l =>
        rw [e2] at hv
        have hl := List.mem_of_getElem? e2
        exact (by decide +kernel : ∀ l ∈ _, ∀ v ∈ l, v < (138 : Int)) l hl v hv
/-- what the constructors leave 0 -/
def zs (k : Nat) (j : Int) : Prop := (k = 0 ∧ (j = 7 ∨ j = 8)) ∨ (k = 1 ∧ (j = 4 ∨ j = 5)) ∨ k = 5 ∨ (k = 88 ∧ j = 3) ∨ (k = 6 ∧ j = 1) ∨ (k = 108 ∧ j = 2) ∨ (k = 114 ∧ j = 2) ∨ (k = 120 ∧ (j = 2 ∨ j = 6 ∨ j = 8 ∨ j = 9)) ∨ (k = 121 ∧ (j = 0 ∨ j = 1 ∨ 22 ≤ j)) ∨ k = 124 ∨ (k = 0 ∧ j = 9)
def BZ (μ : xM) : Prop := BI μ ∧ ∀ k j, zs k j → μ k j = 0
theorem BZ.up {μ : xM} (h : BZ μ) {k : Nat} {j v : Int} (hv : bd (bk k) j v) (hz : zs k j → v = 0) : BZ (xup μ k j v) := by
  refine ⟨h.1.up hv, fun a b hab => ?_⟩
  by_cases e : a = k ∧ b = j
  · obtain ⟨rfl, rfl⟩ := e
    rw [xup_s]
    exact hz hab
  · simp only [xup, if_neg e]
    exact h.2 a b hab
def cst (μ : xM) : Prop := μ 4 0 = 2 ∧ μ 4 1 = 2 ∧ μ 4 2 = 1 ∧ μ 4 3 = 3
def cst2 (μ : xM) : Prop := μ 121 2 = 2 ∧ μ 121 3 = 2 ∧ μ 121 4 = 1 ∧ μ 121 5 = 3
theorem cst.keep {μ μ' : xM} (h : cst μ) (e : ∀ j, μ' 4 j = μ 4 j) : cst μ' := by
  unfold cst
  rw [e, e, e, e]
  exact h
theorem st_rn : ∀ c ∈ xsts, c = 1 ∨ (8 ≤ c ∧ c ≤ 83) ∨ c = 109 ∨ c = 115 := by decide +kernel
/-- behind a constructor: the cells from c on are as they are to be, below n; from n on nothing is -/
def CK (c n : Nat) (rf : Nat → Int → Int) (μ0 : xM) (w : xW) (μ : xM) : Prop := ∃ rf' : Nat → Int → Int, w = (n, xSH, rf') ∧ (∀ k j, k < c → rf' k j = rf k j) ∧ (∀ k j, c ≤ k → k < n → rf' k j = xRF k j) ∧ (∀ k j, n ≤ k → rf' k j = -1) ∧ (∀ k j, n ≤ k → μ k j = 0) ∧ BZ μ ∧ (∀ k j, k < c → μ k j = μ0 k j) ∧ (c ≤ 1 → cst μ) ∧ (c = 120 → cst2 μ)
/-- ahead of it -/
def CP (c : Nat) (rf : Nat → Int → Int) (μ : xM) : Prop := (∀ k j, c ≤ k → rf k j = -1) ∧ (∀ k j, c ≤ k → μ k j = 0) ∧ BZ μ
end
section
theorem df_0 : ∀ j, j < 4 → defaultValue (tyX0 j) = xfv (fun _ => 0) (xkd (tyX0 j)) (-1) 0 := by
  intro j hj
  rcases (show j = 0 ∨ j = 1 ∨ j = 2 ∨ j = 3 by omega) with h | h | h | h <;> subst h <;> rfl
theorem df_1 : ∀ j, j < 3 → defaultValue (tyX1 j) = xfv (fun _ => 0) (xkd (tyX1 j)) (-1) 0 := by
  intro j hj
  rcases (show j = 0 ∨ j = 1 ∨ j = 2 by omega) with h | h | h <;> subst h <;> rfl
theorem df_2 : ∀ j, j < 1 → defaultValue (tyX2 j) = xfv (fun _ => 0) (xkd (tyX2 j)) (-1) 0 := by
  intro j hj
  rcases (show j = 0 by omega) with h <;> subst h <;> rfl
theorem df_3 : ∀ j, j < 3 → defaultValue (tyX3 j) = xfv (fun _ => 0) (xkd (tyX3 j)) (-1) 0 := by
  intro j hj
  rcases (show j = 0 ∨ j = 1 ∨ j = 2 by omega) with h | h | h <;> subst h <;> rfl
theorem df_4 : ∀ j, j < 9 → defaultValue (tyX4 j) = xfv (fun _ => 0) (xkd (tyX4 j)) (-1) 0 := by
  intro j hj
  rcases (show j = 0 ∨ j = 1 ∨ j = 2 ∨ j = 3 ∨ j = 4 ∨ j = 5 ∨ j = 6 ∨ j = 7 ∨ j = 8 by omega) with h | h | h | h | h | h | h | h | h <;> subst h <;> rfl
theorem df_5 : ∀ j, j < 6 → defaultValue (tyX5 j) = xfv (fun _ => 0) (xkd (tyX5 j)) (-1) 0 := by
  intro j hj
  rcases (show j = 0 ∨ j = 1 ∨ j = 2 ∨ j = 3 ∨ j = 4 ∨ j = 5 by omega) with h | h | h | h | h | h <;> subst h <;> rfl
theorem df_6 : ∀ j, j < 11 → defaultValue (tyX6 j) = xfv (fun _ => 0) (xkd (tyX6 j)) (-1) 0 := by
  intro j hj
  rcases (show j = 0 ∨ j = 1 ∨ j = 2 ∨ j = 3 ∨ j = 4 ∨ j = 5 ∨ j = 6 ∨ j = 7 ∨ j = 8 ∨ j = 9 ∨ j = 10 by omega) with h | h | h | h | h | h | h | h | h | h | h <;> subst h <;> rfl
theorem df_7 : ∀ j, j < 10 → defaultValue (tyX7 j) = xfv (fun _ => 0) (xkd (tyX7 j)) (-1) 0 := by
  intro j hj
  rcases (show j = 0 ∨ j = 1 ∨ j = 2 ∨ j = 3 ∨ j = 4 ∨ j = 5 ∨ j = 6 ∨ j = 7 ∨ j = 8 ∨ j = 9 by omega) with h | h | h | h | h | h | h | h | h | h <;> subst h <;> rfl
theorem df_8 : ∀ j, j < 24 → defaultValue (tyX8 j) = xfv (fun _ => 0) (xkd (tyX8 j)) (-1) 0 := by
  intro j hj
  rcases (show j = 0 ∨ j = 1 ∨ j = 2 ∨ j = 3 ∨ j = 4 ∨ j = 5 ∨ j = 6 ∨ j = 7 ∨ j = 8 ∨ j = 9 ∨ j = 10 ∨ j = 11 ∨ j = 12 ∨ j = 13 ∨ j = 14 ∨ j = 15 ∨ j = 16 ∨ j = 17 ∨ j = 18 ∨ j = 19 ∨ j = 20 ∨ j = 21 ∨ j = 22 ∨ j = 23 by omega) with h | h | h | h | h | h | h | h | h | h | h | h | h | h | h | h | h | h | h | h | h | h | h | h <;> subst h <;> rfl
set_option maxHeartbeats 4000000 in
set_option maxRecDepth 20000 in
theorem m_X5_init {K : Option xV → xW → xM → Prop} {μ : xM} (c : Nat) (h_c : c ∈ xsts) (rf : Nat → Int → Int) (hC : CP c rf μ) (hK : ∀ w' μ', CK c (c + 5) rf μ w' μ' → K none w' μ') : xMet yX5_init cX5_init 1 none 1 26 4 28 [xR c] (c + 1, xSH, rf) μ K := by
  obtain ⟨hf, hz, hB⟩ := hC
  refine xMet.go RX5 "<init>" rfl rfl (by decide) [some (xR c)] (Nat.le_of_ble_eq_true rfl) rfl (fun X hL => ?_)
  have hsh := st_sh c h_c
  have hlt : c + 4 < 138 := hsh.2.2.2.2.2.1
  have hu : ∀ k j, k < c → μ k j = μ k j := fun _ _ _ => rfl
  have hrn := st_rn c h_c
  refine r_aload_n hL (x := c) dX5_init_0 rfl ?_
  refine r_objInit hL dX5_init_1 ml_X5_3 im_Lib_objectInit kd_Lib_objectInit ⟨Nat.le_of_ble_eq_true rfl, Nat.le_of_ble_eq_true rfl⟩ ?_
  refine r_aload_n hL (x := c) dX5_init_4 rfl ?_
  refine r_bipush hL dX5_init_5 (by decide) ?_
  refine r_newa hL 2 (nn := 8) dX5_init_7 (Or.inr (Or.inl ⟨rfl, rfl⟩)) ac_Jvm_ClassFile_FieldType_long rfl (by decide) hsh.2.1 (fun j => hf (c + 1) j (by omega)) (fun j => hz (c + 1) j (by omega)) (show c < c + 1 ∧ True from ⟨by omega, trivial⟩) (show c < c + 1 ∧ True from ⟨by omega, trivial⟩) ⟨Nat.le_of_ble_eq_true rfl, Nat.le_of_ble_eq_true rfl⟩ ?_
  show X (1) (8) (c + 2, xSH, rf) μ 9 [some (xR c)] [xR (c + 1), xR c]
  refine r_putr hL xcl5 0 (j' := 0) rfl (by show _ < _; omega) hsh.1 (by decide) fw_X5_9 rfl rfl (by decide) (fun a => ⟨rfl, rfl⟩) (by show _ < _; omega) dX5_init_9 ?_
  obtain ⟨rf1, hrf1⟩ : ∃ r, r = xup rf c 0 ((c + 1 : Nat) : Int) := ⟨_, rfl⟩
  show X (1) (8) (c + 2, xSH, (xup rf c 0 ((c + 1 : Nat) : Int))) μ 12 [some (xR c)] []
  rw [← hrf1]
  have hg1 : ∀ k j, c + 2 ≤ k → rf1 k j = -1 := fun k j hk => by rw [hrf1]; exact (congrFun (xup_c (by omega)) j).trans (hf k j (by omega))
  refine r_aload_n hL (x := c) dX5_init_12 rfl ?_
  refine r_bipush hL dX5_init_13 (by decide) ?_
  refine r_newa hL 1 (nn := 8) dX5_init_15 (Or.inl ⟨rfl, rfl⟩) ac_Jvm_ClassFile_FieldType_int rfl (by decide) hsh.2.2.1 (fun j => hg1 (c + 2) j (by omega)) (fun j => hz (c + 2) j (by omega)) (show c < c + 2 ∧ True from ⟨by omega, trivial⟩) (show c < c + 2 ∧ True from ⟨by omega, trivial⟩) ⟨Nat.le_of_ble_eq_true rfl, Nat.le_of_ble_eq_true rfl⟩ ?_
  show X (2) (16) (c + 3, xSH, rf1) μ 17 [some (xR c)] [xR (c + 2), xR c]
  refine r_putr hL xcl5 1 (j' := 1) rfl (by show _ < _; omega) hsh.1 (by decide) fw_X5_15 rfl rfl (by decide) (fun a => ⟨rfl, rfl⟩) (by show _ < _; omega) dX5_init_17 ?_
  obtain ⟨rf2, hrf2⟩ : ∃ r, r = xup rf1 c 1 ((c + 2 : Nat) : Int) := ⟨_, rfl⟩
  show X (2) (16) (c + 3, xSH, (xup rf1 c 1 ((c + 2 : Nat) : Int))) μ 20 [some (xR c)] []
  rw [← hrf2]
  have hg2 : ∀ k j, c + 3 ≤ k → rf2 k j = -1 := fun k j hk => by rw [hrf2]; exact (congrFun (xup_c (by omega)) j).trans (hg1 k j (by omega))
  refine r_aload_n hL (x := c) dX5_init_20 rfl ?_
  refine r_iconst hL dX5_init_21 ?_
  refine r_newa hL 1 (nn := 4) dX5_init_22 (Or.inl ⟨rfl, rfl⟩) ac_Jvm_ClassFile_FieldType_int rfl (by decide) hsh.2.2.2.1 (fun j => hg2 (c + 3) j (by omega)) (fun j => hz (c + 3) j (by omega)) (show c < c + 3 ∧ True from ⟨by omega, trivial⟩) (show c < c + 3 ∧ True from ⟨by omega, trivial⟩) ⟨Nat.le_of_ble_eq_true rfl, Nat.le_of_ble_eq_true rfl⟩ ?_
  show X (3) (20) (c + 4, xSH, rf2) μ 24 [some (xR c)] [xR (c + 3), xR c]
  refine r_putr hL xcl5 2 (j' := 2) rfl (by show _ < _; omega) hsh.1 (by decide) fw_X5_19 rfl rfl (by decide) (fun a => ⟨rfl, rfl⟩) (by show _ < _; omega) dX5_init_24 ?_
  obtain ⟨rf3, hrf3⟩ : ∃ r, r = xup rf2 c 2 ((c + 3 : Nat) : Int) := ⟨_, rfl⟩
  show X (3) (20) (c + 4, xSH, (xup rf2 c 2 ((c + 3 : Nat) : Int))) μ 27 [some (xR c)] []
  rw [← hrf3]
  have hg3 : ∀ k j, c + 4 ≤ k → rf3 k j = -1 := fun k j hk => by rw [hrf3]; exact (congrFun (xup_c (by omega)) j).trans (hg2 k j (by omega))
  refine r_aload_n hL (x := c) dX5_init_27 rfl ?_
  refine r_bipush hL dX5_init_28 (by decide) ?_
  refine r_newa hL 1 (nn := 8) dX5_init_30 (Or.inl ⟨rfl, rfl⟩) ac_Jvm_ClassFile_FieldType_int rfl (by decide) hsh.2.2.2.2.1 (fun j => hg3 (c + 4) j (by omega)) (fun j => hz (c + 4) j (by omega)) (show c < c + 4 ∧ True from ⟨by omega, trivial⟩) (show c < c + 4 ∧ True from ⟨by omega, trivial⟩) ⟨Nat.le_of_ble_eq_true rfl, Nat.le_of_ble_eq_true rfl⟩ ?_
  show X (4) (28) (c + 5, xSH, rf3) μ 32 [some (xR c)] [xR (c + 4), xR c]
  refine r_putr hL xcl5 3 (j' := 3) rfl (by show _ < _; omega) hsh.1 (by decide) fw_X5_22 rfl rfl (by decide) (fun a => ⟨rfl, rfl⟩) (by show _ < _; omega) dX5_init_32 ?_
  obtain ⟨rf4, hrf4⟩ : ∃ r, r = xup rf3 c 3 ((c + 4 : Nat) : Int) := ⟨_, rfl⟩
  show X (4) (28) (c + 5, xSH, (xup rf3 c 3 ((c + 4 : Nat) : Int))) μ 35 [some (xR c)] []
  rw [← hrf4]
  have hg4 : ∀ k j, c + 5 ≤ k → rf4 k j = -1 := fun k j hk => by rw [hrf4]; exact (congrFun (xup_c (by omega)) j).trans (hg3 k j (by omega))
  refine r_aload_n hL (x := c) dX5_init_35 rfl ?_
  refine r_iconst hL dX5_init_36 ?_
  refine r_puti hL xcl5 4 (j' := 4) rfl (by show _ < _; omega) hsh.1 (by decide) fl_X5_25 rfl rfl (by omega) dX5_init_37 (fun ν5 hm_ν5 => ?_)
  have hB_ν5 : BZ ν5 := by rw [hm_ν5]; exact hB.up (by rw [(st_bk c h_c).1]; show ((4 : Int) = 4 → 0 ≤ 0 ∧ 0 ≤ 8) ∧ ((4 : Int) = 5 → 0 ≤ 0 ∧ 0 ≤ 2); omega) (fun _ => rfl)
  have hu_ν5 : ∀ k j, k < c → ν5 k j = μ k j := fun k j hk => by rw [hm_ν5]; exact (congrFun (xup_c (by omega)) j).trans (hu k j hk)
  have hz_ν5 : ∀ k j, c + 5 ≤ k → ν5 k j = 0 := fun k j hk => by rw [hm_ν5]; exact (congrFun (xup_c (by omega)) j).trans (hz k j (by omega))
  refine r_aload_n hL (x := c) dX5_init_40 rfl ?_
  refine r_iconst hL dX5_init_41 ?_
  refine r_puti hL xcl5 5 (j' := 5) rfl (by show _ < _; omega) hsh.1 (by decide) fl_X5_29 rfl rfl (by omega) dX5_init_42 (fun ν6 hm_ν6 => ?_)
  have hB_ν6 : BZ ν6 := by rw [hm_ν6]; exact hB_ν5.up (by rw [(st_bk c h_c).1]; show ((5 : Int) = 4 → 0 ≤ 0 ∧ 0 ≤ 8) ∧ ((5 : Int) = 5 → 0 ≤ 0 ∧ 0 ≤ 2); omega) (fun _ => rfl)
  have hu_ν6 : ∀ k j, k < c → ν6 k j = μ k j := fun k j hk => by rw [hm_ν6]; exact (congrFun (xup_c (by omega)) j).trans (hu_ν5 k j hk)
  have hz_ν6 : ∀ k j, c + 5 ≤ k → ν6 k j = 0 := fun k j hk => by rw [hm_ν6]; exact (congrFun (xup_c (by omega)) j).trans (hz_ν5 k j (by omega))
  refine r_aload_n hL (x := c) dX5_init_45 rfl ?_
  refine r_getr hL xcl5 2 (q := (c + 3)) (by show _ < _; omega) hsh.1 (by decide) fl_X5_19 (by decide) (by show rf4 c 2 = _; rw [hrf4, hrf3, hrf2, hrf1]; simp [xup]) dX5_init_46 ?_
  refine r_iconst hL dX5_init_49 ?_
  refine r_iconst hL dX5_init_50 ?_
  refine r_iast hL dX5_init_51 (by show _ < _; omega) hsh.2.2.2.1 (by decide) (by omega) (by omega) (by omega) (fun ν7 hm_ν7 => ?_)
  have hB_ν7 : BZ ν7 := by rw [hm_ν7]; exact hB_ν6.up (by rw [(st_bk c h_c).2.2.2.1]; show 0 ≤ 2 ∧ 2 ≤ 9; omega) (fun h => by unfold zs at h; omega)
  have hu_ν7 : ∀ k j, k < c → ν7 k j = μ k j := fun k j hk => by rw [hm_ν7]; exact (congrFun (xup_c (by omega)) j).trans (hu_ν6 k j hk)
  have hz_ν7 : ∀ k j, c + 5 ≤ k → ν7 k j = 0 := fun k j hk => by rw [hm_ν7]; exact (congrFun (xup_c (by omega)) j).trans (hz_ν6 k j (by omega))
  refine r_aload_n hL (x := c) dX5_init_52 rfl ?_
  refine r_getr hL xcl5 2 (q := (c + 3)) (by show _ < _; omega) hsh.1 (by decide) fl_X5_19 (by decide) (by show rf4 c 2 = _; rw [hrf4, hrf3, hrf2, hrf1]; simp [xup]) dX5_init_53 ?_
  refine r_iconst hL dX5_init_56 ?_
  refine r_iconst hL dX5_init_57 ?_
  refine r_iast hL dX5_init_58 (by show _ < _; omega) hsh.2.2.2.1 (by decide) (by omega) (by omega) (by omega) (fun ν8 hm_ν8 => ?_)
  have hB_ν8 : BZ ν8 := by rw [hm_ν8]; exact hB_ν7.up (by rw [(st_bk c h_c).2.2.2.1]; show 0 ≤ 2 ∧ 2 ≤ 9; omega) (fun h => by unfold zs at h; omega)
  have hu_ν8 : ∀ k j, k < c → ν8 k j = μ k j := fun k j hk => by rw [hm_ν8]; exact (congrFun (xup_c (by omega)) j).trans (hu_ν7 k j hk)
  have hz_ν8 : ∀ k j, c + 5 ≤ k → ν8 k j = 0 := fun k j hk => by rw [hm_ν8]; exact (congrFun (xup_c (by omega)) j).trans (hz_ν7 k j (by omega))
  refine r_aload_n hL (x := c) dX5_init_59 rfl ?_
  refine r_getr hL xcl5 2 (q := (c + 3)) (by show _ < _; omega) hsh.1 (by decide) fl_X5_19 (by decide) (by show rf4 c 2 = _; rw [hrf4, hrf3, hrf2, hrf1]; simp [xup]) dX5_init_60 ?_
  refine r_iconst hL dX5_init_63 ?_
  refine r_iconst hL dX5_init_64 ?_
  refine r_iast hL dX5_init_65 (by show _ < _; omega) hsh.2.2.2.1 (by decide) (by omega) (by omega) (by omega) (fun ν9 hm_ν9 => ?_)
  have hB_ν9 : BZ ν9 := by rw [hm_ν9]; exact hB_ν8.up (by rw [(st_bk c h_c).2.2.2.1]; show 0 ≤ 1 ∧ 1 ≤ 9; omega) (fun h => by unfold zs at h; omega)
  have hu_ν9 : ∀ k j, k < c → ν9 k j = μ k j := fun k j hk => by rw [hm_ν9]; exact (congrFun (xup_c (by omega)) j).trans (hu_ν8 k j hk)
  have hz_ν9 : ∀ k j, c + 5 ≤ k → ν9 k j = 0 := fun k j hk => by rw [hm_ν9]; exact (congrFun (xup_c (by omega)) j).trans (hz_ν8 k j (by omega))
  refine r_aload_n hL (x := c) dX5_init_66 rfl ?_
  refine r_getr hL xcl5 2 (q := (c + 3)) (by show _ < _; omega) hsh.1 (by decide) fl_X5_19 (by decide) (by show rf4 c 2 = _; rw [hrf4, hrf3, hrf2, hrf1]; simp [xup]) dX5_init_67 ?_
  refine r_iconst hL dX5_init_70 ?_
  refine r_iconst hL dX5_init_71 ?_
  refine r_iast hL dX5_init_72 (by show _ < _; omega) hsh.2.2.2.1 (by decide) (by omega) (by omega) (by omega) (fun ν10 hm_ν10 => ?_)
  have hB_ν10 : BZ ν10 := by rw [hm_ν10]; exact hB_ν9.up (by rw [(st_bk c h_c).2.2.2.1]; show 0 ≤ 3 ∧ 3 ≤ 9; omega) (fun h => by unfold zs at h; omega)
  have hu_ν10 : ∀ k j, k < c → ν10 k j = μ k j := fun k j hk => by rw [hm_ν10]; exact (congrFun (xup_c (by omega)) j).trans (hu_ν9 k j hk)
  have hz_ν10 : ∀ k j, c + 5 ≤ k → ν10 k j = 0 := fun k j hk => by rw [hm_ν10]; exact (congrFun (xup_c (by omega)) j).trans (hz_ν9 k j (by omega))
  refine r_vret hL dX5_init_73 rfl (hK _ _ ⟨rf4, rfl, fun k j hk => ?_, fun k j h0 h1 => ?_, fun k j hk => hg4 k j (by omega), fun k j hk => hz_ν10 k j (by omega), hB_ν10, hu_ν10, (fun h => by have q : ν10 (c + 3) 0 = 2 ∧ ν10 (c + 3) 1 = 2 ∧ ν10 (c + 3) 2 = 1 ∧ ν10 (c + 3) 3 = 3 := (by rw [hm_ν10, hm_ν9, hm_ν8, hm_ν7, hm_ν6, hm_ν5]; simp [xup]); rw [show c + 3 = 4 by omega] at q; exact q), (fun h => by omega)⟩)
  · rw [hrf4, hrf3, hrf2, hrf1]
    simp [xup, show k ≠ c by omega]
  · by_cases e : k = c
    · rw [e]
      rw [hrf4, hrf3, hrf2, hrf1]
      rw [((st_rl c h_c j).1)]
      by_cases hj : 0 ≤ j ∧ j < 4
      · rcases (show j = 0 ∨ j = 1 ∨ j = 2 ∨ j = 3 by omega) with h | h | h | h <;> subst h <;> simp [xup, xgl, hf]
      · rw [xgl_out (by simp only [List.length_cons, List.length_nil]; omega)]
        simp [xup, show j ≠ 0 by omega, show j ≠ 1 by omega, show j ≠ 2 by omega, show j ≠ 3 by omega, hf]
    · rw [hrf4, hrf3, hrf2, hrf1]
      simp only [xup, e, false_and, if_false]
      rw [hf k j h0]
      rcases (show k = c + 1 ∨ k = c + 2 ∨ k = c + 3 ∨ k = c + 4 by omega) with h | h | h | h <;> subst h
      · exact (xRF_none (fun j => (st_rl c h_c j).2.1) j).symm
      · exact (xRF_none (fun j => (st_rl c h_c j).2.2.1) j).symm
      · exact (xRF_none (fun j => (st_rl c h_c j).2.2.2.1) j).symm
      · exact (xRF_none (fun j => (st_rl c h_c j).2.2.2.2) j).symm

set_option maxHeartbeats 4000000 in
set_option maxRecDepth 20000 in
theorem m_X0_init {K : Option xV → xW → xM → Prop} {μ : xM} (rf : Nat → Int → Int) (hC : CP 88 rf μ) (hK : ∀ w' μ', CK 88 92 rf μ w' μ' → K none w' μ') : xMet yX0_init cX0_init 1 none 1 26 3 60 [xR 88] (89, xSH, rf) μ K := by
  obtain ⟨hf, hz, hB⟩ := hC
  refine xMet.go RX0 "<init>" rfl rfl (by decide) [some (xR 88)] (Nat.le_of_ble_eq_true rfl) rfl (fun X hL => ?_)
  have hu : ∀ k j, k < 88 → μ k j = μ k j := fun _ _ _ => rfl
  refine r_aload_n hL (x := 88) dX0_init_0 rfl ?_
  refine r_objInit hL dX0_init_1 ml_X0_3 im_Lib_objectInit kd_Lib_objectInit ⟨Nat.le_of_ble_eq_true rfl, Nat.le_of_ble_eq_true rfl⟩ ?_
  refine r_aload_n hL (x := 88) dX0_init_4 rfl ?_
  refine r_bipush hL dX0_init_5 (by decide) ?_
  refine r_newa hL 1 (nn := 20) dX0_init_7 (Or.inl ⟨rfl, rfl⟩) ac_Jvm_ClassFile_FieldType_int rfl (by decide) s_89 (fun j => hf (89) j (by omega)) (fun j => hz (89) j (by omega)) (show 88 < 89 ∧ True from ⟨by omega, trivial⟩) (show 88 < 89 ∧ True from ⟨by omega, trivial⟩) ⟨Nat.le_of_ble_eq_true rfl, Nat.le_of_ble_eq_true rfl⟩ ?_
  show X (1) (20) (90, xSH, rf) μ 9 [some (xR 88)] [xR 89, xR 88]
  refine r_putr hL xcl0 0 (j' := 0) rfl (by show _ < _; omega) s_88 (by decide) fw_X0_9 rfl rfl (by decide) (fun a => ⟨rfl, rfl⟩) (by show _ < _; omega) dX0_init_9 ?_
  obtain ⟨rf1, hrf1⟩ : ∃ r, r = xup rf 88 0 (89 : Int) := ⟨_, rfl⟩
  show X (1) (20) (90, xSH, (xup rf 88 0 (89 : Int))) μ 12 [some (xR 88)] []
  rw [← hrf1]
  have hg1 : ∀ k j, 90 ≤ k → rf1 k j = -1 := fun k j hk => by rw [hrf1]; exact (congrFun (xup_c (by omega)) j).trans (hf k j (by omega))
  refine r_aload_n hL (x := 88) dX0_init_12 rfl ?_
  refine r_bipush hL dX0_init_13 (by decide) ?_
  refine r_newa hL 1 (nn := 20) dX0_init_15 (Or.inl ⟨rfl, rfl⟩) ac_Jvm_ClassFile_FieldType_int rfl (by decide) s_90 (fun j => hg1 (90) j (by omega)) (fun j => hz (90) j (by omega)) (show 88 < 90 ∧ True from ⟨by omega, trivial⟩) (show 88 < 90 ∧ True from ⟨by omega, trivial⟩) ⟨Nat.le_of_ble_eq_true rfl, Nat.le_of_ble_eq_true rfl⟩ ?_
  show X (2) (40) (91, xSH, rf1) μ 17 [some (xR 88)] [xR 90, xR 88]
  refine r_putr hL xcl0 1 (j' := 1) rfl (by show _ < _; omega) s_88 (by decide) fw_X0_15 rfl rfl (by decide) (fun a => ⟨rfl, rfl⟩) (by show _ < _; omega) dX0_init_17 ?_
  obtain ⟨rf2, hrf2⟩ : ∃ r, r = xup rf1 88 1 (90 : Int) := ⟨_, rfl⟩
  show X (2) (40) (91, xSH, (xup rf1 88 1 (90 : Int))) μ 20 [some (xR 88)] []
  rw [← hrf2]
  have hg2 : ∀ k j, 91 ≤ k → rf2 k j = -1 := fun k j hk => by rw [hrf2]; exact (congrFun (xup_c (by omega)) j).trans (hg1 k j (by omega))
  refine r_aload_n hL (x := 88) dX0_init_20 rfl ?_
  refine r_bipush hL dX0_init_21 (by decide) ?_
  refine r_newa hL 1 (nn := 20) dX0_init_23 (Or.inl ⟨rfl, rfl⟩) ac_Jvm_ClassFile_FieldType_int rfl (by decide) s_91 (fun j => hg2 (91) j (by omega)) (fun j => hz (91) j (by omega)) (show 88 < 91 ∧ True from ⟨by omega, trivial⟩) (show 88 < 91 ∧ True from ⟨by omega, trivial⟩) ⟨Nat.le_of_ble_eq_true rfl, Nat.le_of_ble_eq_true rfl⟩ ?_
  show X (3) (60) (92, xSH, rf2) μ 25 [some (xR 88)] [xR 91, xR 88]
  refine r_putr hL xcl0 2 (j' := 2) rfl (by show _ < _; omega) s_88 (by decide) fw_X0_18 rfl rfl (by decide) (fun a => ⟨rfl, rfl⟩) (by show _ < _; omega) dX0_init_25 ?_
  obtain ⟨rf3, hrf3⟩ : ∃ r, r = xup rf2 88 2 (91 : Int) := ⟨_, rfl⟩
  show X (3) (60) (92, xSH, (xup rf2 88 2 (91 : Int))) μ 28 [some (xR 88)] []
  rw [← hrf3]
  have hg3 : ∀ k j, 92 ≤ k → rf3 k j = -1 := fun k j hk => by rw [hrf3]; exact (congrFun (xup_c (by omega)) j).trans (hg2 k j (by omega))
  refine r_aload_n hL (x := 88) dX0_init_28 rfl ?_
  refine r_iconst hL dX0_init_29 ?_
  refine r_puti hL xcl0 3 (j' := 3) rfl (by show _ < _; omega) s_88 (by decide) fl_X0_21 rfl rfl (by omega) dX0_init_30 (fun ν4 hm_ν4 => ?_)
  have hB_ν4 : BZ ν4 := by rw [hm_ν4]; exact hB.up (by show (3 : Int) = 3 → 0 ≤ 0 ∧ 0 ≤ 20; omega) (fun _ => rfl)
  have hu_ν4 : ∀ k j, k < 88 → ν4 k j = μ k j := fun k j hk => by rw [hm_ν4]; exact (congrFun (xup_c (by omega)) j).trans (hu k j hk)
  have hz_ν4 : ∀ k j, 92 ≤ k → ν4 k j = 0 := fun k j hk => by rw [hm_ν4]; exact (congrFun (xup_c (by omega)) j).trans (hz k j (by omega))
  refine r_vret hL dX0_init_33 rfl (hK _ _ ⟨rf3, rfl, fun k j hk => ?_, fun k j h0 h1 => ?_, fun k j hk => hg3 k j (by omega), fun k j hk => hz_ν4 k j (by omega), hB_ν4, hu_ν4, (fun h => by omega), (fun h => by omega)⟩)
  · rw [hrf3, hrf2, hrf1]
    simp [xup, show k ≠ 88 by omega]
  · by_cases e : k = 88
    · subst e
      rw [hrf3, hrf2, hrf1]
      rw [(show xRF 88 j = xgl [(89 : Int), (90 : Int), (91 : Int)] j from rfl)]
      by_cases hj : 0 ≤ j ∧ j < 3
      · rcases (show j = 0 ∨ j = 1 ∨ j = 2 by omega) with h | h | h <;> subst h <;> simp [xup, xgl, hf]
      · rw [xgl_out (by simp only [List.length_cons, List.length_nil]; omega)]
        simp [xup, show j ≠ 0 by omega, show j ≠ 1 by omega, show j ≠ 2 by omega, hf]
    · rw [hrf3, hrf2, hrf1]
      simp only [xup, e, false_and, if_false]
      rw [hf k j h0]
      rcases (show k = 89 ∨ k = 90 ∨ k = 91 by omega) with h | h | h <;> subst h
      · exact (xRF_none (fun _ => rfl) j).symm
      · exact (xRF_none (fun _ => rfl) j).symm
      · exact (xRF_none (fun _ => rfl) j).symm

set_option maxHeartbeats 4000000 in
set_option maxRecDepth 20000 in
theorem m_X4_init {K : Option xV → xW → xM → Prop} {μ : xM} (rf : Nat → Int → Int) (hC : CP 92 rf μ) (hK : ∀ w' μ', CK 92 100 rf μ w' μ' → K none w' μ') : xMet yX4_init cX4_init 1 none 1 26 7 407 [xR 92] (93, xSH, rf) μ K := by
  obtain ⟨hf, hz, hB⟩ := hC
  refine xMet.go RX4 "<init>" rfl rfl (by decide) [some (xR 92)] (Nat.le_of_ble_eq_true rfl) rfl (fun X hL => ?_)
  have hu : ∀ k j, k < 92 → μ k j = μ k j := fun _ _ _ => rfl
  refine r_aload_n hL (x := 92) dX4_init_0 rfl ?_
  refine r_objInit hL dX4_init_1 ml_X4_3 im_Lib_objectInit kd_Lib_objectInit ⟨Nat.le_of_ble_eq_true rfl, Nat.le_of_ble_eq_true rfl⟩ ?_
  refine r_aload_n hL (x := 92) dX4_init_4 rfl ?_
  refine r_bipush hL dX4_init_5 (by decide) ?_
  refine r_newa hL 1 (nn := 10) dX4_init_7 (Or.inl ⟨rfl, rfl⟩) ac_Jvm_ClassFile_FieldType_int rfl (by decide) s_93 (fun j => hf (93) j (by omega)) (fun j => hz (93) j (by omega)) (show 92 < 93 ∧ True from ⟨by omega, trivial⟩) (show 92 < 93 ∧ True from ⟨by omega, trivial⟩) ⟨Nat.le_of_ble_eq_true rfl, Nat.le_of_ble_eq_true rfl⟩ ?_
  show X (1) (10) (94, xSH, rf) μ 9 [some (xR 92)] [xR 93, xR 92]
  refine r_putr hL xcl4 0 (j' := 0) rfl (by show _ < _; omega) s_92 (by decide) fw_X4_9 rfl rfl (by decide) (fun a => ⟨rfl, rfl⟩) (by show _ < _; omega) dX4_init_9 ?_
  obtain ⟨rf1, hrf1⟩ : ∃ r, r = xup rf 92 0 (93 : Int) := ⟨_, rfl⟩
  show X (1) (10) (94, xSH, (xup rf 92 0 (93 : Int))) μ 12 [some (xR 92)] []
  rw [← hrf1]
  have hg1 : ∀ k j, 94 ≤ k → rf1 k j = -1 := fun k j hk => by rw [hrf1]; exact (congrFun (xup_c (by omega)) j).trans (hf k j (by omega))
  refine r_aload_n hL (x := 92) dX4_init_12 rfl ?_
  refine r_bipush hL dX4_init_13 (by decide) ?_
  refine r_newa hL 1 (nn := 10) dX4_init_15 (Or.inl ⟨rfl, rfl⟩) ac_Jvm_ClassFile_FieldType_int rfl (by decide) s_94 (fun j => hg1 (94) j (by omega)) (fun j => hz (94) j (by omega)) (show 92 < 94 ∧ True from ⟨by omega, trivial⟩) (show 92 < 94 ∧ True from ⟨by omega, trivial⟩) ⟨Nat.le_of_ble_eq_true rfl, Nat.le_of_ble_eq_true rfl⟩ ?_
  show X (2) (20) (95, xSH, rf1) μ 17 [some (xR 92)] [xR 94, xR 92]
  refine r_putr hL xcl4 1 (j' := 1) rfl (by show _ < _; omega) s_92 (by decide) fw_X4_15 rfl rfl (by decide) (fun a => ⟨rfl, rfl⟩) (by show _ < _; omega) dX4_init_17 ?_
  obtain ⟨rf2, hrf2⟩ : ∃ r, r = xup rf1 92 1 (94 : Int) := ⟨_, rfl⟩
  show X (2) (20) (95, xSH, (xup rf1 92 1 (94 : Int))) μ 20 [some (xR 92)] []
  rw [← hrf2]
  have hg2 : ∀ k j, 95 ≤ k → rf2 k j = -1 := fun k j hk => by rw [hrf2]; exact (congrFun (xup_c (by omega)) j).trans (hg1 k j (by omega))
  refine r_aload_n hL (x := 92) dX4_init_20 rfl ?_
  refine r_iconst hL dX4_init_21 ?_
  refine r_newa hL 1 (nn := 4) dX4_init_22 (Or.inl ⟨rfl, rfl⟩) ac_Jvm_ClassFile_FieldType_int rfl (by decide) s_95 (fun j => hg2 (95) j (by omega)) (fun j => hz (95) j (by omega)) (show 92 < 95 ∧ True from ⟨by omega, trivial⟩) (show 92 < 95 ∧ True from ⟨by omega, trivial⟩) ⟨Nat.le_of_ble_eq_true rfl, Nat.le_of_ble_eq_true rfl⟩ ?_
  show X (3) (24) (96, xSH, rf2) μ 24 [some (xR 92)] [xR 95, xR 92]
  refine r_putr hL xcl4 2 (j' := 2) rfl (by show _ < _; omega) s_92 (by decide) fw_X4_18 rfl rfl (by decide) (fun a => ⟨rfl, rfl⟩) (by show _ < _; omega) dX4_init_24 ?_
  obtain ⟨rf3, hrf3⟩ : ∃ r, r = xup rf2 92 2 (95 : Int) := ⟨_, rfl⟩
  show X (3) (24) (96, xSH, (xup rf2 92 2 (95 : Int))) μ 27 [some (xR 92)] []
  rw [← hrf3]
  have hg3 : ∀ k j, 96 ≤ k → rf3 k j = -1 := fun k j hk => by rw [hrf3]; exact (congrFun (xup_c (by omega)) j).trans (hg2 k j (by omega))
  refine r_aload_n hL (x := 92) dX4_init_27 rfl ?_
  refine r_bipush hL dX4_init_28 (by decide) ?_
  refine r_newa hL 1 (nn := 121) dX4_init_30 (Or.inl ⟨rfl, rfl⟩) ac_Jvm_ClassFile_FieldType_int rfl (by decide) s_96 (fun j => hg3 (96) j (by omega)) (fun j => hz (96) j (by omega)) (show 92 < 96 ∧ True from ⟨by omega, trivial⟩) (show 92 < 96 ∧ True from ⟨by omega, trivial⟩) ⟨Nat.le_of_ble_eq_true rfl, Nat.le_of_ble_eq_true rfl⟩ ?_
  show X (4) (145) (97, xSH, rf3) μ 32 [some (xR 92)] [xR 96, xR 92]
  refine r_putr hL xcl4 3 (j' := 3) rfl (by show _ < _; omega) s_92 (by decide) fw_X4_21 rfl rfl (by decide) (fun a => ⟨rfl, rfl⟩) (by show _ < _; omega) dX4_init_32 ?_
  obtain ⟨rf4, hrf4⟩ : ∃ r, r = xup rf3 92 3 (96 : Int) := ⟨_, rfl⟩
  show X (4) (145) (97, xSH, (xup rf3 92 3 (96 : Int))) μ 35 [some (xR 92)] []
  rw [← hrf4]
  have hg4 : ∀ k j, 97 ≤ k → rf4 k j = -1 := fun k j hk => by rw [hrf4]; exact (congrFun (xup_c (by omega)) j).trans (hg3 k j (by omega))
  refine r_aload_n hL (x := 92) dX4_init_35 rfl ?_
  refine r_bipush hL dX4_init_36 (by decide) ?_
  refine r_newa hL 1 (nn := 121) dX4_init_38 (Or.inl ⟨rfl, rfl⟩) ac_Jvm_ClassFile_FieldType_int rfl (by decide) s_97 (fun j => hg4 (97) j (by omega)) (fun j => hz (97) j (by omega)) (show 92 < 97 ∧ True from ⟨by omega, trivial⟩) (show 92 < 97 ∧ True from ⟨by omega, trivial⟩) ⟨Nat.le_of_ble_eq_true rfl, Nat.le_of_ble_eq_true rfl⟩ ?_
  show X (5) (266) (98, xSH, rf4) μ 40 [some (xR 92)] [xR 97, xR 92]
  refine r_putr hL xcl4 4 (j' := 4) rfl (by show _ < _; omega) s_92 (by decide) fw_X4_24 rfl rfl (by decide) (fun a => ⟨rfl, rfl⟩) (by show _ < _; omega) dX4_init_40 ?_
  obtain ⟨rf5, hrf5⟩ : ∃ r, r = xup rf4 92 4 (97 : Int) := ⟨_, rfl⟩
  show X (5) (266) (98, xSH, (xup rf4 92 4 (97 : Int))) μ 43 [some (xR 92)] []
  rw [← hrf5]
  have hg5 : ∀ k j, 98 ≤ k → rf5 k j = -1 := fun k j hk => by rw [hrf5]; exact (congrFun (xup_c (by omega)) j).trans (hg4 k j (by omega))
  refine r_aload_n hL (x := 92) dX4_init_43 rfl ?_
  refine r_bipush hL dX4_init_44 (by decide) ?_
  refine r_newa hL 1 (nn := 121) dX4_init_46 (Or.inl ⟨rfl, rfl⟩) ac_Jvm_ClassFile_FieldType_int rfl (by decide) s_98 (fun j => hg5 (98) j (by omega)) (fun j => hz (98) j (by omega)) (show 92 < 98 ∧ True from ⟨by omega, trivial⟩) (show 92 < 98 ∧ True from ⟨by omega, trivial⟩) ⟨Nat.le_of_ble_eq_true rfl, Nat.le_of_ble_eq_true rfl⟩ ?_
  show X (6) (387) (99, xSH, rf5) μ 48 [some (xR 92)] [xR 98, xR 92]
  refine r_putr hL xcl4 5 (j' := 5) rfl (by show _ < _; omega) s_92 (by decide) fw_X4_27 rfl rfl (by decide) (fun a => ⟨rfl, rfl⟩) (by show _ < _; omega) dX4_init_48 ?_
  obtain ⟨rf6, hrf6⟩ : ∃ r, r = xup rf5 92 5 (98 : Int) := ⟨_, rfl⟩
  show X (6) (387) (99, xSH, (xup rf5 92 5 (98 : Int))) μ 51 [some (xR 92)] []
  rw [← hrf6]
  have hg6 : ∀ k j, 99 ≤ k → rf6 k j = -1 := fun k j hk => by rw [hrf6]; exact (congrFun (xup_c (by omega)) j).trans (hg5 k j (by omega))
  refine r_aload_n hL (x := 92) dX4_init_51 rfl ?_
  refine r_bipush hL dX4_init_52 (by decide) ?_
  refine r_newa hL 1 (nn := 20) dX4_init_54 (Or.inl ⟨rfl, rfl⟩) ac_Jvm_ClassFile_FieldType_int rfl (by decide) s_99 (fun j => hg6 (99) j (by omega)) (fun j => hz (99) j (by omega)) (show 92 < 99 ∧ True from ⟨by omega, trivial⟩) (show 92 < 99 ∧ True from ⟨by omega, trivial⟩) ⟨Nat.le_of_ble_eq_true rfl, Nat.le_of_ble_eq_true rfl⟩ ?_
  show X (7) (407) (100, xSH, rf6) μ 56 [some (xR 92)] [xR 99, xR 92]
  refine r_putr hL xcl4 6 (j' := 6) rfl (by show _ < _; omega) s_92 (by decide) fw_X4_30 rfl rfl (by decide) (fun a => ⟨rfl, rfl⟩) (by show _ < _; omega) dX4_init_56 ?_
  obtain ⟨rf7, hrf7⟩ : ∃ r, r = xup rf6 92 6 (99 : Int) := ⟨_, rfl⟩
  show X (7) (407) (100, xSH, (xup rf6 92 6 (99 : Int))) μ 59 [some (xR 92)] []
  rw [← hrf7]
  have hg7 : ∀ k j, 100 ≤ k → rf7 k j = -1 := fun k j hk => by rw [hrf7]; exact (congrFun (xup_c (by omega)) j).trans (hg6 k j (by omega))
  refine r_aload_n hL (x := 92) dX4_init_59 rfl ?_
  refine r_iconst hL dX4_init_60 ?_
  refine r_puti hL xcl4 7 (j' := 7) rfl (by show _ < _; omega) s_92 (by decide) fl_X4_33 rfl rfl (by omega) dX4_init_61 (fun ν8 hm_ν8 => ?_)
  have hB_ν8 : BZ ν8 := by rw [hm_ν8]; exact hB.up (by show ((7 : Int) = 7 → 0 ≤ 0 ∧ 0 ≤ 10) ∧ ((7 : Int) = 8 → 0 ≤ 0 ∧ 0 ≤ 10); omega) (fun _ => rfl)
  have hu_ν8 : ∀ k j, k < 92 → ν8 k j = μ k j := fun k j hk => by rw [hm_ν8]; exact (congrFun (xup_c (by omega)) j).trans (hu k j hk)
  have hz_ν8 : ∀ k j, 100 ≤ k → ν8 k j = 0 := fun k j hk => by rw [hm_ν8]; exact (congrFun (xup_c (by omega)) j).trans (hz k j (by omega))
  refine r_aload_n hL (x := 92) dX4_init_64 rfl ?_
  refine r_iconst hL dX4_init_65 ?_
  refine r_puti hL xcl4 8 (j' := 8) rfl (by show _ < _; omega) s_92 (by decide) fl_X4_37 rfl rfl (by omega) dX4_init_66 (fun ν9 hm_ν9 => ?_)
  have hB_ν9 : BZ ν9 := by rw [hm_ν9]; exact hB_ν8.up (by show ((8 : Int) = 7 → 0 ≤ 0 ∧ 0 ≤ 10) ∧ ((8 : Int) = 8 → 0 ≤ 0 ∧ 0 ≤ 10); omega) (fun _ => rfl)
  have hu_ν9 : ∀ k j, k < 92 → ν9 k j = μ k j := fun k j hk => by rw [hm_ν9]; exact (congrFun (xup_c (by omega)) j).trans (hu_ν8 k j hk)
  have hz_ν9 : ∀ k j, 100 ≤ k → ν9 k j = 0 := fun k j hk => by rw [hm_ν9]; exact (congrFun (xup_c (by omega)) j).trans (hz_ν8 k j (by omega))
  refine r_vret hL dX4_init_69 rfl (hK _ _ ⟨rf7, rfl, fun k j hk => ?_, fun k j h0 h1 => ?_, fun k j hk => hg7 k j (by omega), fun k j hk => hz_ν9 k j (by omega), hB_ν9, hu_ν9, (fun h => by omega), (fun h => by omega)⟩)
  · rw [hrf7, hrf6, hrf5, hrf4, hrf3, hrf2, hrf1]
    simp [xup, show k ≠ 92 by omega]
  · by_cases e : k = 92
    · subst e
      rw [hrf7, hrf6, hrf5, hrf4, hrf3, hrf2, hrf1]
      rw [(show xRF 92 j = xgl [(93 : Int), (94 : Int), (95 : Int), (96 : Int), (97 : Int), (98 : Int), (99 : Int)] j from rfl)]
      by_cases hj : 0 ≤ j ∧ j < 7
      · rcases (show j = 0 ∨ j = 1 ∨ j = 2 ∨ j = 3 ∨ j = 4 ∨ j = 5 ∨ j = 6 by omega) with h | h | h | h | h | h | h <;> subst h <;> simp [xup, xgl, hf]
      · rw [xgl_out (by simp only [List.length_cons, List.length_nil]; omega)]
        simp [xup, show j ≠ 0 by omega, show j ≠ 1 by omega, show j ≠ 2 by omega, show j ≠ 3 by omega, show j ≠ 4 by omega, show j ≠ 5 by omega, show j ≠ 6 by omega, hf]
    · rw [hrf7, hrf6, hrf5, hrf4, hrf3, hrf2, hrf1]
      simp only [xup, e, false_and, if_false]
      rw [hf k j h0]
      rcases (show k = 93 ∨ k = 94 ∨ k = 95 ∨ k = 96 ∨ k = 97 ∨ k = 98 ∨ k = 99 by omega) with h | h | h | h | h | h | h <;> subst h
      · exact (xRF_none (fun _ => rfl) j).symm
      · exact (xRF_none (fun _ => rfl) j).symm
      · exact (xRF_none (fun _ => rfl) j).symm
      · exact (xRF_none (fun _ => rfl) j).symm
      · exact (xRF_none (fun _ => rfl) j).symm
      · exact (xRF_none (fun _ => rfl) j).symm
      · exact (xRF_none (fun _ => rfl) j).symm

set_option maxHeartbeats 4000000 in
set_option maxRecDepth 20000 in
theorem m_X2_init {K : Option xV → xW → xM → Prop} {μ : xM} (rf : Nat → Int → Int) (hC : CP 100 rf μ) (hK : ∀ w' μ', CK 100 102 rf μ w' μ' → K none w' μ') : xMet yX2_init cX2_init 1 none 1 26 1 64 [xR 100] (101, xSH, rf) μ K := by
  obtain ⟨hf, hz, hB⟩ := hC
  refine xMet.go RX2 "<init>" rfl rfl (by decide) [some (xR 100)] (Nat.le_of_ble_eq_true rfl) rfl (fun X hL => ?_)
  have hu : ∀ k j, k < 100 → μ k j = μ k j := fun _ _ _ => rfl
  refine r_aload_n hL (x := 100) dX2_init_0 rfl ?_
  refine r_objInit hL dX2_init_1 ml_X2_3 im_Lib_objectInit kd_Lib_objectInit ⟨Nat.le_of_ble_eq_true rfl, Nat.le_of_ble_eq_true rfl⟩ ?_
  refine r_aload_n hL (x := 100) dX2_init_4 rfl ?_
  refine r_bipush hL dX2_init_5 (by decide) ?_
  refine r_newa hL 1 (nn := 64) dX2_init_7 (Or.inl ⟨rfl, rfl⟩) ac_Jvm_ClassFile_FieldType_int rfl (by decide) s_101 (fun j => hf (101) j (by omega)) (fun j => hz (101) j (by omega)) (show 100 < 101 ∧ True from ⟨by omega, trivial⟩) (show 100 < 101 ∧ True from ⟨by omega, trivial⟩) ⟨Nat.le_of_ble_eq_true rfl, Nat.le_of_ble_eq_true rfl⟩ ?_
  show X (1) (64) (102, xSH, rf) μ 9 [some (xR 100)] [xR 101, xR 100]
  refine r_putr hL xcl2 0 (j' := 0) rfl (by show _ < _; omega) s_100 (by decide) fw_X2_9 rfl rfl (by decide) (fun a => ⟨rfl, rfl⟩) (by show _ < _; omega) dX2_init_9 ?_
  obtain ⟨rf1, hrf1⟩ : ∃ r, r = xup rf 100 0 (101 : Int) := ⟨_, rfl⟩
  show X (1) (64) (102, xSH, (xup rf 100 0 (101 : Int))) μ 12 [some (xR 100)] []
  rw [← hrf1]
  have hg1 : ∀ k j, 102 ≤ k → rf1 k j = -1 := fun k j hk => by rw [hrf1]; exact (congrFun (xup_c (by omega)) j).trans (hf k j (by omega))
  refine r_vret hL dX2_init_12 rfl (hK _ _ ⟨rf1, rfl, fun k j hk => ?_, fun k j h0 h1 => ?_, fun k j hk => hg1 k j (by omega), fun k j hk => hz k j (by omega), hB, hu, (fun h => by omega), (fun h => by omega)⟩)
  · rw [hrf1]
    simp [xup, show k ≠ 100 by omega]
  · by_cases e : k = 100
    · subst e
      rw [hrf1]
      rw [(show xRF 100 j = xgl [(101 : Int)] j from rfl)]
      by_cases hj : 0 ≤ j ∧ j < 1
      · rcases (show j = 0 by omega) with h <;> subst h <;> simp [xup, xgl, hf]
      · rw [xgl_out (by simp only [List.length_cons, List.length_nil]; omega)]
        simp [xup, show j ≠ 0 by omega, hf]
    · rw [hrf1]
      simp only [xup, e, false_and, if_false]
      rw [hf k j h0]
      rcases (show k = 101 by omega) with h <;> subst h
      · exact (xRF_none (fun _ => rfl) j).symm

set_option maxHeartbeats 4000000 in
set_option maxRecDepth 20000 in
theorem m_X6_init {K : Option xV → xW → xM → Prop} {μ : xM} (rf : Nat → Int → Int) (hC : CP 102 rf μ) (hK : ∀ w' μ', CK 102 107 rf μ w' μ' → K none w' μ') : xMet yX6_init cX6_init 1 none 1 26 4 32 [xR 102] (103, xSH, rf) μ K := by
  obtain ⟨hf, hz, hB⟩ := hC
  refine xMet.go RX6 "<init>" rfl rfl (by decide) [some (xR 102)] (Nat.le_of_ble_eq_true rfl) rfl (fun X hL => ?_)
  have hu : ∀ k j, k < 102 → μ k j = μ k j := fun _ _ _ => rfl
  refine r_aload_n hL (x := 102) dX6_init_0 rfl ?_
  refine r_objInit hL dX6_init_1 ml_X6_3 im_Lib_objectInit kd_Lib_objectInit ⟨Nat.le_of_ble_eq_true rfl, Nat.le_of_ble_eq_true rfl⟩ ?_
  refine r_aload_n hL (x := 102) dX6_init_4 rfl ?_
  refine r_bipush hL dX6_init_5 (by decide) ?_
  refine r_newa hL 1 (nn := 8) dX6_init_7 (Or.inl ⟨rfl, rfl⟩) ac_Jvm_ClassFile_FieldType_int rfl (by decide) s_103 (fun j => hf (103) j (by omega)) (fun j => hz (103) j (by omega)) (show 102 < 103 ∧ True from ⟨by omega, trivial⟩) (show 102 < 103 ∧ True from ⟨by omega, trivial⟩) ⟨Nat.le_of_ble_eq_true rfl, Nat.le_of_ble_eq_true rfl⟩ ?_
  show X (1) (8) (104, xSH, rf) μ 9 [some (xR 102)] [xR 103, xR 102]
  refine r_putr hL xcl6 0 (j' := 0) rfl (by show _ < _; omega) s_102 (by decide) fw_X6_9 rfl rfl (by decide) (fun a => ⟨rfl, rfl⟩) (by show _ < _; omega) dX6_init_9 ?_
  obtain ⟨rf1, hrf1⟩ : ∃ r, r = xup rf 102 0 (103 : Int) := ⟨_, rfl⟩
  show X (1) (8) (104, xSH, (xup rf 102 0 (103 : Int))) μ 12 [some (xR 102)] []
  rw [← hrf1]
  have hg1 : ∀ k j, 104 ≤ k → rf1 k j = -1 := fun k j hk => by rw [hrf1]; exact (congrFun (xup_c (by omega)) j).trans (hf k j (by omega))
  refine r_aload_n hL (x := 102) dX6_init_12 rfl ?_
  refine r_bipush hL dX6_init_13 (by decide) ?_
  refine r_newa hL 1 (nn := 8) dX6_init_15 (Or.inl ⟨rfl, rfl⟩) ac_Jvm_ClassFile_FieldType_int rfl (by decide) s_104 (fun j => hg1 (104) j (by omega)) (fun j => hz (104) j (by omega)) (show 102 < 104 ∧ True from ⟨by omega, trivial⟩) (show 102 < 104 ∧ True from ⟨by omega, trivial⟩) ⟨Nat.le_of_ble_eq_true rfl, Nat.le_of_ble_eq_true rfl⟩ ?_
  show X (2) (16) (105, xSH, rf1) μ 17 [some (xR 102)] [xR 104, xR 102]
  refine r_putr hL xcl6 1 (j' := 1) rfl (by show _ < _; omega) s_102 (by decide) fw_X6_15 rfl rfl (by decide) (fun a => ⟨rfl, rfl⟩) (by show _ < _; omega) dX6_init_17 ?_
  obtain ⟨rf2, hrf2⟩ : ∃ r, r = xup rf1 102 1 (104 : Int) := ⟨_, rfl⟩
  show X (2) (16) (105, xSH, (xup rf1 102 1 (104 : Int))) μ 20 [some (xR 102)] []
  rw [← hrf2]
  have hg2 : ∀ k j, 105 ≤ k → rf2 k j = -1 := fun k j hk => by rw [hrf2]; exact (congrFun (xup_c (by omega)) j).trans (hg1 k j (by omega))
  refine r_aload_n hL (x := 102) dX6_init_20 rfl ?_
  refine r_bipush hL dX6_init_21 (by decide) ?_
  refine r_newa hL 1 (nn := 8) dX6_init_23 (Or.inl ⟨rfl, rfl⟩) ac_Jvm_ClassFile_FieldType_int rfl (by decide) s_105 (fun j => hg2 (105) j (by omega)) (fun j => hz (105) j (by omega)) (show 102 < 105 ∧ True from ⟨by omega, trivial⟩) (show 102 < 105 ∧ True from ⟨by omega, trivial⟩) ⟨Nat.le_of_ble_eq_true rfl, Nat.le_of_ble_eq_true rfl⟩ ?_
  show X (3) (24) (106, xSH, rf2) μ 25 [some (xR 102)] [xR 105, xR 102]
  refine r_putr hL xcl6 2 (j' := 2) rfl (by show _ < _; omega) s_102 (by decide) fw_X6_18 rfl rfl (by decide) (fun a => ⟨rfl, rfl⟩) (by show _ < _; omega) dX6_init_25 ?_
  obtain ⟨rf3, hrf3⟩ : ∃ r, r = xup rf2 102 2 (105 : Int) := ⟨_, rfl⟩
  show X (3) (24) (106, xSH, (xup rf2 102 2 (105 : Int))) μ 28 [some (xR 102)] []
  rw [← hrf3]
  have hg3 : ∀ k j, 106 ≤ k → rf3 k j = -1 := fun k j hk => by rw [hrf3]; exact (congrFun (xup_c (by omega)) j).trans (hg2 k j (by omega))
  refine r_aload_n hL (x := 102) dX6_init_28 rfl ?_
  refine r_bipush hL dX6_init_29 (by decide) ?_
  refine r_newa hL 1 (nn := 8) dX6_init_31 (Or.inl ⟨rfl, rfl⟩) ac_Jvm_ClassFile_FieldType_int rfl (by decide) s_106 (fun j => hg3 (106) j (by omega)) (fun j => hz (106) j (by omega)) (show 102 < 106 ∧ True from ⟨by omega, trivial⟩) (show 102 < 106 ∧ True from ⟨by omega, trivial⟩) ⟨Nat.le_of_ble_eq_true rfl, Nat.le_of_ble_eq_true rfl⟩ ?_
  show X (4) (32) (107, xSH, rf3) μ 33 [some (xR 102)] [xR 106, xR 102]
  refine r_putr hL xcl6 3 (j' := 3) rfl (by show _ < _; omega) s_102 (by decide) fw_X6_21 rfl rfl (by decide) (fun a => ⟨rfl, rfl⟩) (by show _ < _; omega) dX6_init_33 ?_
  obtain ⟨rf4, hrf4⟩ : ∃ r, r = xup rf3 102 3 (106 : Int) := ⟨_, rfl⟩
  show X (4) (32) (107, xSH, (xup rf3 102 3 (106 : Int))) μ 36 [some (xR 102)] []
  rw [← hrf4]
  have hg4 : ∀ k j, 107 ≤ k → rf4 k j = -1 := fun k j hk => by rw [hrf4]; exact (congrFun (xup_c (by omega)) j).trans (hg3 k j (by omega))
  refine r_aload_n hL (x := 102) dX6_init_36 rfl ?_
  refine r_iconst hL dX6_init_37 ?_
  refine r_puti hL xcl6 4 (j' := 4) rfl (by show _ < _; omega) s_102 (by decide) fl_X6_24 rfl rfl (by omega) dX6_init_38 (fun ν5 hm_ν5 => ?_)
  have hB_ν5 : BZ ν5 := by rw [hm_ν5]; exact hB.up (by show (4 : Int) = 4 → 0 ≤ 0 ∧ 0 ≤ 7; omega) (fun _ => rfl)
  have hu_ν5 : ∀ k j, k < 102 → ν5 k j = μ k j := fun k j hk => by rw [hm_ν5]; exact (congrFun (xup_c (by omega)) j).trans (hu k j hk)
  have hz_ν5 : ∀ k j, 107 ≤ k → ν5 k j = 0 := fun k j hk => by rw [hm_ν5]; exact (congrFun (xup_c (by omega)) j).trans (hz k j (by omega))
  refine r_aload_n hL (x := 102) dX6_init_41 rfl ?_
  refine r_iconst hL dX6_init_42 ?_
  refine r_puti hL xcl6 5 (j' := 5) rfl (by show _ < _; omega) s_102 (by decide) fl_X6_28 rfl rfl (by omega) dX6_init_43 (fun ν6 hm_ν6 => ?_)
  have hB_ν6 : BZ ν6 := by rw [hm_ν6]; exact hB_ν5.up (by show (5 : Int) = 4 → 0 ≤ 0 ∧ 0 ≤ 7; omega) (fun _ => rfl)
  have hu_ν6 : ∀ k j, k < 102 → ν6 k j = μ k j := fun k j hk => by rw [hm_ν6]; exact (congrFun (xup_c (by omega)) j).trans (hu_ν5 k j hk)
  have hz_ν6 : ∀ k j, 107 ≤ k → ν6 k j = 0 := fun k j hk => by rw [hm_ν6]; exact (congrFun (xup_c (by omega)) j).trans (hz_ν5 k j (by omega))
  refine r_aload_n hL (x := 102) dX6_init_46 rfl ?_
  refine r_iconst hL dX6_init_47 ?_
  refine r_puti hL xcl6 6 (j' := 6) rfl (by show _ < _; omega) s_102 (by decide) fl_X6_31 rfl rfl (by omega) dX6_init_48 (fun ν7 hm_ν7 => ?_)
  have hB_ν7 : BZ ν7 := by rw [hm_ν7]; exact hB_ν6.up (by show (6 : Int) = 4 → 0 ≤ 1 ∧ 1 ≤ 7; omega) (fun h => by unfold zs at h; omega)
  have hu_ν7 : ∀ k j, k < 102 → ν7 k j = μ k j := fun k j hk => by rw [hm_ν7]; exact (congrFun (xup_c (by omega)) j).trans (hu_ν6 k j hk)
  have hz_ν7 : ∀ k j, 107 ≤ k → ν7 k j = 0 := fun k j hk => by rw [hm_ν7]; exact (congrFun (xup_c (by omega)) j).trans (hz_ν6 k j (by omega))
  refine r_aload_n hL (x := 102) dX6_init_51 rfl ?_
  refine r_iconst hL dX6_init_52 ?_
  refine r_puti hL xcl6 7 (j' := 7) rfl (by show _ < _; omega) s_102 (by decide) fl_X6_34 rfl rfl (by omega) dX6_init_53 (fun ν8 hm_ν8 => ?_)
  have hB_ν8 : BZ ν8 := by rw [hm_ν8]; exact hB_ν7.up (by show (7 : Int) = 4 → 0 ≤ 0 ∧ 0 ≤ 7; omega) (fun _ => rfl)
  have hu_ν8 : ∀ k j, k < 102 → ν8 k j = μ k j := fun k j hk => by rw [hm_ν8]; exact (congrFun (xup_c (by omega)) j).trans (hu_ν7 k j hk)
  have hz_ν8 : ∀ k j, 107 ≤ k → ν8 k j = 0 := fun k j hk => by rw [hm_ν8]; exact (congrFun (xup_c (by omega)) j).trans (hz_ν7 k j (by omega))
  refine r_aload_n hL (x := 102) dX6_init_56 rfl ?_
  refine r_iconst hL dX6_init_57 ?_
  refine r_puti hL xcl6 8 (j' := 8) rfl (by show _ < _; omega) s_102 (by decide) fl_X6_37 rfl rfl (by omega) dX6_init_58 (fun ν9 hm_ν9 => ?_)
  have hB_ν9 : BZ ν9 := by rw [hm_ν9]; exact hB_ν8.up (by show (8 : Int) = 4 → 0 ≤ 1 ∧ 1 ≤ 7; omega) (fun h => by unfold zs at h; omega)
  have hu_ν9 : ∀ k j, k < 102 → ν9 k j = μ k j := fun k j hk => by rw [hm_ν9]; exact (congrFun (xup_c (by omega)) j).trans (hu_ν8 k j hk)
  have hz_ν9 : ∀ k j, 107 ≤ k → ν9 k j = 0 := fun k j hk => by rw [hm_ν9]; exact (congrFun (xup_c (by omega)) j).trans (hz_ν8 k j (by omega))
  refine r_aload_n hL (x := 102) dX6_init_61 rfl ?_
  refine r_iconst hL dX6_init_62 ?_
  refine r_puti hL xcl6 9 (j' := 9) rfl (by show _ < _; omega) s_102 (by decide) fl_X6_40 rfl rfl (by omega) dX6_init_63 (fun ν10 hm_ν10 => ?_)
  have hB_ν10 : BZ ν10 := by rw [hm_ν10]; exact hB_ν9.up (by show (9 : Int) = 4 → 0 ≤ 0 ∧ 0 ≤ 7; omega) (fun _ => rfl)
  have hu_ν10 : ∀ k j, k < 102 → ν10 k j = μ k j := fun k j hk => by rw [hm_ν10]; exact (congrFun (xup_c (by omega)) j).trans (hu_ν9 k j hk)
  have hz_ν10 : ∀ k j, 107 ≤ k → ν10 k j = 0 := fun k j hk => by rw [hm_ν10]; exact (congrFun (xup_c (by omega)) j).trans (hz_ν9 k j (by omega))
  refine r_aload_n hL (x := 102) dX6_init_66 rfl ?_
  refine r_iconst hL dX6_init_67 ?_
  refine r_puti hL xcl6 10 (j' := 10) rfl (by show _ < _; omega) s_102 (by decide) fl_X6_43 rfl rfl (by omega) dX6_init_68 (fun ν11 hm_ν11 => ?_)
  have hB_ν11 : BZ ν11 := by rw [hm_ν11]; exact hB_ν10.up (by show (10 : Int) = 4 → 0 ≤ 0 ∧ 0 ≤ 7; omega) (fun _ => rfl)
  have hu_ν11 : ∀ k j, k < 102 → ν11 k j = μ k j := fun k j hk => by rw [hm_ν11]; exact (congrFun (xup_c (by omega)) j).trans (hu_ν10 k j hk)
  have hz_ν11 : ∀ k j, 107 ≤ k → ν11 k j = 0 := fun k j hk => by rw [hm_ν11]; exact (congrFun (xup_c (by omega)) j).trans (hz_ν10 k j (by omega))
  refine r_vret hL dX6_init_71 rfl (hK _ _ ⟨rf4, rfl, fun k j hk => ?_, fun k j h0 h1 => ?_, fun k j hk => hg4 k j (by omega), fun k j hk => hz_ν11 k j (by omega), hB_ν11, hu_ν11, (fun h => by omega), (fun h => by omega)⟩)
  · rw [hrf4, hrf3, hrf2, hrf1]
    simp [xup, show k ≠ 102 by omega]
  · by_cases e : k = 102
    · subst e
      rw [hrf4, hrf3, hrf2, hrf1]
      rw [(show xRF 102 j = xgl [(103 : Int), (104 : Int), (105 : Int), (106 : Int)] j from rfl)]
      by_cases hj : 0 ≤ j ∧ j < 4
      · rcases (show j = 0 ∨ j = 1 ∨ j = 2 ∨ j = 3 by omega) with h | h | h | h <;> subst h <;> simp [xup, xgl, hf]
      · rw [xgl_out (by simp only [List.length_cons, List.length_nil]; omega)]
        simp [xup, show j ≠ 0 by omega, show j ≠ 1 by omega, show j ≠ 2 by omega, show j ≠ 3 by omega, hf]
    · rw [hrf4, hrf3, hrf2, hrf1]
      simp only [xup, e, false_and, if_false]
      rw [hf k j h0]
      rcases (show k = 103 ∨ k = 104 ∨ k = 105 ∨ k = 106 by omega) with h | h | h | h <;> subst h
      · exact (xRF_none (fun _ => rfl) j).symm
      · exact (xRF_none (fun _ => rfl) j).symm
      · exact (xRF_none (fun _ => rfl) j).symm
      · exact (xRF_none (fun _ => rfl) j).symm

set_option maxHeartbeats 4000000 in
set_option maxRecDepth 20000 in
theorem m_X8_init {K : Option xV → xW → xM → Prop} {μ : xM} (rf : Nat → Int → Int) (hC : CP 120 rf μ) (hK : ∀ w' μ', CK 120 138 rf μ w' μ' → K none w' μ') : xMet yX8_init cX8_init 1 none 1 26 17 2660 [xR 120] (121, xSH, rf) μ K := by
  obtain ⟨hf, hz, hB⟩ := hC
  refine xMet.go RX8 "<init>" rfl rfl (by decide) [some (xR 120)] (Nat.le_of_ble_eq_true rfl) rfl (fun X hL => ?_)
  have hu : ∀ k j, k < 120 → μ k j = μ k j := fun _ _ _ => rfl
  refine r_aload_n hL (x := 120) dX8_init_0 rfl ?_
  refine r_objInit hL dX8_init_1 ml_X8_1 im_Lib_objectInit kd_Lib_objectInit ⟨Nat.le_of_ble_eq_true rfl, Nat.le_of_ble_eq_true rfl⟩ ?_
  refine r_aload_n hL (x := 120) dX8_init_4 rfl ?_
  refine r_bipush hL dX8_init_5 (by decide) ?_
  refine r_newa hL 1 (nn := 110) dX8_init_7 (Or.inl ⟨rfl, rfl⟩) ac_Jvm_ClassFile_FieldType_int rfl (by decide) s_121 (fun j => hf (121) j (by omega)) (fun j => hz (121) j (by omega)) (show 120 < 121 ∧ True from ⟨by omega, trivial⟩) (show 120 < 121 ∧ True from ⟨by omega, trivial⟩) ⟨Nat.le_of_ble_eq_true rfl, Nat.le_of_ble_eq_true rfl⟩ ?_
  show X (1) (110) (122, xSH, rf) μ 9 [some (xR 120)] [xR 121, xR 120]
  refine r_putr hL xcl8 0 (j' := 0) rfl (by show _ < _; omega) s_120 (by decide) fw_X8_7 rfl rfl (by decide) (fun a => ⟨rfl, rfl⟩) (by show _ < _; omega) dX8_init_9 ?_
  obtain ⟨rf1, hrf1⟩ : ∃ r, r = xup rf 120 0 (121 : Int) := ⟨_, rfl⟩
  show X (1) (110) (122, xSH, (xup rf 120 0 (121 : Int))) μ 12 [some (xR 120)] []
  rw [← hrf1]
  have hg1 : ∀ k j, 122 ≤ k → rf1 k j = -1 := fun k j hk => by rw [hrf1]; exact (congrFun (xup_c (by omega)) j).trans (hf k j (by omega))
  refine r_aload_n hL (x := 120) dX8_init_12 rfl ?_
  refine r_sipush hL dX8_init_13 (by decide) ?_
  refine r_newa hL 1 (nn := 1760) dX8_init_16 (Or.inl ⟨rfl, rfl⟩) ac_Jvm_ClassFile_FieldType_int rfl (by decide) s_122 (fun j => hg1 (122) j (by omega)) (fun j => hz (122) j (by omega)) (show 120 < 122 ∧ True from ⟨by omega, trivial⟩) (show 120 < 122 ∧ True from ⟨by omega, trivial⟩) ⟨Nat.le_of_ble_eq_true rfl, Nat.le_of_ble_eq_true rfl⟩ ?_
  show X (2) (1870) (123, xSH, rf1) μ 18 [some (xR 120)] [xR 122, xR 120]
  refine r_putr hL xcl8 1 (j' := 1) rfl (by show _ < _; omega) s_120 (by decide) fw_X8_13 rfl rfl (by decide) (fun a => ⟨rfl, rfl⟩) (by show _ < _; omega) dX8_init_18 ?_
  obtain ⟨rf2, hrf2⟩ : ∃ r, r = xup rf1 120 1 (122 : Int) := ⟨_, rfl⟩
  show X (2) (1870) (123, xSH, (xup rf1 120 1 (122 : Int))) μ 21 [some (xR 120)] []
  rw [← hrf2]
  have hg2 : ∀ k j, 123 ≤ k → rf2 k j = -1 := fun k j hk => by rw [hrf2]; exact (congrFun (xup_c (by omega)) j).trans (hg1 k j (by omega))
  refine r_aload_n hL (x := 120) dX8_init_21 rfl ?_
  refine r_sipush hL dX8_init_22 (by decide) ?_
  refine r_newa hL 1 (nn := 222) dX8_init_25 (Or.inl ⟨rfl, rfl⟩) ac_Jvm_ClassFile_FieldType_int rfl (by decide) s_123 (fun j => hg2 (123) j (by omega)) (fun j => hz (123) j (by omega)) (show 120 < 123 ∧ True from ⟨by omega, trivial⟩) (show 120 < 123 ∧ True from ⟨by omega, trivial⟩) ⟨Nat.le_of_ble_eq_true rfl, Nat.le_of_ble_eq_true rfl⟩ ?_
  show X (3) (2092) (124, xSH, rf2) μ 27 [some (xR 120)] [xR 123, xR 120]
  refine r_putr hL xcl8 3 (j' := 3) rfl (by show _ < _; omega) s_120 (by decide) fw_X8_16 rfl rfl (by decide) (fun a => ⟨rfl, rfl⟩) (by show _ < _; omega) dX8_init_27 ?_
  obtain ⟨rf3, hrf3⟩ : ∃ r, r = xup rf2 120 3 (123 : Int) := ⟨_, rfl⟩
  show X (3) (2092) (124, xSH, (xup rf2 120 3 (123 : Int))) μ 30 [some (xR 120)] []
  rw [← hrf3]
  have hg3 : ∀ k j, 124 ≤ k → rf3 k j = -1 := fun k j hk => by rw [hrf3]; exact (congrFun (xup_c (by omega)) j).trans (hg2 k j (by omega))
  refine r_aload_n hL (x := 120) dX8_init_30 rfl ?_
  refine r_iconst hL dX8_init_31 ?_
  refine r_newa hL 3 (nn := 2) dX8_init_32 (Or.inr (Or.inr ⟨rfl, rfl⟩)) ac_Jvm_ClassFile_FieldType_boolean rfl (by decide) s_124 (fun j => hg3 (124) j (by omega)) (fun j => hz (124) j (by omega)) (show 120 < 124 ∧ True from ⟨by omega, trivial⟩) (show 120 < 124 ∧ True from ⟨by omega, trivial⟩) ⟨Nat.le_of_ble_eq_true rfl, Nat.le_of_ble_eq_true rfl⟩ ?_
  show X (4) (2094) (125, xSH, rf3) μ 34 [some (xR 120)] [xR 124, xR 120]
  refine r_putr hL xcl8 4 (j' := 4) rfl (by show _ < _; omega) s_120 (by decide) fw_X8_19 rfl rfl (by decide) (fun a => ⟨rfl, rfl⟩) (by show _ < _; omega) dX8_init_34 ?_
  obtain ⟨rf4, hrf4⟩ : ∃ r, r = xup rf3 120 4 (124 : Int) := ⟨_, rfl⟩
  show X (4) (2094) (125, xSH, (xup rf3 120 4 (124 : Int))) μ 37 [some (xR 120)] []
  rw [← hrf4]
  have hg4 : ∀ k j, 125 ≤ k → rf4 k j = -1 := fun k j hk => by rw [hrf4]; exact (congrFun (xup_c (by omega)) j).trans (hg3 k j (by omega))
  refine r_aload_n hL (x := 120) dX8_init_37 rfl ?_
  refine r_bipush hL dX8_init_38 (by decide) ?_
  refine r_newa hL 1 (nn := 10) dX8_init_40 (Or.inl ⟨rfl, rfl⟩) ac_Jvm_ClassFile_FieldType_int rfl (by decide) s_125 (fun j => hg4 (125) j (by omega)) (fun j => hz (125) j (by omega)) (show 120 < 125 ∧ True from ⟨by omega, trivial⟩) (show 120 < 125 ∧ True from ⟨by omega, trivial⟩) ⟨Nat.le_of_ble_eq_true rfl, Nat.le_of_ble_eq_true rfl⟩ ?_
  show X (5) (2104) (126, xSH, rf4) μ 42 [some (xR 120)] [xR 125, xR 120]
  refine r_putr hL xcl8 5 (j' := 5) rfl (by show _ < _; omega) s_120 (by decide) fw_X8_23 rfl rfl (by decide) (fun a => ⟨rfl, rfl⟩) (by show _ < _; omega) dX8_init_42 ?_
  obtain ⟨rf5, hrf5⟩ : ∃ r, r = xup rf4 120 5 (125 : Int) := ⟨_, rfl⟩
  show X (5) (2104) (126, xSH, (xup rf4 120 5 (125 : Int))) μ 45 [some (xR 120)] []
  rw [← hrf5]
  have hg5 : ∀ k j, 126 ≤ k → rf5 k j = -1 := fun k j hk => by rw [hrf5]; exact (congrFun (xup_c (by omega)) j).trans (hg4 k j (by omega))
  refine r_aload_n hL (x := 120) dX8_init_45 rfl ?_
  refine r_bipush hL dX8_init_46 (by decide) ?_
  refine r_newa hL 1 (nn := 60) dX8_init_48 (Or.inl ⟨rfl, rfl⟩) ac_Jvm_ClassFile_FieldType_int rfl (by decide) s_126 (fun j => hg5 (126) j (by omega)) (fun j => hz (126) j (by omega)) (show 120 < 126 ∧ True from ⟨by omega, trivial⟩) (show 120 < 126 ∧ True from ⟨by omega, trivial⟩) ⟨Nat.le_of_ble_eq_true rfl, Nat.le_of_ble_eq_true rfl⟩ ?_
  show X (6) (2164) (127, xSH, rf5) μ 50 [some (xR 120)] [xR 126, xR 120]
  refine r_putr hL xcl8 7 (j' := 7) rfl (by show _ < _; omega) s_120 (by decide) fw_X8_26 rfl rfl (by decide) (fun a => ⟨rfl, rfl⟩) (by show _ < _; omega) dX8_init_50 ?_
  obtain ⟨rf6, hrf6⟩ : ∃ r, r = xup rf5 120 7 (126 : Int) := ⟨_, rfl⟩
  show X (6) (2164) (127, xSH, (xup rf5 120 7 (126 : Int))) μ 53 [some (xR 120)] []
  rw [← hrf6]
  have hg6 : ∀ k j, 127 ≤ k → rf6 k j = -1 := fun k j hk => by rw [hrf6]; exact (congrFun (xup_c (by omega)) j).trans (hg5 k j (by omega))
  refine r_aload_n hL (x := 120) dX8_init_53 rfl ?_
  refine r_bipush hL dX8_init_54 (by decide) ?_
  refine r_newa hL 1 (nn := 10) dX8_init_56 (Or.inl ⟨rfl, rfl⟩) ac_Jvm_ClassFile_FieldType_int rfl (by decide) s_127 (fun j => hg6 (127) j (by omega)) (fun j => hz (127) j (by omega)) (show 120 < 127 ∧ True from ⟨by omega, trivial⟩) (show 120 < 127 ∧ True from ⟨by omega, trivial⟩) ⟨Nat.le_of_ble_eq_true rfl, Nat.le_of_ble_eq_true rfl⟩ ?_
  show X (7) (2174) (128, xSH, rf6) μ 58 [some (xR 120)] [xR 127, xR 120]
  refine r_putr hL xcl8 10 (j' := 10) rfl (by show _ < _; omega) s_120 (by decide) fw_X8_29 rfl rfl (by decide) (fun a => ⟨rfl, rfl⟩) (by show _ < _; omega) dX8_init_58 ?_
  obtain ⟨rf7, hrf7⟩ : ∃ r, r = xup rf6 120 10 (127 : Int) := ⟨_, rfl⟩
  show X (7) (2174) (128, xSH, (xup rf6 120 10 (127 : Int))) μ 61 [some (xR 120)] []
  rw [← hrf7]
  have hg7 : ∀ k j, 128 ≤ k → rf7 k j = -1 := fun k j hk => by rw [hrf7]; exact (congrFun (xup_c (by omega)) j).trans (hg6 k j (by omega))
  refine r_aload_n hL (x := 120) dX8_init_61 rfl ?_
  refine r_bipush hL dX8_init_62 (by decide) ?_
  refine r_newa hL 1 (nn := 10) dX8_init_64 (Or.inl ⟨rfl, rfl⟩) ac_Jvm_ClassFile_FieldType_int rfl (by decide) s_128 (fun j => hg7 (128) j (by omega)) (fun j => hz (128) j (by omega)) (show 120 < 128 ∧ True from ⟨by omega, trivial⟩) (show 120 < 128 ∧ True from ⟨by omega, trivial⟩) ⟨Nat.le_of_ble_eq_true rfl, Nat.le_of_ble_eq_true rfl⟩ ?_
  show X (8) (2184) (129, xSH, rf7) μ 66 [some (xR 120)] [xR 128, xR 120]
  refine r_putr hL xcl8 12 (j' := 12) rfl (by show _ < _; omega) s_120 (by decide) fw_X8_32 rfl rfl (by decide) (fun a => ⟨rfl, rfl⟩) (by show _ < _; omega) dX8_init_66 ?_
  obtain ⟨rf8, hrf8⟩ : ∃ r, r = xup rf7 120 12 (128 : Int) := ⟨_, rfl⟩
  show X (8) (2184) (129, xSH, (xup rf7 120 12 (128 : Int))) μ 69 [some (xR 120)] []
  rw [← hrf8]
  have hg8 : ∀ k j, 129 ≤ k → rf8 k j = -1 := fun k j hk => by rw [hrf8]; exact (congrFun (xup_c (by omega)) j).trans (hg7 k j (by omega))
  refine r_aload_n hL (x := 120) dX8_init_69 rfl ?_
  refine r_bipush hL dX8_init_70 (by decide) ?_
  refine r_newa hL 1 (nn := 121) dX8_init_72 (Or.inl ⟨rfl, rfl⟩) ac_Jvm_ClassFile_FieldType_int rfl (by decide) s_129 (fun j => hg8 (129) j (by omega)) (fun j => hz (129) j (by omega)) (show 120 < 129 ∧ True from ⟨by omega, trivial⟩) (show 120 < 129 ∧ True from ⟨by omega, trivial⟩) ⟨Nat.le_of_ble_eq_true rfl, Nat.le_of_ble_eq_true rfl⟩ ?_
  show X (9) (2305) (130, xSH, rf8) μ 74 [some (xR 120)] [xR 129, xR 120]
  refine r_putr hL xcl8 14 (j' := 14) rfl (by show _ < _; omega) s_120 (by decide) fw_X8_35 rfl rfl (by decide) (fun a => ⟨rfl, rfl⟩) (by show _ < _; omega) dX8_init_74 ?_
  obtain ⟨rf9, hrf9⟩ : ∃ r, r = xup rf8 120 14 (129 : Int) := ⟨_, rfl⟩
  show X (9) (2305) (130, xSH, (xup rf8 120 14 (129 : Int))) μ 77 [some (xR 120)] []
  rw [← hrf9]
  have hg9 : ∀ k j, 130 ≤ k → rf9 k j = -1 := fun k j hk => by rw [hrf9]; exact (congrFun (xup_c (by omega)) j).trans (hg8 k j (by omega))
  refine r_aload_n hL (x := 120) dX8_init_77 rfl ?_
  refine r_bipush hL dX8_init_78 (by decide) ?_
  refine r_newa hL 1 (nn := 121) dX8_init_80 (Or.inl ⟨rfl, rfl⟩) ac_Jvm_ClassFile_FieldType_int rfl (by decide) s_130 (fun j => hg9 (130) j (by omega)) (fun j => hz (130) j (by omega)) (show 120 < 130 ∧ True from ⟨by omega, trivial⟩) (show 120 < 130 ∧ True from ⟨by omega, trivial⟩) ⟨Nat.le_of_ble_eq_true rfl, Nat.le_of_ble_eq_true rfl⟩ ?_
  show X (10) (2426) (131, xSH, rf9) μ 82 [some (xR 120)] [xR 130, xR 120]
  refine r_putr hL xcl8 15 (j' := 15) rfl (by show _ < _; omega) s_120 (by decide) fw_X8_38 rfl rfl (by decide) (fun a => ⟨rfl, rfl⟩) (by show _ < _; omega) dX8_init_82 ?_
  obtain ⟨rf10, hrf10⟩ : ∃ r, r = xup rf9 120 15 (130 : Int) := ⟨_, rfl⟩
  show X (10) (2426) (131, xSH, (xup rf9 120 15 (130 : Int))) μ 85 [some (xR 120)] []
  rw [← hrf10]
  have hg10 : ∀ k j, 131 ≤ k → rf10 k j = -1 := fun k j hk => by rw [hrf10]; exact (congrFun (xup_c (by omega)) j).trans (hg9 k j (by omega))
  refine r_aload_n hL (x := 120) dX8_init_85 rfl ?_
  refine r_bipush hL dX8_init_86 (by decide) ?_
  refine r_newa hL 1 (nn := 20) dX8_init_88 (Or.inl ⟨rfl, rfl⟩) ac_Jvm_ClassFile_FieldType_int rfl (by decide) s_131 (fun j => hg10 (131) j (by omega)) (fun j => hz (131) j (by omega)) (show 120 < 131 ∧ True from ⟨by omega, trivial⟩) (show 120 < 131 ∧ True from ⟨by omega, trivial⟩) ⟨Nat.le_of_ble_eq_true rfl, Nat.le_of_ble_eq_true rfl⟩ ?_
  show X (11) (2446) (132, xSH, rf10) μ 90 [some (xR 120)] [xR 131, xR 120]
  refine r_putr hL xcl8 16 (j' := 16) rfl (by show _ < _; omega) s_120 (by decide) fw_X8_41 rfl rfl (by decide) (fun a => ⟨rfl, rfl⟩) (by show _ < _; omega) dX8_init_90 ?_
  obtain ⟨rf11, hrf11⟩ : ∃ r, r = xup rf10 120 16 (131 : Int) := ⟨_, rfl⟩
  show X (11) (2446) (132, xSH, (xup rf10 120 16 (131 : Int))) μ 93 [some (xR 120)] []
  rw [← hrf11]
  have hg11 : ∀ k j, 132 ≤ k → rf11 k j = -1 := fun k j hk => by rw [hrf11]; exact (congrFun (xup_c (by omega)) j).trans (hg10 k j (by omega))
  refine r_aload_n hL (x := 120) dX8_init_93 rfl ?_
  refine r_bipush hL dX8_init_94 (by decide) ?_
  refine r_newa hL 1 (nn := 121) dX8_init_96 (Or.inl ⟨rfl, rfl⟩) ac_Jvm_ClassFile_FieldType_int rfl (by decide) s_132 (fun j => hg11 (132) j (by omega)) (fun j => hz (132) j (by omega)) (show 120 < 132 ∧ True from ⟨by omega, trivial⟩) (show 120 < 132 ∧ True from ⟨by omega, trivial⟩) ⟨Nat.le_of_ble_eq_true rfl, Nat.le_of_ble_eq_true rfl⟩ ?_
  show X (12) (2567) (133, xSH, rf11) μ 98 [some (xR 120)] [xR 132, xR 120]
  refine r_putr hL xcl8 17 (j' := 17) rfl (by show _ < _; omega) s_120 (by decide) fw_X8_44 rfl rfl (by decide) (fun a => ⟨rfl, rfl⟩) (by show _ < _; omega) dX8_init_98 ?_
  obtain ⟨rf12, hrf12⟩ : ∃ r, r = xup rf11 120 17 (132 : Int) := ⟨_, rfl⟩
  show X (12) (2567) (133, xSH, (xup rf11 120 17 (132 : Int))) μ 101 [some (xR 120)] []
  rw [← hrf12]
  have hg12 : ∀ k j, 133 ≤ k → rf12 k j = -1 := fun k j hk => by rw [hrf12]; exact (congrFun (xup_c (by omega)) j).trans (hg11 k j (by omega))
  refine r_aload_n hL (x := 120) dX8_init_101 rfl ?_
  refine r_bipush hL dX8_init_102 (by decide) ?_
  refine r_newa hL 1 (nn := 64) dX8_init_104 (Or.inl ⟨rfl, rfl⟩) ac_Jvm_ClassFile_FieldType_int rfl (by decide) s_133 (fun j => hg12 (133) j (by omega)) (fun j => hz (133) j (by omega)) (show 120 < 133 ∧ True from ⟨by omega, trivial⟩) (show 120 < 133 ∧ True from ⟨by omega, trivial⟩) ⟨Nat.le_of_ble_eq_true rfl, Nat.le_of_ble_eq_true rfl⟩ ?_
  show X (13) (2631) (134, xSH, rf12) μ 106 [some (xR 120)] [xR 133, xR 120]
  refine r_putr hL xcl8 18 (j' := 18) rfl (by show _ < _; omega) s_120 (by decide) fw_X8_47 rfl rfl (by decide) (fun a => ⟨rfl, rfl⟩) (by show _ < _; omega) dX8_init_106 ?_
  obtain ⟨rf13, hrf13⟩ : ∃ r, r = xup rf12 120 18 (133 : Int) := ⟨_, rfl⟩
  show X (13) (2631) (134, xSH, (xup rf12 120 18 (133 : Int))) μ 109 [some (xR 120)] []
  rw [← hrf13]
  have hg13 : ∀ k j, 134 ≤ k → rf13 k j = -1 := fun k j hk => by rw [hrf13]; exact (congrFun (xup_c (by omega)) j).trans (hg12 k j (by omega))
  refine r_aload_n hL (x := 120) dX8_init_109 rfl ?_
  refine r_bipush hL dX8_init_110 (by decide) ?_
  refine r_newa hL 1 (nn := 8) dX8_init_112 (Or.inl ⟨rfl, rfl⟩) ac_Jvm_ClassFile_FieldType_int rfl (by decide) s_134 (fun j => hg13 (134) j (by omega)) (fun j => hz (134) j (by omega)) (show 120 < 134 ∧ True from ⟨by omega, trivial⟩) (show 120 < 134 ∧ True from ⟨by omega, trivial⟩) ⟨Nat.le_of_ble_eq_true rfl, Nat.le_of_ble_eq_true rfl⟩ ?_
  show X (14) (2639) (135, xSH, rf13) μ 114 [some (xR 120)] [xR 134, xR 120]
  refine r_putr hL xcl8 19 (j' := 19) rfl (by show _ < _; omega) s_120 (by decide) fw_X8_50 rfl rfl (by decide) (fun a => ⟨rfl, rfl⟩) (by show _ < _; omega) dX8_init_114 ?_
  obtain ⟨rf14, hrf14⟩ : ∃ r, r = xup rf13 120 19 (134 : Int) := ⟨_, rfl⟩
  show X (14) (2639) (135, xSH, (xup rf13 120 19 (134 : Int))) μ 117 [some (xR 120)] []
  rw [← hrf14]
  have hg14 : ∀ k j, 135 ≤ k → rf14 k j = -1 := fun k j hk => by rw [hrf14]; exact (congrFun (xup_c (by omega)) j).trans (hg13 k j (by omega))
  refine r_aload_n hL (x := 120) dX8_init_117 rfl ?_
  refine r_bipush hL dX8_init_118 (by decide) ?_
  refine r_newa hL 1 (nn := 7) dX8_init_120 (Or.inl ⟨rfl, rfl⟩) ac_Jvm_ClassFile_FieldType_int rfl (by decide) s_135 (fun j => hg14 (135) j (by omega)) (fun j => hz (135) j (by omega)) (show 120 < 135 ∧ True from ⟨by omega, trivial⟩) (show 120 < 135 ∧ True from ⟨by omega, trivial⟩) ⟨Nat.le_of_ble_eq_true rfl, Nat.le_of_ble_eq_true rfl⟩ ?_
  show X (15) (2646) (136, xSH, rf14) μ 122 [some (xR 120)] [xR 135, xR 120]
  refine r_putr hL xcl8 21 (j' := 21) rfl (by show _ < _; omega) s_120 (by decide) fw_X8_53 rfl rfl (by decide) (fun a => ⟨rfl, rfl⟩) (by show _ < _; omega) dX8_init_122 ?_
  obtain ⟨rf15, hrf15⟩ : ∃ r, r = xup rf14 120 21 (135 : Int) := ⟨_, rfl⟩
  show X (15) (2646) (136, xSH, (xup rf14 120 21 (135 : Int))) μ 125 [some (xR 120)] []
  rw [← hrf15]
  have hg15 : ∀ k j, 136 ≤ k → rf15 k j = -1 := fun k j hk => by rw [hrf15]; exact (congrFun (xup_c (by omega)) j).trans (hg14 k j (by omega))
  refine r_aload_n hL (x := 120) dX8_init_125 rfl ?_
  refine r_bipush hL dX8_init_126 (by decide) ?_
  refine r_newa hL 1 (nn := 7) dX8_init_128 (Or.inl ⟨rfl, rfl⟩) ac_Jvm_ClassFile_FieldType_int rfl (by decide) s_136 (fun j => hg15 (136) j (by omega)) (fun j => hz (136) j (by omega)) (show 120 < 136 ∧ True from ⟨by omega, trivial⟩) (show 120 < 136 ∧ True from ⟨by omega, trivial⟩) ⟨Nat.le_of_ble_eq_true rfl, Nat.le_of_ble_eq_true rfl⟩ ?_
  show X (16) (2653) (137, xSH, rf15) μ 130 [some (xR 120)] [xR 136, xR 120]
  refine r_putr hL xcl8 22 (j' := 22) rfl (by show _ < _; omega) s_120 (by decide) fw_X8_56 rfl rfl (by decide) (fun a => ⟨rfl, rfl⟩) (by show _ < _; omega) dX8_init_130 ?_
  obtain ⟨rf16, hrf16⟩ : ∃ r, r = xup rf15 120 22 (136 : Int) := ⟨_, rfl⟩
  show X (16) (2653) (137, xSH, (xup rf15 120 22 (136 : Int))) μ 133 [some (xR 120)] []
  rw [← hrf16]
  have hg16 : ∀ k j, 137 ≤ k → rf16 k j = -1 := fun k j hk => by rw [hrf16]; exact (congrFun (xup_c (by omega)) j).trans (hg15 k j (by omega))
  refine r_aload_n hL (x := 120) dX8_init_133 rfl ?_
  refine r_bipush hL dX8_init_134 (by decide) ?_
  refine r_newa hL 1 (nn := 7) dX8_init_136 (Or.inl ⟨rfl, rfl⟩) ac_Jvm_ClassFile_FieldType_int rfl (by decide) s_137 (fun j => hg16 (137) j (by omega)) (fun j => hz (137) j (by omega)) (show 120 < 137 ∧ True from ⟨by omega, trivial⟩) (show 120 < 137 ∧ True from ⟨by omega, trivial⟩) ⟨Nat.le_of_ble_eq_true rfl, Nat.le_of_ble_eq_true rfl⟩ ?_
  show X (17) (2660) (138, xSH, rf16) μ 138 [some (xR 120)] [xR 137, xR 120]
  refine r_putr hL xcl8 23 (j' := 23) rfl (by show _ < _; omega) s_120 (by decide) fw_X8_59 rfl rfl (by decide) (fun a => ⟨rfl, rfl⟩) (by show _ < _; omega) dX8_init_138 ?_
  obtain ⟨rf17, hrf17⟩ : ∃ r, r = xup rf16 120 23 (137 : Int) := ⟨_, rfl⟩
  show X (17) (2660) (138, xSH, (xup rf16 120 23 (137 : Int))) μ 141 [some (xR 120)] []
  rw [← hrf17]
  have hg17 : ∀ k j, 138 ≤ k → rf17 k j = -1 := fun k j hk => by rw [hrf17]; exact (congrFun (xup_c (by omega)) j).trans (hg16 k j (by omega))
  refine r_aload_n hL (x := 120) dX8_init_141 rfl ?_
  refine r_getr hL xcl8 0 (q := 121) (by show _ < _; omega) s_120 (by decide) fl_X8_7 (by decide) (by show rf17 120 0 = _; rw [hrf17, hrf16, hrf15, hrf14, hrf13, hrf12, hrf11, hrf10, hrf9, hrf8, hrf7, hrf6, hrf5, hrf4, hrf3, hrf2, hrf1]; simp [xup]) dX8_init_142 ?_
  refine r_iconst hL dX8_init_145 ?_
  refine r_iconst hL dX8_init_146 ?_
  refine r_iast hL dX8_init_147 (by show _ < _; omega) s_121 (by decide) (by omega) (by omega) (by omega) (fun ν18 hm_ν18 => ?_)
  have hB_ν18 : BZ ν18 := by rw [hm_ν18]; exact hB.up (by show ((2 : Int) = 0 → 0 ≤ 2 ∧ 2 ≤ 8) ∧ ((2 : Int) = 1 → 0 ≤ 2 ∧ 2 ≤ 2) ∧ (2 ≤ (2 : Int) ∧ (2 : Int) ≤ 5 → 0 ≤ 2 ∧ 2 ≤ 9) ∧ (6 ≤ (2 : Int) ∧ (2 : Int) ≤ 13 → 0 ≤ 2 ∧ 2 ≤ 10) ∧ (30 ≤ (2 : Int) → 0 ≤ 2 ∧ 2 ≤ 7); omega) (fun h => by unfold zs at h; omega)
  have hu_ν18 : ∀ k j, k < 120 → ν18 k j = μ k j := fun k j hk => by rw [hm_ν18]; exact (congrFun (xup_c (by omega)) j).trans (hu k j hk)
  have hz_ν18 : ∀ k j, 138 ≤ k → ν18 k j = 0 := fun k j hk => by rw [hm_ν18]; exact (congrFun (xup_c (by omega)) j).trans (hz k j (by omega))
  refine r_aload_n hL (x := 120) dX8_init_148 rfl ?_
  refine r_getr hL xcl8 0 (q := 121) (by show _ < _; omega) s_120 (by decide) fl_X8_7 (by decide) (by show rf17 120 0 = _; rw [hrf17, hrf16, hrf15, hrf14, hrf13, hrf12, hrf11, hrf10, hrf9, hrf8, hrf7, hrf6, hrf5, hrf4, hrf3, hrf2, hrf1]; simp [xup]) dX8_init_149 ?_
  refine r_iconst hL dX8_init_152 ?_
  refine r_iconst hL dX8_init_153 ?_
  refine r_iast hL dX8_init_154 (by show _ < _; omega) s_121 (by decide) (by omega) (by omega) (by omega) (fun ν19 hm_ν19 => ?_)
  have hB_ν19 : BZ ν19 := by rw [hm_ν19]; exact hB_ν18.up (by show ((3 : Int) = 0 → 0 ≤ 2 ∧ 2 ≤ 8) ∧ ((3 : Int) = 1 → 0 ≤ 2 ∧ 2 ≤ 2) ∧ (2 ≤ (3 : Int) ∧ (3 : Int) ≤ 5 → 0 ≤ 2 ∧ 2 ≤ 9) ∧ (6 ≤ (3 : Int) ∧ (3 : Int) ≤ 13 → 0 ≤ 2 ∧ 2 ≤ 10) ∧ (30 ≤ (3 : Int) → 0 ≤ 2 ∧ 2 ≤ 7); omega) (fun h => by unfold zs at h; omega)
  have hu_ν19 : ∀ k j, k < 120 → ν19 k j = μ k j := fun k j hk => by rw [hm_ν19]; exact (congrFun (xup_c (by omega)) j).trans (hu_ν18 k j hk)
  have hz_ν19 : ∀ k j, 138 ≤ k → ν19 k j = 0 := fun k j hk => by rw [hm_ν19]; exact (congrFun (xup_c (by omega)) j).trans (hz_ν18 k j (by omega))
  refine r_aload_n hL (x := 120) dX8_init_155 rfl ?_
  refine r_getr hL xcl8 0 (q := 121) (by show _ < _; omega) s_120 (by decide) fl_X8_7 (by decide) (by show rf17 120 0 = _; rw [hrf17, hrf16, hrf15, hrf14, hrf13, hrf12, hrf11, hrf10, hrf9, hrf8, hrf7, hrf6, hrf5, hrf4, hrf3, hrf2, hrf1]; simp [xup]) dX8_init_156 ?_
  refine r_iconst hL dX8_init_159 ?_
  refine r_iconst hL dX8_init_160 ?_
  refine r_iast hL dX8_init_161 (by show _ < _; omega) s_121 (by decide) (by omega) (by omega) (by omega) (fun ν20 hm_ν20 => ?_)
  have hB_ν20 : BZ ν20 := by rw [hm_ν20]; exact hB_ν19.up (by show ((4 : Int) = 0 → 0 ≤ 1 ∧ 1 ≤ 8) ∧ ((4 : Int) = 1 → 0 ≤ 1 ∧ 1 ≤ 2) ∧ (2 ≤ (4 : Int) ∧ (4 : Int) ≤ 5 → 0 ≤ 1 ∧ 1 ≤ 9) ∧ (6 ≤ (4 : Int) ∧ (4 : Int) ≤ 13 → 0 ≤ 1 ∧ 1 ≤ 10) ∧ (30 ≤ (4 : Int) → 0 ≤ 1 ∧ 1 ≤ 7); omega) (fun h => by unfold zs at h; omega)
  have hu_ν20 : ∀ k j, k < 120 → ν20 k j = μ k j := fun k j hk => by rw [hm_ν20]; exact (congrFun (xup_c (by omega)) j).trans (hu_ν19 k j hk)
  have hz_ν20 : ∀ k j, 138 ≤ k → ν20 k j = 0 := fun k j hk => by rw [hm_ν20]; exact (congrFun (xup_c (by omega)) j).trans (hz_ν19 k j (by omega))
  refine r_aload_n hL (x := 120) dX8_init_162 rfl ?_
  refine r_getr hL xcl8 0 (q := 121) (by show _ < _; omega) s_120 (by decide) fl_X8_7 (by decide) (by show rf17 120 0 = _; rw [hrf17, hrf16, hrf15, hrf14, hrf13, hrf12, hrf11, hrf10, hrf9, hrf8, hrf7, hrf6, hrf5, hrf4, hrf3, hrf2, hrf1]; simp [xup]) dX8_init_163 ?_
  refine r_iconst hL dX8_init_166 ?_
  refine r_iconst hL dX8_init_167 ?_
  refine r_iast hL dX8_init_168 (by show _ < _; omega) s_121 (by decide) (by omega) (by omega) (by omega) (fun ν21 hm_ν21 => ?_)
  have hB_ν21 : BZ ν21 := by rw [hm_ν21]; exact hB_ν20.up (by show ((5 : Int) = 0 → 0 ≤ 3 ∧ 3 ≤ 8) ∧ ((5 : Int) = 1 → 0 ≤ 3 ∧ 3 ≤ 2) ∧ (2 ≤ (5 : Int) ∧ (5 : Int) ≤ 5 → 0 ≤ 3 ∧ 3 ≤ 9) ∧ (6 ≤ (5 : Int) ∧ (5 : Int) ≤ 13 → 0 ≤ 3 ∧ 3 ≤ 10) ∧ (30 ≤ (5 : Int) → 0 ≤ 3 ∧ 3 ≤ 7); omega) (fun h => by unfold zs at h; omega)
  have hu_ν21 : ∀ k j, k < 120 → ν21 k j = μ k j := fun k j hk => by rw [hm_ν21]; exact (congrFun (xup_c (by omega)) j).trans (hu_ν20 k j hk)
  have hz_ν21 : ∀ k j, 138 ≤ k → ν21 k j = 0 := fun k j hk => by rw [hm_ν21]; exact (congrFun (xup_c (by omega)) j).trans (hz_ν20 k j (by omega))
  refine r_vret hL dX8_init_169 rfl (hK _ _ ⟨rf17, rfl, fun k j hk => ?_, fun k j h0 h1 => ?_, fun k j hk => hg17 k j (by omega), fun k j hk => hz_ν21 k j (by omega), hB_ν21, hu_ν21, (fun h => by omega), (fun _ => by unfold cst2; rw [hm_ν21, hm_ν20, hm_ν19, hm_ν18]; simp [xup])⟩)
  · rw [hrf17, hrf16, hrf15, hrf14, hrf13, hrf12, hrf11, hrf10, hrf9, hrf8, hrf7, hrf6, hrf5, hrf4, hrf3, hrf2, hrf1]
    simp [xup, show k ≠ 120 by omega]
  · by_cases e : k = 120
    · subst e
      rw [hrf17, hrf16, hrf15, hrf14, hrf13, hrf12, hrf11, hrf10, hrf9, hrf8, hrf7, hrf6, hrf5, hrf4, hrf3, hrf2, hrf1]
      rw [(show xRF 120 j = xgl [(121 : Int), (122 : Int), -1, (123 : Int), (124 : Int), (125 : Int), -1, (126 : Int), -1, -1, (127 : Int), -1, (128 : Int), -1, (129 : Int), (130 : Int), (131 : Int), (132 : Int), (133 : Int), (134 : Int), -1, (135 : Int), (136 : Int), (137 : Int)] j from rfl)]
      by_cases hj : 0 ≤ j ∧ j < 24
      · rcases (show j = 0 ∨ j = 1 ∨ j = 2 ∨ j = 3 ∨ j = 4 ∨ j = 5 ∨ j = 6 ∨ j = 7 ∨ j = 8 ∨ j = 9 ∨ j = 10 ∨ j = 11 ∨ j = 12 ∨ j = 13 ∨ j = 14 ∨ j = 15 ∨ j = 16 ∨ j = 17 ∨ j = 18 ∨ j = 19 ∨ j = 20 ∨ j = 21 ∨ j = 22 ∨ j = 23 by omega) with h | h | h | h | h | h | h | h | h | h | h | h | h | h | h | h | h | h | h | h | h | h | h | h <;> subst h <;> simp [xup, xgl, hf]
      · rw [xgl_out (by simp only [List.length_cons, List.length_nil]; omega)]
        simp [xup, show j ≠ 0 by omega, show j ≠ 1 by omega, show j ≠ 3 by omega, show j ≠ 4 by omega, show j ≠ 5 by omega, show j ≠ 7 by omega, show j ≠ 10 by omega, show j ≠ 12 by omega, show j ≠ 14 by omega, show j ≠ 15 by omega, show j ≠ 16 by omega, show j ≠ 17 by omega, show j ≠ 18 by omega, show j ≠ 19 by omega, show j ≠ 21 by omega, show j ≠ 22 by omega, show j ≠ 23 by omega, hf]
    · rw [hrf17, hrf16, hrf15, hrf14, hrf13, hrf12, hrf11, hrf10, hrf9, hrf8, hrf7, hrf6, hrf5, hrf4, hrf3, hrf2, hrf1]
      simp only [xup, e, false_and, if_false]
      rw [hf k j h0]
      rcases (show k = 121 ∨ k = 122 ∨ k = 123 ∨ k = 124 ∨ k = 125 ∨ k = 126 ∨ k = 127 ∨ k = 128 ∨ k = 129 ∨ k = 130 ∨ k = 131 ∨ k = 132 ∨ k = 133 ∨ k = 134 ∨ k = 135 ∨ k = 136 ∨ k = 137 by omega) with h | h | h | h | h | h | h | h | h | h | h | h | h | h | h | h | h <;> subst h
      · exact (xRF_none (fun _ => rfl) j).symm
      · exact (xRF_none (fun _ => rfl) j).symm
      · exact (xRF_none (fun _ => rfl) j).symm
      · exact (xRF_none (fun _ => rfl) j).symm
      · exact (xRF_none (fun _ => rfl) j).symm
      · exact (xRF_none (fun _ => rfl) j).symm
      · exact (xRF_none (fun _ => rfl) j).symm
      · exact (xRF_none (fun _ => rfl) j).symm
      · exact (xRF_none (fun _ => rfl) j).symm
      · exact (xRF_none (fun _ => rfl) j).symm
      · exact (xRF_none (fun _ => rfl) j).symm
      · exact (xRF_none (fun _ => rfl) j).symm
      · exact (xRF_none (fun _ => rfl) j).symm
      · exact (xRF_none (fun _ => rfl) j).symm
      · exact (xRF_none (fun _ => rfl) j).symm
      · exact (xRF_none (fun _ => rfl) j).symm
      · exact (xRF_none (fun _ => rfl) j).symm
end
section
set_option maxHeartbeats 4000000 in
set_option maxRecDepth 20000 in
theorem m_X3_init_108 {K : Option xV → xW → xM → Prop} {μ : xM} (rf : Nat → Int → Int) (hC : CP 108 rf μ) (hK : ∀ w' μ', CK 108 114 rf μ w' μ' → K none w' μ') : xMet yX3_init cX3_init 1 none 2 46 5 34 [xR 108] (109, xSH, rf) μ K := by
  obtain ⟨hf, hz, hB⟩ := hC
  refine xMet.go RX3 "<init>" rfl rfl (by decide) [some (xR 108)] (Nat.le_of_ble_eq_true rfl) rfl (fun X hL => ?_)
  have hu : ∀ k j, k < 108 → μ k j = μ k j := fun _ _ _ => rfl
  refine r_aload_n hL (x := 108) dX3_init_0 rfl ?_
  refine r_objInit hL dX3_init_1 ml_X3_1 im_Lib_objectInit kd_Lib_objectInit ⟨Nat.le_of_ble_eq_true rfl, Nat.le_of_ble_eq_true rfl⟩ ?_
  refine r_aload_n hL (x := 108) dX3_init_4 rfl ?_
  refine r_new hL xcl5 dX3_init_5 kk_X3_7 in_RX5 it_TaleTypes_State df_5 s_109 (fun j => hf (109) j (by omega)) (fun j => hz (109) j (by omega)) (show 108 < 109 ∧ True from ⟨by omega, trivial⟩) (show 108 < 109 ∧ True from ⟨by omega, trivial⟩) ⟨Nat.le_of_ble_eq_true rfl, Nat.le_of_ble_eq_true rfl⟩ ?_
  show X (1) (6) (110, xSH, rf) μ 8 [some (xR 108)] [xR 109, xR 108]
  refine r_dup hL dX3_init_8 rfl ?_
  refine r_callI hL (st := [xR 109, xR 108]) (k := 109) (m_X5_init (μ := μ) 109 (by decide) rf ⟨fun k j hk => hf k j (by omega), fun k j hk => hz k j (by omega), hB⟩ (fun wn1 νn1 hCK1 => ⟨rfl, ?_⟩)) ce_yX5_init rfl im_yX5_init ml_X3_9 dX3_init_9 (show 109 < 110 ∧ 108 < 110 ∧ True from ⟨by omega, by omega, trivial⟩) (show 108 < 110 ∧ True from ⟨by omega, trivial⟩) (Nat.le_of_ble_eq_true rfl) ⟨Nat.le_of_ble_eq_true rfl, Nat.le_of_ble_eq_true rfl⟩ ⟨Nat.le_of_ble_eq_true rfl, Nat.le_of_ble_eq_true rfl⟩
  obtain ⟨rg1, rfl, hl1, hm1, hf1, hz1, hB1, hp1, hca1, hcb1⟩ := hCK1
  have hu1 : ∀ k j, k < 108 → νn1 k j = μ k j := fun k j hk => (hp1 k j (by omega)).trans (hu k j hk)
  show X (5) (34) (114, xSH, rg1) νn1 12 [some (xR 108)] [xR 109, xR 108]
  refine r_putr hL xcl3 0 (j' := 0) rfl (by show _ < _; omega) s_108 (by decide) fw_X3_10 rfl rfl (by decide) (fun a => ⟨rfl, rfl⟩) (by show _ < _; omega) dX3_init_12 ?_
  obtain ⟨rf2, hrf2⟩ : ∃ r, r = xup rg1 108 0 (109 : Int) := ⟨_, rfl⟩
  show X (5) (34) (114, xSH, (xup rg1 108 0 (109 : Int))) νn1 15 [some (xR 108)] []
  rw [← hrf2]
  have hg2 : ∀ k j, 114 ≤ k → rf2 k j = -1 := fun k j hk => by rw [hrf2]; exact (congrFun (xup_c (by omega)) j).trans (hf1 k j (by omega))
  refine r_aload_n hL (x := 108) dX3_init_15 rfl ?_
  refine r_iconst hL dX3_init_16 ?_
  refine r_puti hL xcl3 1 (j' := 1) rfl (by show _ < _; omega) s_108 (by decide) fl_X3_16 rfl rfl (by omega) dX3_init_17 (fun ν3 hm_ν3 => ?_)
  have hB_ν3 : BZ ν3 := by rw [hm_ν3]; exact hB1.up trivial (fun _ => rfl)
  have hu_ν3 : ∀ k j, k < 108 → ν3 k j = μ k j := fun k j hk => by rw [hm_ν3]; exact (congrFun (xup_c (by omega)) j).trans (hu1 k j hk)
  have hz_ν3 : ∀ k j, 114 ≤ k → ν3 k j = 0 := fun k j hk => by rw [hm_ν3]; exact (congrFun (xup_c (by omega)) j).trans (hz1 k j (by omega))
  refine r_aload_n hL (x := 108) dX3_init_20 rfl ?_
  refine r_iconst hL dX3_init_21 ?_
  refine r_putz hL xcl3 2 (j' := 2) rfl (by show _ < _; omega) s_108 (by decide) fl_X3_20 rfl rfl (by omega) dX3_init_22 (fun ν4 hm_ν4 => ?_)
  have hB_ν4 : BZ ν4 := by rw [hm_ν4]; exact hB_ν3.up trivial (fun _ => rfl)
  have hu_ν4 : ∀ k j, k < 108 → ν4 k j = μ k j := fun k j hk => by rw [hm_ν4]; exact (congrFun (xup_c (by omega)) j).trans (hu_ν3 k j hk)
  have hz_ν4 : ∀ k j, 114 ≤ k → ν4 k j = 0 := fun k j hk => by rw [hm_ν4]; exact (congrFun (xup_c (by omega)) j).trans (hz_ν3 k j (by omega))
  refine r_vret hL dX3_init_25 rfl (hK _ _ ⟨rf2, rfl, fun k j hk => ?_, fun k j h0 h1 => ?_, fun k j hk => hg2 k j (by omega), fun k j hk => hz_ν4 k j (by omega), hB_ν4, hu_ν4, (fun h => by omega), (fun h => by omega)⟩)
  · rw [hrf2, congrFun (xup_c (by omega)) j]
    exact hl1 k j (by omega)
  · by_cases e : k = 108
    · subst e
      rw [hrf2, show xRF 108 j = xgl [(109 : Int)] j from rfl]
      by_cases hj : j = 0
      · subst hj; simp [xup, xgl]
      · rw [xgl_out (by simp only [List.length_cons, List.length_nil]; omega), xup_j hj, hl1 _ j (by omega)]; exact hf _ j (by omega)
    · rw [hrf2, congrFun (xup_c e) j]
      exact hm1 k j (by omega) (by omega)

set_option maxHeartbeats 4000000 in
set_option maxRecDepth 20000 in
theorem m_X3_init_114 {K : Option xV → xW → xM → Prop} {μ : xM} (rf : Nat → Int → Int) (hC : CP 114 rf μ) (hK : ∀ w' μ', CK 114 120 rf μ w' μ' → K none w' μ') : xMet yX3_init cX3_init 1 none 2 46 5 34 [xR 114] (115, xSH, rf) μ K := by
  obtain ⟨hf, hz, hB⟩ := hC
  refine xMet.go RX3 "<init>" rfl rfl (by decide) [some (xR 114)] (Nat.le_of_ble_eq_true rfl) rfl (fun X hL => ?_)
  have hu : ∀ k j, k < 114 → μ k j = μ k j := fun _ _ _ => rfl
  refine r_aload_n hL (x := 114) dX3_init_0 rfl ?_
  refine r_objInit hL dX3_init_1 ml_X3_1 im_Lib_objectInit kd_Lib_objectInit ⟨Nat.le_of_ble_eq_true rfl, Nat.le_of_ble_eq_true rfl⟩ ?_
  refine r_aload_n hL (x := 114) dX3_init_4 rfl ?_
  refine r_new hL xcl5 dX3_init_5 kk_X3_7 in_RX5 it_TaleTypes_State df_5 s_115 (fun j => hf (115) j (by omega)) (fun j => hz (115) j (by omega)) (show 114 < 115 ∧ True from ⟨by omega, trivial⟩) (show 114 < 115 ∧ True from ⟨by omega, trivial⟩) ⟨Nat.le_of_ble_eq_true rfl, Nat.le_of_ble_eq_true rfl⟩ ?_
  show X (1) (6) (116, xSH, rf) μ 8 [some (xR 114)] [xR 115, xR 114]
  refine r_dup hL dX3_init_8 rfl ?_
  refine r_callI hL (st := [xR 115, xR 114]) (k := 115) (m_X5_init (μ := μ) 115 (by decide) rf ⟨fun k j hk => hf k j (by omega), fun k j hk => hz k j (by omega), hB⟩ (fun wn1 νn1 hCK1 => ⟨rfl, ?_⟩)) ce_yX5_init rfl im_yX5_init ml_X3_9 dX3_init_9 (show 115 < 116 ∧ 114 < 116 ∧ True from ⟨by omega, by omega, trivial⟩) (show 114 < 116 ∧ True from ⟨by omega, trivial⟩) (Nat.le_of_ble_eq_true rfl) ⟨Nat.le_of_ble_eq_true rfl, Nat.le_of_ble_eq_true rfl⟩ ⟨Nat.le_of_ble_eq_true rfl, Nat.le_of_ble_eq_true rfl⟩
  obtain ⟨rg1, rfl, hl1, hm1, hf1, hz1, hB1, hp1, hca1, hcb1⟩ := hCK1
  have hu1 : ∀ k j, k < 114 → νn1 k j = μ k j := fun k j hk => (hp1 k j (by omega)).trans (hu k j hk)
  show X (5) (34) (120, xSH, rg1) νn1 12 [some (xR 114)] [xR 115, xR 114]
  refine r_putr hL xcl3 0 (j' := 0) rfl (by show _ < _; omega) s_114 (by decide) fw_X3_10 rfl rfl (by decide) (fun a => ⟨rfl, rfl⟩) (by show _ < _; omega) dX3_init_12 ?_
  obtain ⟨rf2, hrf2⟩ : ∃ r, r = xup rg1 114 0 (115 : Int) := ⟨_, rfl⟩
  show X (5) (34) (120, xSH, (xup rg1 114 0 (115 : Int))) νn1 15 [some (xR 114)] []
  rw [← hrf2]
  have hg2 : ∀ k j, 120 ≤ k → rf2 k j = -1 := fun k j hk => by rw [hrf2]; exact (congrFun (xup_c (by omega)) j).trans (hf1 k j (by omega))
  refine r_aload_n hL (x := 114) dX3_init_15 rfl ?_
  refine r_iconst hL dX3_init_16 ?_
  refine r_puti hL xcl3 1 (j' := 1) rfl (by show _ < _; omega) s_114 (by decide) fl_X3_16 rfl rfl (by omega) dX3_init_17 (fun ν3 hm_ν3 => ?_)
  have hB_ν3 : BZ ν3 := by rw [hm_ν3]; exact hB1.up trivial (fun _ => rfl)
  have hu_ν3 : ∀ k j, k < 114 → ν3 k j = μ k j := fun k j hk => by rw [hm_ν3]; exact (congrFun (xup_c (by omega)) j).trans (hu1 k j hk)
  have hz_ν3 : ∀ k j, 120 ≤ k → ν3 k j = 0 := fun k j hk => by rw [hm_ν3]; exact (congrFun (xup_c (by omega)) j).trans (hz1 k j (by omega))
  refine r_aload_n hL (x := 114) dX3_init_20 rfl ?_
  refine r_iconst hL dX3_init_21 ?_
  refine r_putz hL xcl3 2 (j' := 2) rfl (by show _ < _; omega) s_114 (by decide) fl_X3_20 rfl rfl (by omega) dX3_init_22 (fun ν4 hm_ν4 => ?_)
  have hB_ν4 : BZ ν4 := by rw [hm_ν4]; exact hB_ν3.up trivial (fun _ => rfl)
  have hu_ν4 : ∀ k j, k < 114 → ν4 k j = μ k j := fun k j hk => by rw [hm_ν4]; exact (congrFun (xup_c (by omega)) j).trans (hu_ν3 k j hk)
  have hz_ν4 : ∀ k j, 120 ≤ k → ν4 k j = 0 := fun k j hk => by rw [hm_ν4]; exact (congrFun (xup_c (by omega)) j).trans (hz_ν3 k j (by omega))
  refine r_vret hL dX3_init_25 rfl (hK _ _ ⟨rf2, rfl, fun k j hk => ?_, fun k j h0 h1 => ?_, fun k j hk => hg2 k j (by omega), fun k j hk => hz_ν4 k j (by omega), hB_ν4, hu_ν4, (fun h => by omega), (fun h => by omega)⟩)
  · rw [hrf2, congrFun (xup_c (by omega)) j]
    exact hl1 k j (by omega)
  · by_cases e : k = 114
    · subst e
      rw [hrf2, show xRF 114 j = xgl [(115 : Int)] j from rfl]
      by_cases hj : j = 0
      · subst hj; simp [xup, xgl]
      · rw [xgl_out (by simp only [List.length_cons, List.length_nil]; omega), xup_j hj, hl1 _ j (by omega)]; exact hf _ j (by omega)
    · rw [hrf2, congrFun (xup_c e) j]
      exact hm1 k j (by omega) (by omega)

set_option maxHeartbeats 4000000 in
set_option maxRecDepth 20000 in
theorem m_X1_init {K : Option xV → xW → xM → Prop} {μ : xM} (rf : Nat → Int → Int) (hC : CP 6 rf μ) (hK : ∀ w' μ', CK 6 88 rf μ w' μ' → K none w' μ') : xMet yX1_init cX1_init 2 none 2 46 81 560 [xR 6] (7, xSH, rf) μ K := by
  obtain ⟨hf, hz, hB⟩ := hC
  refine xMet.go RX1 "<init>" rfl rfl (by decide) [some (xR 6), none] (Nat.le_of_ble_eq_true rfl) rfl (fun X hL => ?_)
  have hu : ∀ k j, k < 6 → μ k j = μ k j := fun _ _ _ => rfl
  refine r_aload_n hL (x := 6) dX1_init_0 rfl ?_
  refine r_objInit hL dX1_init_1 ml_X1_3 im_Lib_objectInit kd_Lib_objectInit ⟨Nat.le_of_ble_eq_true rfl, Nat.le_of_ble_eq_true rfl⟩ ?_
  refine r_aload_n hL (x := 6) dX1_init_4 rfl ?_
  refine r_bipush hL dX1_init_5 (by decide) ?_
  refine r_newq hL 0 (nn := 16) dX1_init_7 kk_X1_9 ao_Jvm_ClassFile_FieldType_object_TaleTypes_State (Or.inl ⟨rfl, rfl⟩) rfl (by decide) s_7 (fun j => hf (7) j (by omega)) (fun j => hz (7) j (by omega)) (show 6 < 7 ∧ True from ⟨by omega, trivial⟩) (show 6 < 7 ∧ True from ⟨by omega, trivial⟩) ⟨Nat.le_of_ble_eq_true rfl, Nat.le_of_ble_eq_true rfl⟩ ?_
  show X (1) (16) (8, xSH, rf) μ 10 [some (xR 6), none] [xR 7, xR 6]
  refine r_putr hL xcl1 0 (j' := 0) rfl (by show _ < _; omega) s_6 (by decide) fw_X1_11 rfl rfl (by decide) (fun a => ⟨rfl, rfl⟩) (by show _ < _; omega) dX1_init_10 ?_
  obtain ⟨rf1, hrf1⟩ : ∃ r, r = xup rf 6 0 (7 : Int) := ⟨_, rfl⟩
  show X (1) (16) (8, xSH, (xup rf 6 0 (7 : Int))) μ 13 [some (xR 6), none] []
  rw [← hrf1]
  have hg1 : ∀ k j, 8 ≤ k → rf1 k j = -1 := fun k j hk => by rw [hrf1]; exact (congrFun (xup_c (by omega)) j).trans (hf k j (by omega))
  refine r_aload_n hL (x := 6) dX1_init_13 rfl ?_
  refine r_iconst hL dX1_init_14 ?_
  refine r_puti hL xcl1 1 (j' := 1) rfl (by show _ < _; omega) s_6 (by decide) fl_X1_17 rfl rfl (by omega) dX1_init_15 (fun ν2 hm_ν2 => ?_)
  have hB_ν2 : BZ ν2 := by rw [hm_ν2]; exact hB.up (by show ((1 : Int) = 1 → 0 ≤ 0 ∧ 0 ≤ 16) ∧ ((1 : Int) = 2 → 0 ≤ 0 ∧ 0 ≤ 15); omega) (fun _ => rfl)
  have hu_ν2 : ∀ k j, k < 6 → ν2 k j = μ k j := fun k j hk => by rw [hm_ν2]; exact (congrFun (xup_c (by omega)) j).trans (hu k j hk)
  have hz_ν2 : ∀ k j, 8 ≤ k → ν2 k j = 0 := fun k j hk => by rw [hm_ν2]; exact (congrFun (xup_c (by omega)) j).trans (hz k j (by omega))
  refine r_aload_n hL (x := 6) dX1_init_18 rfl ?_
  refine r_iconst hL dX1_init_19 ?_
  refine r_puti hL xcl1 2 (j' := 2) rfl (by show _ < _; omega) s_6 (by decide) fl_X1_21 rfl rfl (by omega) dX1_init_20 (fun ν3 hm_ν3 => ?_)
  have hB_ν3 : BZ ν3 := by rw [hm_ν3]; exact hB_ν2.up (by show ((2 : Int) = 1 → 0 ≤ 0 ∧ 0 ≤ 16) ∧ ((2 : Int) = 2 → 0 ≤ 0 ∧ 0 ≤ 15); omega) (fun _ => rfl)
  have hu_ν3 : ∀ k j, k < 6 → ν3 k j = μ k j := fun k j hk => by rw [hm_ν3]; exact (congrFun (xup_c (by omega)) j).trans (hu_ν2 k j hk)
  have hz_ν3 : ∀ k j, 8 ≤ k → ν3 k j = 0 := fun k j hk => by rw [hm_ν3]; exact (congrFun (xup_c (by omega)) j).trans (hz_ν2 k j (by omega))
  refine r_iconst hL dX1_init_23 ?_
  refine r_istore_n hL (lo' := [some (xR 6), some (xI 0)]) dX1_init_24 (by decide) rfl ?_
  have lp : ∀ (m i : Nat), m + i = 16 → ∀ (r : Nat → Int → Int) (ν : xM), (∀ k j, k < 6 → r k j = rf k j) → (∀ j, r 6 j = xRF 6 j) → (∀ j, r 7 j = if 0 ≤ j ∧ j < (i : Int) then 8 + 5 * j else -1) → (∀ k j, 8 ≤ k → k < 8 + 5 * i → r k j = xRF k j) → (∀ k j, 8 + 5 * i ≤ k → r k j = -1) → (∀ k j, 8 + 5 * i ≤ k → ν k j = 0) → BZ ν → (∀ k j, k < 6 → ν k j = μ k j) → X (1 + 5 * i) (16 + 34 * i) (8 + 5 * i, xSH, r) ν 25 [some (xR 6), some (xI (i : Int))] [] := by
    intro m
    induction m with
    | zero =>
      intro i hi r ν h1 h2 h3 h4 h5 h6 h7 h8
      have hi : i = 16 := by omega
      subst hi
      refine r_iload_n hL (x := ((16 : Nat) : Int)) dX1_init_25 rfl ?_
      refine r_bipush hL dX1_init_26 (by decide) ?_
      refine r_icmp_ge hL (tgt := 50) dX1_init_28 (by decide) (by omega) (by omega) (fun c28 => ?_) (fun c28 => absurd (by omega) c28)
      refine r_vret hL dX1_init_50 rfl (hK _ _ ⟨r, rfl, h1, fun k j a b => ?_, fun k j a => h5 k j (by omega), fun k j a => h6 k j (by omega), h7, h8, fun h => by omega, fun h => by omega⟩)
      by_cases e6 : k = 6
      · rw [e6]; exact h2 j
      · by_cases e7 : k = 7
        · rw [e7, h3, show xRF 7 j = xgl [8, 13, 18, 23, 28, 33, 38, 43, 48, 53, 58, 63, 68, 73, 78, 83] j from rfl]
          by_cases h : 0 ≤ j ∧ j < 16
          · rcases (show j = 0 ∨ j = 1 ∨ j = 2 ∨ j = 3 ∨ j = 4 ∨ j = 5 ∨ j = 6 ∨ j = 7 ∨ j = 8 ∨ j = 9 ∨ j = 10 ∨ j = 11 ∨ j = 12 ∨ j = 13 ∨ j = 14 ∨ j = 15 by omega) with h | h | h | h | h | h | h | h | h | h | h | h | h | h | h | h <;> subst h <;> rfl
          · rw [if_neg (by omega), xgl_out (by simp only [List.length_cons, List.length_nil]; omega)]
        · exact h4 k j (by omega) (by omega)
    | succ m ih =>
      intro i hi r ν h1 h2 h3 h4 h5 h6 h7 h8
      have hi16 : i < 16 := by omega
      obtain ⟨c, hc, hcq, hce⟩ := f_7b (j := (i : Int)) (by omega) (by omega)
      have hce : c = 8 + 5 * i := by rw [hce]; simp
      subst hce
      have hsc := (st_sh _ hc).1
      refine r_iload_n hL (x := (i : Int)) dX1_init_25 rfl ?_
      refine r_bipush hL dX1_init_26 (by decide) ?_
      refine r_icmp_ge hL (tgt := 50) dX1_init_28 (by decide) (by omega) (by omega) (fun c28 => absurd c28 (by omega)) (fun c28 => ?_)
      refine r_aload_n hL (x := 6) dX1_init_31 rfl ?_
      refine r_getr hL xcl1 0 (q := 7) (by show _ < _; omega) s_6 (by decide) fl_X1_11 (by decide) (by show r 6 0 = _; rw [h2]; exact f_6_0) dX1_init_32 ?_
      refine r_iload_n hL (x := (i : Int)) dX1_init_35 rfl ?_
      refine r_new hL xcl5 dX1_init_36 kk_X1_9 in_RX5 it_TaleTypes_State df_5 hsc (fun j => h5 (8 + 5 * i) j (Nat.le_refl _)) (fun j => h6 (8 + 5 * i) j (Nat.le_refl _)) (show 7 < 8 + 5 * i ∧ True from ⟨by omega, trivial⟩) (show 6 < 8 + 5 * i ∧ True from ⟨by omega, trivial⟩) ⟨by show 1 + 5 * i + 1 ≤ 81; omega, by show 16 + 34 * i + 6 ≤ 560; omega⟩ ?_
      show X (1 + 5 * i + 1) (16 + 34 * i + 6) (8 + 5 * i + 1, xSH, r) ν 39 [some (xR 6), some (xI (i : Int))] [xR (8 + 5 * i), xI (i : Int), xR 7]
      refine r_dup hL dX1_init_39 rfl ?_
      refine r_callI hL (st := [xR (8 + 5 * i), xI (i : Int), xR 7]) (k := 8 + 5 * i) (m_X5_init (μ := ν) (8 + 5 * i) hc r ⟨fun k j hk => h5 k j hk, fun k j hk => h6 k j hk, h7⟩ (fun wn νn hCK => ⟨rfl, ?_⟩)) ce_yX5_init rfl im_yX5_init ml_X1_24 dX1_init_40 (show 8 + 5 * i < 8 + 5 * i + 1 ∧ 7 < 8 + 5 * i + 1 ∧ True from ⟨by omega, by omega, trivial⟩) (show 6 < 8 + 5 * i + 1 ∧ True from ⟨by omega, trivial⟩) (Nat.le_of_ble_eq_true rfl) ⟨Nat.le_of_ble_eq_true rfl, Nat.le_of_ble_eq_true rfl⟩ ⟨by show 1 + 5 * i + 1 + 4 ≤ 81; omega, by show 16 + 34 * i + 6 + 28 ≤ 560; omega⟩
      obtain ⟨rg, rfl, g1, g2, g3, g4, g5, g6, g7, g8⟩ := hCK
      show X (1 + 5 * i + 1 + 4) (16 + 34 * i + 6 + 28) (8 + 5 * i + 5, xSH, rg) νn 43 [some (xR 6), some (xI (i : Int))] [xR (8 + 5 * i), xI (i : Int), xR 7]
      refine r_aast hL 0 (n := 16) xcl5 dX1_init_43 (by show _ < _; omega) s_7 (Or.inl ⟨rfl, rfl⟩) (by decide) (by omega) (by omega) (by show _ < _; omega) hsc ?_
      show X (1 + 5 * i + 1 + 4) (16 + 34 * i + 6 + 28) (8 + 5 * i + 5, xSH, xup rg 7 (i : Int) ((8 + 5 * i : Nat) : Int)) νn 44 [some (xR 6), some (xI (i : Int))] []
      refine r_iinc hL (x := (i : Int)) (lo' := [some (xR 6), some (xI ((i : Int) + 1))]) dX1_init_44 (by decide) rfl rfl ?_
      refine r_goto hL (tgt := 25) dX1_init_47 (by decide) ?_
      rw [show 1 + 5 * i + 1 + 4 = 1 + 5 * (i + 1) by omega, show 16 + 34 * i + 6 + 28 = 16 + 34 * (i + 1) by omega, show 8 + 5 * i + 5 = 8 + 5 * (i + 1) by omega, show ((i : Int) + 1) = ((i + 1 : Nat) : Int) by omega]
      refine ih (i + 1) (by omega) _ _ (fun k j hk => ?_) (fun j => ?_) (fun j => ?_) (fun k j a b => ?_) (fun k j a => ?_) (fun k j a => g4 k j (by omega)) g5 (fun k j a => (g6 k j (by omega)).trans (h8 k j a))
      · rw [congrFun (xup_c (by omega)) j, g1 k j (by omega)]; exact h1 k j hk
      · rw [congrFun (xup_c (by decide)) j, g1 6 j (by omega)]; exact h2 j
      · by_cases e : j = (i : Int)
        · rw [e, xup_s, if_pos (by omega)]; omega
        · rw [xup_j e, g1 7 j (by omega), h3 j]
          by_cases h : 0 ≤ j ∧ j < (i : Int)
          · rw [if_pos h, if_pos (by omega)]
          · rw [if_neg h, if_neg (by omega)]
      · by_cases h : k < 8 + 5 * i
        · rw [congrFun (xup_c (by omega)) j, g1 k j h]; exact h4 k j a h
        · rw [congrFun (xup_c (by omega)) j]; exact g2 k j (by omega) (by omega)
      · rw [congrFun (xup_c (by omega)) j]; exact g3 k j (by omega)
  refine lp 16 0 (by omega) _ _ (fun k j hk => by rw [hrf1]; exact congrFun (xup_c (by omega)) j) (fun j => ?_) (fun j => ?_) (fun k j a b => by omega) (fun k j hk => hg1 k j (by omega)) (fun k j hk => hz_ν3 k j (by omega)) hB_ν3 hu_ν3
  · rw [hrf1, show xRF 6 j = xgl [7] j from rfl]
    by_cases hj : j = 0
    · subst hj; simp [xup, xgl]
    · rw [xgl_out (by simp only [List.length_cons, List.length_nil]; omega), xup_j hj]; exact hf 6 j (by omega)
  · rw [if_neg (by omega), hrf1, congrFun (xup_c (by decide)) j]; exact hf 7 j (by omega)

set_option maxHeartbeats 4000000 in
set_option maxRecDepth 20000 in
theorem m_X7_init {K : Option xV → xW → xM → Prop} {μ : xM} (rf : Nat → Int → Int) (hC : CP 0 rf μ) (hK : ∀ w' μ', CK 0 120 rf μ w' μ' → K none w' μ') : xMet yX7_init cX7_init 2 none 3 67 119 1261 [xR 0] (1, xSH, rf) μ K := by
  obtain ⟨hf, hz, hB⟩ := hC
  refine xMet.go RX7 "<init>" rfl rfl (by decide) [some (xR 0), none] (Nat.le_of_ble_eq_true rfl) rfl (fun X hL => ?_)
  have hu : ∀ k j, k < 0 → μ k j = μ k j := fun _ _ _ => rfl
  have A0 : ∀ k j, 1 ≤ k → k < 1 → k ≠ 107 → rf k j = xRF k j := fun k j a b => by omega
  have B0 : ∀ j, rf 0 j = if 0 ≤ j ∧ j < 0 then xRF 0 j else -1 := fun j => by rw [if_neg (by omega)]; exact hf 0 j (by omega)
  refine r_aload_n hL (x := 0) dX7_init_0 rfl ?_
  refine r_objInit hL dX7_init_1 ml_X7_1 im_Lib_objectInit kd_Lib_objectInit ⟨Nat.le_of_ble_eq_true rfl, Nat.le_of_ble_eq_true rfl⟩ ?_
  refine r_aload_n hL (x := 0) dX7_init_4 rfl ?_
  refine r_new hL xcl5 dX7_init_5 kk_X7_7 in_RX5 it_TaleTypes_State df_5 s_1 (fun j => hf (1) j (by omega)) (fun j => hz (1) j (by omega)) (show 0 < 1 ∧ True from ⟨by omega, trivial⟩) (show 0 < 1 ∧ True from ⟨by omega, trivial⟩) ⟨Nat.le_of_ble_eq_true rfl, Nat.le_of_ble_eq_true rfl⟩ ?_
  show X (1) (6) (2, xSH, rf) μ 8 [some (xR 0), none] [xR 1, xR 0]
  refine r_dup hL dX7_init_8 rfl ?_
  refine r_callI hL (st := [xR 1, xR 0]) (k := 1) (m_X5_init (μ := μ) 1 (by decide) rf ⟨fun k j hk => hf k j (by omega), fun k j hk => hz k j (by omega), hB⟩ (fun wn1 νn1 hCK1 => ⟨rfl, ?_⟩)) ce_yX5_init rfl im_yX5_init ml_X7_9 dX7_init_9 (show 1 < 2 ∧ 0 < 2 ∧ True from ⟨by omega, by omega, trivial⟩) (show 0 < 2 ∧ True from ⟨by omega, trivial⟩) (Nat.le_of_ble_eq_true rfl) ⟨Nat.le_of_ble_eq_true rfl, Nat.le_of_ble_eq_true rfl⟩ ⟨Nat.le_of_ble_eq_true rfl, Nat.le_of_ble_eq_true rfl⟩
  obtain ⟨rg1, rfl, hl1, hm1, hf1, hz1, hB1, hp1, hca1, hcb1⟩ := hCK1
  have hu1 : ∀ k j, k < 0 → νn1 k j = μ k j := fun k j hk => (hp1 k j (by omega)).trans (hu k j hk)
  have cs1 : cst νn1 := hca1 (by omega)
  show X (5) (34) (6, xSH, rg1) νn1 12 [some (xR 0), none] [xR 1, xR 0]
  have B1 : ∀ j, rg1 0 j = if 0 ≤ j ∧ j < 0 then xRF 0 j else -1 := fun j => (hl1 0 j (by omega)).trans (B0 j)
  have A1 : ∀ k j, 1 ≤ k → k < 6 → k ≠ 107 → rg1 k j = xRF k j := fun k j a b c => by by_cases h : k < 1; exact (hl1 k j h).trans (A0 k j a (by omega) c); exact hm1 k j (by omega) b
  refine r_putr hL xcl7 0 (j' := 0) rfl (by show _ < _; omega) s_0 (by decide) fw_X7_10 rfl rfl (by decide) (fun a => ⟨rfl, rfl⟩) (by show _ < _; omega) dX7_init_12 ?_
  obtain ⟨rf2, hrf2⟩ : ∃ r, r = xup rg1 0 0 (1 : Int) := ⟨_, rfl⟩
  show X (5) (34) (6, xSH, (xup rg1 0 0 (1 : Int))) νn1 15 [some (xR 0), none] []
  rw [← hrf2]
  have hg2 : ∀ k j, 6 ≤ k → rf2 k j = -1 := fun k j hk => by rw [hrf2]; exact (congrFun (xup_c (by omega)) j).trans (hf1 k j (by omega))
  have Bp2 : ∀ j, rf2 0 j = if 0 ≤ j ∧ j < 1 then xRF 0 j else -1 := by
    intro j
    rw [hrf2]
    by_cases e : j = 0
    · subst e; rw [xup_s, if_pos (by omega)]; rfl
    · rw [xup_j e, B1 j]
      by_cases h : 0 ≤ j ∧ j < 0
      · rw [if_pos h, if_pos (by omega)]
      · rw [if_neg h, if_neg (by omega)]
  have Ap2 : ∀ k j, 1 ≤ k → k < 6 → k ≠ 107 → rf2 k j = xRF k j := fun k j a b c => by rw [hrf2, congrFun (xup_c (by omega)) j]; exact A1 k j a (by omega) c
  refine r_aload_n hL (x := 0) dX7_init_15 rfl ?_
  refine r_new hL xcl1 dX7_init_16 kk_X7_16 in_RX1 it_TaleTypes_Deeds df_1 s_6 (fun j => hg2 (6) j (by omega)) (fun j => hz1 (6) j (by omega)) (show 0 < 6 ∧ True from ⟨by omega, trivial⟩) (show 0 < 6 ∧ True from ⟨by omega, trivial⟩) ⟨Nat.le_of_ble_eq_true rfl, Nat.le_of_ble_eq_true rfl⟩ ?_
  show X (6) (37) (7, xSH, rf2) νn1 19 [some (xR 0), none] [xR 6, xR 0]
  refine r_dup hL dX7_init_19 rfl ?_
  refine r_callI hL (st := [xR 6, xR 0]) (k := 6) (m_X1_init (μ := νn1)  rf2 ⟨fun k j hk => hg2 k j (by omega), fun k j hk => hz1 k j (by omega), hB1⟩ (fun wn3 νn3 hCK3 => ⟨rfl, ?_⟩)) ce_yX1_init rfl im_yX1_init ml_X7_18 dX7_init_20 (show 6 < 7 ∧ 0 < 7 ∧ True from ⟨by omega, by omega, trivial⟩) (show 0 < 7 ∧ True from ⟨by omega, trivial⟩) (Nat.le_of_ble_eq_true rfl) ⟨Nat.le_of_ble_eq_true rfl, Nat.le_of_ble_eq_true rfl⟩ ⟨Nat.le_of_ble_eq_true rfl, Nat.le_of_ble_eq_true rfl⟩
  obtain ⟨rg3, rfl, hl3, hm3, hf3, hz3, hB3, hp3, hca3, hcb3⟩ := hCK3
  have hu3 : ∀ k j, k < 0 → νn3 k j = μ k j := fun k j hk => (hp3 k j (by omega)).trans (hu1 k j hk)
  have cs3 : cst νn3 := cs1.keep (fun j => hp3 4 j (by omega))
  show X (87) (597) (88, xSH, rg3) νn3 23 [some (xR 0), none] [xR 6, xR 0]
  have B3 : ∀ j, rg3 0 j = if 0 ≤ j ∧ j < 1 then xRF 0 j else -1 := fun j => (hl3 0 j (by omega)).trans (Bp2 j)
  have A3 : ∀ k j, 1 ≤ k → k < 88 → k ≠ 107 → rg3 k j = xRF k j := fun k j a b c => by by_cases h : k < 6; exact (hl3 k j h).trans (Ap2 k j a (by omega) c); exact hm3 k j (by omega) b
  refine r_putr hL xcl7 1 (j' := 1) rfl (by show _ < _; omega) s_0 (by decide) fw_X7_19 rfl rfl (by decide) (fun a => ⟨rfl, rfl⟩) (by show _ < _; omega) dX7_init_23 ?_
  obtain ⟨rf4, hrf4⟩ : ∃ r, r = xup rg3 0 1 (6 : Int) := ⟨_, rfl⟩
  show X (87) (597) (88, xSH, (xup rg3 0 1 (6 : Int))) νn3 26 [some (xR 0), none] []
  rw [← hrf4]
  have hg4 : ∀ k j, 88 ≤ k → rf4 k j = -1 := fun k j hk => by rw [hrf4]; exact (congrFun (xup_c (by omega)) j).trans (hf3 k j (by omega))
  have Bp4 : ∀ j, rf4 0 j = if 0 ≤ j ∧ j < 2 then xRF 0 j else -1 := by
    intro j
    rw [hrf4]
    by_cases e : j = 1
    · subst e; rw [xup_s, if_pos (by omega)]; rfl
    · rw [xup_j e, B3 j]
      by_cases h : 0 ≤ j ∧ j < 1
      · rw [if_pos h, if_pos (by omega)]
      · rw [if_neg h, if_neg (by omega)]
  have Ap4 : ∀ k j, 1 ≤ k → k < 88 → k ≠ 107 → rf4 k j = xRF k j := fun k j a b c => by rw [hrf4, congrFun (xup_c (by omega)) j]; exact A3 k j a (by omega) c
  refine r_aload_n hL (x := 0) dX7_init_26 rfl ?_
  refine r_new hL xcl0 dX7_init_27 kk_X7_23 in_RX0 it_TaleTypes_Book df_0 s_88 (fun j => hg4 (88) j (by omega)) (fun j => hz3 (88) j (by omega)) (show 0 < 88 ∧ True from ⟨by omega, trivial⟩) (show 0 < 88 ∧ True from ⟨by omega, trivial⟩) ⟨Nat.le_of_ble_eq_true rfl, Nat.le_of_ble_eq_true rfl⟩ ?_
  show X (88) (601) (89, xSH, rf4) νn3 30 [some (xR 0), none] [xR 88, xR 0]
  refine r_dup hL dX7_init_30 rfl ?_
  refine r_callIN hL (st := [xR 88, xR 0]) (k := 88) (m_X0_init (μ := νn3)  rf4 ⟨fun k j hk => hg4 k j (by omega), fun k j hk => hz3 k j (by omega), hB3⟩ (fun wn5 νn5 hCK5 => ⟨rfl, ?_⟩)) ce_yX0_init rfl im_yX0_init ml_X7_25 dX7_init_31 (show 88 < 89 ∧ 0 < 89 ∧ True from ⟨by omega, by omega, trivial⟩) (show 0 < 89 ∧ True from ⟨by omega, trivial⟩) (Nat.le_of_ble_eq_true rfl) ⟨Nat.le_of_ble_eq_true rfl, Nat.le_of_ble_eq_true rfl⟩ ⟨Nat.le_of_ble_eq_true rfl, Nat.le_of_ble_eq_true rfl⟩
  obtain ⟨rg5, rfl, hl5, hm5, hf5, hz5, hB5, hp5, hca5, hcb5⟩ := hCK5
  have hu5 : ∀ k j, k < 0 → νn5 k j = μ k j := fun k j hk => (hp5 k j (by omega)).trans (hu3 k j hk)
  have cs5 : cst νn5 := cs3.keep (fun j => hp5 4 j (by omega))
  show X (91) (661) (92, xSH, rg5) νn5 34 [some (xR 0), none] [xR 88, xR 0]
  have B5 : ∀ j, rg5 0 j = if 0 ≤ j ∧ j < 2 then xRF 0 j else -1 := fun j => (hl5 0 j (by omega)).trans (Bp4 j)
  have A5 : ∀ k j, 1 ≤ k → k < 92 → k ≠ 107 → rg5 k j = xRF k j := fun k j a b c => by by_cases h : k < 88; exact (hl5 k j h).trans (Ap4 k j a (by omega) c); exact hm5 k j (by omega) b
  refine r_putr hL xcl7 2 (j' := 2) rfl (by show _ < _; omega) s_0 (by decide) fw_X7_26 rfl rfl (by decide) (fun a => ⟨rfl, rfl⟩) (by show _ < _; omega) dX7_init_34 ?_
  obtain ⟨rf6, hrf6⟩ : ∃ r, r = xup rg5 0 2 (88 : Int) := ⟨_, rfl⟩
  show X (91) (661) (92, xSH, (xup rg5 0 2 (88 : Int))) νn5 37 [some (xR 0), none] []
  rw [← hrf6]
  have hg6 : ∀ k j, 92 ≤ k → rf6 k j = -1 := fun k j hk => by rw [hrf6]; exact (congrFun (xup_c (by omega)) j).trans (hf5 k j (by omega))
  have Bp6 : ∀ j, rf6 0 j = if 0 ≤ j ∧ j < 3 then xRF 0 j else -1 := by
    intro j
    rw [hrf6]
    by_cases e : j = 2
    · subst e; rw [xup_s, if_pos (by omega)]; rfl
    · rw [xup_j e, B5 j]
      by_cases h : 0 ≤ j ∧ j < 2
      · rw [if_pos h, if_pos (by omega)]
      · rw [if_neg h, if_neg (by omega)]
  have Ap6 : ∀ k j, 1 ≤ k → k < 92 → k ≠ 107 → rf6 k j = xRF k j := fun k j a b c => by rw [hrf6, congrFun (xup_c (by omega)) j]; exact A5 k j a (by omega) c
  refine r_aload_n hL (x := 0) dX7_init_37 rfl ?_
  refine r_new hL xcl4 dX7_init_38 kk_X7_30 in_RX4 it_TaleTypes_Lineup df_4 s_92 (fun j => hg6 (92) j (by omega)) (fun j => hz5 (92) j (by omega)) (show 0 < 92 ∧ True from ⟨by omega, trivial⟩) (show 0 < 92 ∧ True from ⟨by omega, trivial⟩) ⟨Nat.le_of_ble_eq_true rfl, Nat.le_of_ble_eq_true rfl⟩ ?_
  show X (92) (670) (93, xSH, rf6) νn5 41 [some (xR 0), none] [xR 92, xR 0]
  refine r_dup hL dX7_init_41 rfl ?_
  refine r_callIN hL (st := [xR 92, xR 0]) (k := 92) (m_X4_init (μ := νn5)  rf6 ⟨fun k j hk => hg6 k j (by omega), fun k j hk => hz5 k j (by omega), hB5⟩ (fun wn7 νn7 hCK7 => ⟨rfl, ?_⟩)) ce_yX4_init rfl im_yX4_init ml_X7_32 dX7_init_42 (show 92 < 93 ∧ 0 < 93 ∧ True from ⟨by omega, by omega, trivial⟩) (show 0 < 93 ∧ True from ⟨by omega, trivial⟩) (Nat.le_of_ble_eq_true rfl) ⟨Nat.le_of_ble_eq_true rfl, Nat.le_of_ble_eq_true rfl⟩ ⟨Nat.le_of_ble_eq_true rfl, Nat.le_of_ble_eq_true rfl⟩
  obtain ⟨rg7, rfl, hl7, hm7, hf7, hz7, hB7, hp7, hca7, hcb7⟩ := hCK7
  have hu7 : ∀ k j, k < 0 → νn7 k j = μ k j := fun k j hk => (hp7 k j (by omega)).trans (hu5 k j hk)
  have cs7 : cst νn7 := cs5.keep (fun j => hp7 4 j (by omega))
  show X (99) (1077) (100, xSH, rg7) νn7 45 [some (xR 0), none] [xR 92, xR 0]
  have B7 : ∀ j, rg7 0 j = if 0 ≤ j ∧ j < 3 then xRF 0 j else -1 := fun j => (hl7 0 j (by omega)).trans (Bp6 j)
  have A7 : ∀ k j, 1 ≤ k → k < 100 → k ≠ 107 → rg7 k j = xRF k j := fun k j a b c => by by_cases h : k < 92; exact (hl7 k j h).trans (Ap6 k j a (by omega) c); exact hm7 k j (by omega) b
  refine r_putr hL xcl7 3 (j' := 3) rfl (by show _ < _; omega) s_0 (by decide) fw_X7_33 rfl rfl (by decide) (fun a => ⟨rfl, rfl⟩) (by show _ < _; omega) dX7_init_45 ?_
  obtain ⟨rf8, hrf8⟩ : ∃ r, r = xup rg7 0 3 (92 : Int) := ⟨_, rfl⟩
  show X (99) (1077) (100, xSH, (xup rg7 0 3 (92 : Int))) νn7 48 [some (xR 0), none] []
  rw [← hrf8]
  have hg8 : ∀ k j, 100 ≤ k → rf8 k j = -1 := fun k j hk => by rw [hrf8]; exact (congrFun (xup_c (by omega)) j).trans (hf7 k j (by omega))
  have Bp8 : ∀ j, rf8 0 j = if 0 ≤ j ∧ j < 4 then xRF 0 j else -1 := by
    intro j
    rw [hrf8]
    by_cases e : j = 3
    · subst e; rw [xup_s, if_pos (by omega)]; rfl
    · rw [xup_j e, B7 j]
      by_cases h : 0 ≤ j ∧ j < 3
      · rw [if_pos h, if_pos (by omega)]
      · rw [if_neg h, if_neg (by omega)]
  have Ap8 : ∀ k j, 1 ≤ k → k < 100 → k ≠ 107 → rf8 k j = xRF k j := fun k j a b c => by rw [hrf8, congrFun (xup_c (by omega)) j]; exact A7 k j a (by omega) c
  refine r_aload_n hL (x := 0) dX7_init_48 rfl ?_
  refine r_new hL xcl2 dX7_init_49 kk_X7_37 in_RX2 it_TaleTypes_Distances df_2 s_100 (fun j => hg8 (100) j (by omega)) (fun j => hz7 (100) j (by omega)) (show 0 < 100 ∧ True from ⟨by omega, trivial⟩) (show 0 < 100 ∧ True from ⟨by omega, trivial⟩) ⟨Nat.le_of_ble_eq_true rfl, Nat.le_of_ble_eq_true rfl⟩ ?_
  show X (100) (1078) (101, xSH, rf8) νn7 52 [some (xR 0), none] [xR 100, xR 0]
  refine r_dup hL dX7_init_52 rfl ?_
  refine r_callIN hL (st := [xR 100, xR 0]) (k := 100) (m_X2_init (μ := νn7)  rf8 ⟨fun k j hk => hg8 k j (by omega), fun k j hk => hz7 k j (by omega), hB7⟩ (fun wn9 νn9 hCK9 => ⟨rfl, ?_⟩)) ce_yX2_init rfl im_yX2_init ml_X7_39 dX7_init_53 (show 100 < 101 ∧ 0 < 101 ∧ True from ⟨by omega, by omega, trivial⟩) (show 0 < 101 ∧ True from ⟨by omega, trivial⟩) (Nat.le_of_ble_eq_true rfl) ⟨Nat.le_of_ble_eq_true rfl, Nat.le_of_ble_eq_true rfl⟩ ⟨Nat.le_of_ble_eq_true rfl, Nat.le_of_ble_eq_true rfl⟩
  obtain ⟨rg9, rfl, hl9, hm9, hf9, hz9, hB9, hp9, hca9, hcb9⟩ := hCK9
  have hu9 : ∀ k j, k < 0 → νn9 k j = μ k j := fun k j hk => (hp9 k j (by omega)).trans (hu7 k j hk)
  have cs9 : cst νn9 := cs7.keep (fun j => hp9 4 j (by omega))
  show X (101) (1142) (102, xSH, rg9) νn9 56 [some (xR 0), none] [xR 100, xR 0]
  have B9 : ∀ j, rg9 0 j = if 0 ≤ j ∧ j < 4 then xRF 0 j else -1 := fun j => (hl9 0 j (by omega)).trans (Bp8 j)
  have A9 : ∀ k j, 1 ≤ k → k < 102 → k ≠ 107 → rg9 k j = xRF k j := fun k j a b c => by by_cases h : k < 100; exact (hl9 k j h).trans (Ap8 k j a (by omega) c); exact hm9 k j (by omega) b
  refine r_putr hL xcl7 4 (j' := 4) rfl (by show _ < _; omega) s_0 (by decide) fw_X7_40 rfl rfl (by decide) (fun a => ⟨rfl, rfl⟩) (by show _ < _; omega) dX7_init_56 ?_
  obtain ⟨rf10, hrf10⟩ : ∃ r, r = xup rg9 0 4 (100 : Int) := ⟨_, rfl⟩
  show X (101) (1142) (102, xSH, (xup rg9 0 4 (100 : Int))) νn9 59 [some (xR 0), none] []
  rw [← hrf10]
  have hg10 : ∀ k j, 102 ≤ k → rf10 k j = -1 := fun k j hk => by rw [hrf10]; exact (congrFun (xup_c (by omega)) j).trans (hf9 k j (by omega))
  have Bp10 : ∀ j, rf10 0 j = if 0 ≤ j ∧ j < 5 then xRF 0 j else -1 := by
    intro j
    rw [hrf10]
    by_cases e : j = 4
    · subst e; rw [xup_s, if_pos (by omega)]; rfl
    · rw [xup_j e, B9 j]
      by_cases h : 0 ≤ j ∧ j < 4
      · rw [if_pos h, if_pos (by omega)]
      · rw [if_neg h, if_neg (by omega)]
  have Ap10 : ∀ k j, 1 ≤ k → k < 102 → k ≠ 107 → rf10 k j = xRF k j := fun k j a b c => by rw [hrf10, congrFun (xup_c (by omega)) j]; exact A9 k j a (by omega) c
  refine r_aload_n hL (x := 0) dX7_init_59 rfl ?_
  refine r_new hL xcl6 dX7_init_60 kk_X7_44 in_RX6 it_TaleTypes_Tree df_6 s_102 (fun j => hg10 (102) j (by omega)) (fun j => hz9 (102) j (by omega)) (show 0 < 102 ∧ True from ⟨by omega, trivial⟩) (show 0 < 102 ∧ True from ⟨by omega, trivial⟩) ⟨Nat.le_of_ble_eq_true rfl, Nat.le_of_ble_eq_true rfl⟩ ?_
  show X (102) (1153) (103, xSH, rf10) νn9 63 [some (xR 0), none] [xR 102, xR 0]
  refine r_dup hL dX7_init_63 rfl ?_
  refine r_callIN hL (st := [xR 102, xR 0]) (k := 102) (m_X6_init (μ := νn9)  rf10 ⟨fun k j hk => hg10 k j (by omega), fun k j hk => hz9 k j (by omega), hB9⟩ (fun wn11 νn11 hCK11 => ⟨rfl, ?_⟩)) ce_yX6_init rfl im_yX6_init ml_X7_46 dX7_init_64 (show 102 < 103 ∧ 0 < 103 ∧ True from ⟨by omega, by omega, trivial⟩) (show 0 < 103 ∧ True from ⟨by omega, trivial⟩) (Nat.le_of_ble_eq_true rfl) ⟨Nat.le_of_ble_eq_true rfl, Nat.le_of_ble_eq_true rfl⟩ ⟨Nat.le_of_ble_eq_true rfl, Nat.le_of_ble_eq_true rfl⟩
  obtain ⟨rg11, rfl, hl11, hm11, hf11, hz11, hB11, hp11, hca11, hcb11⟩ := hCK11
  have hu11 : ∀ k j, k < 0 → νn11 k j = μ k j := fun k j hk => (hp11 k j (by omega)).trans (hu9 k j hk)
  have cs11 : cst νn11 := cs9.keep (fun j => hp11 4 j (by omega))
  show X (106) (1185) (107, xSH, rg11) νn11 67 [some (xR 0), none] [xR 102, xR 0]
  have B11 : ∀ j, rg11 0 j = if 0 ≤ j ∧ j < 5 then xRF 0 j else -1 := fun j => (hl11 0 j (by omega)).trans (Bp10 j)
  have A11 : ∀ k j, 1 ≤ k → k < 107 → k ≠ 107 → rg11 k j = xRF k j := fun k j a b c => by by_cases h : k < 102; exact (hl11 k j h).trans (Ap10 k j a (by omega) c); exact hm11 k j (by omega) b
  refine r_putr hL xcl7 5 (j' := 5) rfl (by show _ < _; omega) s_0 (by decide) fw_X7_47 rfl rfl (by decide) (fun a => ⟨rfl, rfl⟩) (by show _ < _; omega) dX7_init_67 ?_
  obtain ⟨rf12, hrf12⟩ : ∃ r, r = xup rg11 0 5 (102 : Int) := ⟨_, rfl⟩
  show X (106) (1185) (107, xSH, (xup rg11 0 5 (102 : Int))) νn11 70 [some (xR 0), none] []
  rw [← hrf12]
  have hg12 : ∀ k j, 107 ≤ k → rf12 k j = -1 := fun k j hk => by rw [hrf12]; exact (congrFun (xup_c (by omega)) j).trans (hf11 k j (by omega))
  have Bp12 : ∀ j, rf12 0 j = if 0 ≤ j ∧ j < 6 then xRF 0 j else -1 := by
    intro j
    rw [hrf12]
    by_cases e : j = 5
    · subst e; rw [xup_s, if_pos (by omega)]; rfl
    · rw [xup_j e, B11 j]
      by_cases h : 0 ≤ j ∧ j < 5
      · rw [if_pos h, if_pos (by omega)]
      · rw [if_neg h, if_neg (by omega)]
  have Ap12 : ∀ k j, 1 ≤ k → k < 107 → k ≠ 107 → rf12 k j = xRF k j := fun k j a b c => by rw [hrf12, congrFun (xup_c (by omega)) j]; exact A11 k j a (by omega) c
  refine r_aload_n hL (x := 0) dX7_init_70 rfl ?_
  refine r_iconst hL dX7_init_71 ?_
  refine r_newq hL 1 (nn := 2) dX7_init_72 kk_X7_51 ao_Jvm_ClassFile_FieldType_object_TaleTypes_Image (Or.inr ⟨rfl, rfl⟩) rfl (by decide) s_107 (fun j => hg12 (107) j (by omega)) (fun j => hz11 (107) j (by omega)) (show 0 < 107 ∧ True from ⟨by omega, trivial⟩) (show 0 < 107 ∧ True from ⟨by omega, trivial⟩) ⟨Nat.le_of_ble_eq_true rfl, Nat.le_of_ble_eq_true rfl⟩ ?_
  show X (107) (1187) (108, xSH, rf12) νn11 75 [some (xR 0), none] [xR 107, xR 0]
  refine r_putr hL xcl7 6 (j' := 6) rfl (by show _ < _; omega) s_0 (by decide) fw_X7_53 rfl rfl (by decide) (fun a => ⟨rfl, rfl⟩) (by show _ < _; omega) dX7_init_75 ?_
  obtain ⟨rf13, hrf13⟩ : ∃ r, r = xup rf12 0 6 (107 : Int) := ⟨_, rfl⟩
  show X (107) (1187) (108, xSH, (xup rf12 0 6 (107 : Int))) νn11 78 [some (xR 0), none] []
  rw [← hrf13]
  have hg13 : ∀ k j, 108 ≤ k → rf13 k j = -1 := fun k j hk => by rw [hrf13]; exact (congrFun (xup_c (by omega)) j).trans (hg12 k j (by omega))
  have Bp13 : ∀ j, rf13 0 j = if 0 ≤ j ∧ j < 7 then xRF 0 j else -1 := by
    intro j
    rw [hrf13]
    by_cases e : j = 6
    · subst e; rw [xup_s, if_pos (by omega)]; rfl
    · rw [xup_j e, Bp12 j]
      by_cases h : 0 ≤ j ∧ j < 6
      · rw [if_pos h, if_pos (by omega)]
      · rw [if_neg h, if_neg (by omega)]
  have Ap13 : ∀ k j, 1 ≤ k → k < 108 → k ≠ 107 → rf13 k j = xRF k j := fun k j a b c => by rw [hrf13, congrFun (xup_c (by omega)) j]; exact Ap12 k j a (by omega) c
  have Cp13 : ∀ j, rf13 107 j = if 0 ≤ j ∧ j < 0 then 108 + 6 * j else -1 := fun j => by rw [hrf13, congrFun (xup_c (by decide)) j, if_neg (by omega)]; exact hg12 107 j (by omega)
  refine r_aload_n hL (x := 0) dX7_init_78 rfl ?_
  refine r_lconst hL (n := 0) dX7_init_79 rfl ?_
  refine r_putl hL xcl7 7 (j' := 7) rfl (by show _ < _; omega) s_0 (by decide) fl_X7_57 rfl rfl (by omega) dX7_init_80 (fun ν14 hm_ν14 => ?_)
  have hB_ν14 : BZ ν14 := by rw [hm_ν14]; exact hB11.up (by show (7 : Int) = 7 → 0 ≤ 0 ∧ 0 ≤ 47244640255; omega) (fun _ => rfl)
  have hu_ν14 : ∀ k j, k < 0 → ν14 k j = μ k j := fun k j hk => by rw [hm_ν14]; exact (congrFun (xup_c (by omega)) j).trans (hu11 k j hk)
  have cs_ν14 : cst ν14 := cs11.keep (fun j => by rw [hm_ν14]; exact congrFun (xup_c (by decide)) j)
  have hz_ν14 : ∀ k j, 108 ≤ k → ν14 k j = 0 := fun k j hk => by rw [hm_ν14]; exact (congrFun (xup_c (by omega)) j).trans (hz11 k j (by omega))
  refine r_aload_n hL (x := 0) dX7_init_83 rfl ?_
  refine r_iconst hL dX7_init_84 ?_
  refine r_puti hL xcl7 8 (j' := 8) rfl (by show _ < _; omega) s_0 (by decide) fl_X7_61 rfl rfl (by omega) dX7_init_85 (fun ν15 hm_ν15 => ?_)
  have hB_ν15 : BZ ν15 := by rw [hm_ν15]; exact hB_ν14.up (by show (8 : Int) = 7 → 0 ≤ 0 ∧ 0 ≤ 47244640255; omega) (fun _ => rfl)
  have hu_ν15 : ∀ k j, k < 0 → ν15 k j = μ k j := fun k j hk => by rw [hm_ν15]; exact (congrFun (xup_c (by omega)) j).trans (hu_ν14 k j hk)
  have cs_ν15 : cst ν15 := cs_ν14.keep (fun j => by rw [hm_ν15]; exact congrFun (xup_c (by decide)) j)
  have hz_ν15 : ∀ k j, 108 ≤ k → ν15 k j = 0 := fun k j hk => by rw [hm_ν15]; exact (congrFun (xup_c (by omega)) j).trans (hz_ν14 k j (by omega))
  refine r_aload_n hL (x := 0) dX7_init_88 rfl ?_
  refine r_iconst hL dX7_init_89 ?_
  refine r_putz hL xcl7 9 (j' := 9) rfl (by show _ < _; omega) s_0 (by decide) fl_X7_65 rfl rfl (by omega) dX7_init_90 (fun ν16 hm_ν16 => ?_)
  have hB_ν16 : BZ ν16 := by rw [hm_ν16]; exact hB_ν15.up (by show (9 : Int) = 7 → 0 ≤ 0 ∧ 0 ≤ 47244640255; omega) (fun _ => rfl)
  have hu_ν16 : ∀ k j, k < 0 → ν16 k j = μ k j := fun k j hk => by rw [hm_ν16]; exact (congrFun (xup_c (by omega)) j).trans (hu_ν15 k j hk)
  have cs_ν16 : cst ν16 := cs_ν15.keep (fun j => by rw [hm_ν16]; exact congrFun (xup_c (by decide)) j)
  have hz_ν16 : ∀ k j, 108 ≤ k → ν16 k j = 0 := fun k j hk => by rw [hm_ν16]; exact (congrFun (xup_c (by omega)) j).trans (hz_ν15 k j (by omega))
  refine r_iconst hL dX7_init_93 ?_
  refine r_istore_n hL (lo' := [some (xR 0), some (xI 0)]) dX7_init_94 (by decide) rfl ?_
  refine r_iload_n hL (x := 0) dX7_init_95 rfl ?_
  refine r_iconst hL dX7_init_96 ?_
  refine r_icmp_ge hL (tgt := 119) dX7_init_97 (by decide) (by omega) (by omega) (fun c97 => ?_) (fun c97 => ?_)
  · exact absurd c97 (by decide)
  show X (107) (1187) (108, xSH, rf13) ν16 100 [some (xR 0), some (xI 0)] []
  refine r_aload_n hL (x := 0) dX7_init_100 rfl ?_
  refine r_getr hL xcl7 6 (q := 107) (by show _ < _; omega) s_0 (by decide) fl_X7_53 (by decide) (by show rf13 0 6 = _; rw [Bp13 6, if_pos (by omega)]; exact f_0_6) dX7_init_101 ?_
  refine r_iload_n hL (x := 0) dX7_init_104 rfl ?_
  refine r_new hL xcl3 dX7_init_105 kk_X7_51 in_RX3 it_TaleTypes_Image df_3 s_108 (fun j => hg13 (108) j (by omega)) (fun j => hz_ν16 (108) j (by omega)) (show 107 < 108 ∧ True from ⟨by omega, trivial⟩) (show 0 < 108 ∧ True from ⟨by omega, trivial⟩) ⟨Nat.le_of_ble_eq_true rfl, Nat.le_of_ble_eq_true rfl⟩ ?_
  show X (108) (1190) (109, xSH, rf13) ν16 108 [some (xR 0), some (xI 0)] [xR 108, xI 0, xR 107]
  refine r_dup hL dX7_init_108 rfl ?_
  refine r_callIN hL (st := [xR 108, xI 0, xR 107]) (k := 108) (m_X3_init_108 (μ := ν16)  rf13 ⟨fun k j hk => hg13 k j (by omega), fun k j hk => hz_ν16 k j (by omega), hB_ν16⟩ (fun wn17 νn17 hCK17 => ⟨rfl, ?_⟩)) ce_yX3_init rfl im_yX3_init ml_X7_69 dX7_init_109 (show 108 < 109 ∧ 107 < 109 ∧ True from ⟨by omega, by omega, trivial⟩) (show 0 < 109 ∧ True from ⟨by omega, trivial⟩) (Nat.le_of_ble_eq_true rfl) ⟨Nat.le_of_ble_eq_true rfl, Nat.le_of_ble_eq_true rfl⟩ ⟨Nat.le_of_ble_eq_true rfl, Nat.le_of_ble_eq_true rfl⟩
  obtain ⟨rg17, rfl, hl17, hm17, hf17, hz17, hB17, hp17, hca17, hcb17⟩ := hCK17
  have hu17 : ∀ k j, k < 0 → νn17 k j = μ k j := fun k j hk => (hp17 k j (by omega)).trans (hu_ν16 k j hk)
  have cs17 : cst νn17 := cs_ν16.keep (fun j => hp17 4 j (by omega))
  show X (113) (1224) (114, xSH, rg17) νn17 112 [some (xR 0), some (xI 0)] [xR 108, xI 0, xR 107]
  have B17 : ∀ j, rg17 0 j = if 0 ≤ j ∧ j < 7 then xRF 0 j else -1 := fun j => (hl17 0 j (by omega)).trans (Bp13 j)
  have A17 : ∀ k j, 1 ≤ k → k < 114 → k ≠ 107 → rg17 k j = xRF k j := fun k j a b c => by by_cases h : k < 108; exact (hl17 k j h).trans (Ap13 k j a (by omega) c); exact hm17 k j (by omega) b
  have C17 : ∀ j, rg17 107 j = if 0 ≤ j ∧ j < 0 then 108 + 6 * j else -1 := fun j => (hl17 107 j (by omega)).trans (Cp13 j)
  refine r_aast hL 1 xcl3 dX7_init_112 (by show _ < _; omega) s_107 (Or.inr ⟨rfl, rfl⟩) (by decide) (by omega) (by omega) (by show _ < _; omega) s_108 ?_
  obtain ⟨rf18, hrf18⟩ : ∃ r, r = xup rg17 107 0 (108 : Int) := ⟨_, rfl⟩
  show X (113) (1224) (114, xSH, (xup rg17 107 0 (108 : Int))) νn17 113 [some (xR 0), some (xI 0)] []
  rw [← hrf18]
  have hg18 : ∀ k j, 114 ≤ k → rf18 k j = -1 := fun k j hk => by rw [hrf18]; exact (congrFun (xup_c (by omega)) j).trans (hf17 k j (by omega))
  have Bp18 : ∀ j, rf18 0 j = if 0 ≤ j ∧ j < 7 then xRF 0 j else -1 := fun j => by rw [hrf18, congrFun (xup_c (by decide)) j]; exact B17 j
  have Ap18 : ∀ k j, 1 ≤ k → k < 114 → k ≠ 107 → rf18 k j = xRF k j := fun k j a b c => by rw [hrf18, congrFun (xup_c c) j]; exact A17 k j a (by omega) c
  have Cp18 : ∀ j, rf18 107 j = if 0 ≤ j ∧ j < 1 then 108 + 6 * j else -1 := by
    intro j
    rw [hrf18]
    by_cases e : j = 0
    · subst e; rw [xup_s, if_pos (by omega)]; rfl
    · rw [xup_j e, C17 j]
      by_cases h : 0 ≤ j ∧ j < 0
      · rw [if_pos h, if_pos (by omega)]
      · rw [if_neg h, if_neg (by omega)]
  refine r_iinc hL (x := 0) (lo' := [some (xR 0), some (xI 1)]) dX7_init_113 (by decide) rfl rfl ?_
  refine r_goto hL (tgt := 95) dX7_init_116 (by decide) ?_
  show X (113) (1224) (114, xSH, rf18) νn17 95 [some (xR 0), some (xI 1)] []
  refine r_iload_n hL (x := 1) dX7_init_95 rfl ?_
  refine r_iconst hL dX7_init_96 ?_
  refine r_icmp_ge hL (tgt := 119) dX7_init_97 (by decide) (by omega) (by omega) (fun c97 => ?_) (fun c97 => ?_)
  · exact absurd c97 (by decide)
  show X (113) (1224) (114, xSH, rf18) νn17 100 [some (xR 0), some (xI 1)] []
  refine r_aload_n hL (x := 0) dX7_init_100 rfl ?_
  refine r_getr hL xcl7 6 (q := 107) (by show _ < _; omega) s_0 (by decide) fl_X7_53 (by decide) (by show rf18 0 6 = _; rw [Bp18 6, if_pos (by omega)]; exact f_0_6) dX7_init_101 ?_
  refine r_iload_n hL (x := 1) dX7_init_104 rfl ?_
  refine r_new hL xcl3 dX7_init_105 kk_X7_51 in_RX3 it_TaleTypes_Image df_3 s_114 (fun j => hg18 (114) j (by omega)) (fun j => hz17 (114) j (by omega)) (show 107 < 114 ∧ True from ⟨by omega, trivial⟩) (show 0 < 114 ∧ True from ⟨by omega, trivial⟩) ⟨Nat.le_of_ble_eq_true rfl, Nat.le_of_ble_eq_true rfl⟩ ?_
  show X (114) (1227) (115, xSH, rf18) νn17 108 [some (xR 0), some (xI 1)] [xR 114, xI 1, xR 107]
  refine r_dup hL dX7_init_108 rfl ?_
  refine r_callIN hL (st := [xR 114, xI 1, xR 107]) (k := 114) (m_X3_init_114 (μ := νn17)  rf18 ⟨fun k j hk => hg18 k j (by omega), fun k j hk => hz17 k j (by omega), hB17⟩ (fun wn19 νn19 hCK19 => ⟨rfl, ?_⟩)) ce_yX3_init rfl im_yX3_init ml_X7_69 dX7_init_109 (show 114 < 115 ∧ 107 < 115 ∧ True from ⟨by omega, by omega, trivial⟩) (show 0 < 115 ∧ True from ⟨by omega, trivial⟩) (Nat.le_of_ble_eq_true rfl) ⟨Nat.le_of_ble_eq_true rfl, Nat.le_of_ble_eq_true rfl⟩ ⟨Nat.le_of_ble_eq_true rfl, Nat.le_of_ble_eq_true rfl⟩
  obtain ⟨rg19, rfl, hl19, hm19, hf19, hz19, hB19, hp19, hca19, hcb19⟩ := hCK19
  have hu19 : ∀ k j, k < 0 → νn19 k j = μ k j := fun k j hk => (hp19 k j (by omega)).trans (hu17 k j hk)
  have cs19 : cst νn19 := cs17.keep (fun j => hp19 4 j (by omega))
  show X (119) (1261) (120, xSH, rg19) νn19 112 [some (xR 0), some (xI 1)] [xR 114, xI 1, xR 107]
  have B19 : ∀ j, rg19 0 j = if 0 ≤ j ∧ j < 7 then xRF 0 j else -1 := fun j => (hl19 0 j (by omega)).trans (Bp18 j)
  have A19 : ∀ k j, 1 ≤ k → k < 120 → k ≠ 107 → rg19 k j = xRF k j := fun k j a b c => by by_cases h : k < 114; exact (hl19 k j h).trans (Ap18 k j a (by omega) c); exact hm19 k j (by omega) b
  have C19 : ∀ j, rg19 107 j = if 0 ≤ j ∧ j < 1 then 108 + 6 * j else -1 := fun j => (hl19 107 j (by omega)).trans (Cp18 j)
  refine r_aast hL 1 xcl3 dX7_init_112 (by show _ < _; omega) s_107 (Or.inr ⟨rfl, rfl⟩) (by decide) (by omega) (by omega) (by show _ < _; omega) s_114 ?_
  obtain ⟨rf20, hrf20⟩ : ∃ r, r = xup rg19 107 1 (114 : Int) := ⟨_, rfl⟩
  show X (119) (1261) (120, xSH, (xup rg19 107 1 (114 : Int))) νn19 113 [some (xR 0), some (xI 1)] []
  rw [← hrf20]
  have hg20 : ∀ k j, 120 ≤ k → rf20 k j = -1 := fun k j hk => by rw [hrf20]; exact (congrFun (xup_c (by omega)) j).trans (hf19 k j (by omega))
  have Bp20 : ∀ j, rf20 0 j = if 0 ≤ j ∧ j < 7 then xRF 0 j else -1 := fun j => by rw [hrf20, congrFun (xup_c (by decide)) j]; exact B19 j
  have Ap20 : ∀ k j, 1 ≤ k → k < 120 → k ≠ 107 → rf20 k j = xRF k j := fun k j a b c => by rw [hrf20, congrFun (xup_c c) j]; exact A19 k j a (by omega) c
  have Cp20 : ∀ j, rf20 107 j = if 0 ≤ j ∧ j < 2 then 108 + 6 * j else -1 := by
    intro j
    rw [hrf20]
    by_cases e : j = 1
    · subst e; rw [xup_s, if_pos (by omega)]; rfl
    · rw [xup_j e, C19 j]
      by_cases h : 0 ≤ j ∧ j < 1
      · rw [if_pos h, if_pos (by omega)]
      · rw [if_neg h, if_neg (by omega)]
  refine r_iinc hL (x := 1) (lo' := [some (xR 0), some (xI 2)]) dX7_init_113 (by decide) rfl rfl ?_
  refine r_goto hL (tgt := 95) dX7_init_116 (by decide) ?_
  show X (119) (1261) (120, xSH, rf20) νn19 95 [some (xR 0), some (xI 2)] []
  refine r_iload_n hL (x := 2) dX7_init_95 rfl ?_
  refine r_iconst hL dX7_init_96 ?_
  refine r_icmp_ge hL (tgt := 119) dX7_init_97 (by decide) (by omega) (by omega) (fun c97 => ?_) (fun c97 => ?_)
  · skip
    refine r_vret hL dX7_init_119 rfl (hK _ _ ⟨rf20, rfl, fun k j hk => by omega, fun k j h0 h1 => ?_, fun k j hk => hg20 k j (by omega), fun k j hk => hz19 k j (by omega), hB19, hu19, (fun _ => cs19), (fun h => by omega)⟩)
    by_cases e : k = 0
    · subst e
      rw [Bp20 j]
      by_cases h : 0 ≤ j ∧ j < 7
      · rw [if_pos h]
      · rw [if_neg h, show xRF 0 j = xgl [1, 6, 88, 92, 100, 102, 107] j from rfl, xgl_out (by simp only [List.length_cons, List.length_nil]; omega)]
    · by_cases e7 : k = 107
      · subst e7
        rw [Cp20 j, show xRF 107 j = xgl [108, 114] j from rfl]
        by_cases h : 0 ≤ j ∧ j < 2
        · rcases (show j = 0 ∨ j = 1 by omega) with h | h <;> subst h <;> rfl
        · rw [if_neg h, xgl_out (by simp only [List.length_cons, List.length_nil]; omega)]
      · exact Ap20 k j (by omega) (by omega) e7
  · exact absurd (by decide) c97
end
