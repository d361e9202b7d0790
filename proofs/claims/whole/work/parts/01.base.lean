-- ===== PART A: goes FIRST, ahead of the names: the tables' words, and 'selects' of the private methods out of them =====
/-- a private method of a class that the tables say can be made, by its rows of tables_1 -/
def lw_okq (q : MethodName × Nat) : Prop := (q.1.cls ≠ "java/lang/invoke/MethodHandle" ∧ q.1.cls ≠ "java/lang/invoke/VarHandle") ∧ Cond.instantiable q.1.cls q.2 ∈ tables_1 ∧ Cond.privateMethod q.1 ∈ tables_1 ∧ Cond.instanceMethod q.1 ∈ tables_1
theorem lw_p0 : lw_okq (⟨"NarrowRows", "refresh", "()V"⟩, 10) := ⟨⟨by decide +kernel, by decide +kernel⟩, List.mem_of_getElem? (i := 18) (by decide +kernel), List.mem_of_getElem? (i := 325) (by decide +kernel), List.mem_of_getElem? (i := 326) (by decide +kernel)⟩
theorem lw_p1 : lw_okq (⟨"NarrowRows$View", "reckonRoad", "(LNarrowRows$Net;II)V"⟩, 7) := ⟨⟨by decide +kernel, by decide +kernel⟩, List.mem_of_getElem? (i := 64) (by decide +kernel), List.mem_of_getElem? (i := 335) (by decide +kernel), List.mem_of_getElem? (i := 336) (by decide +kernel)⟩
theorem lw_p2 : lw_okq (⟨"NarrowRows$Costs", "leadingOut", "(I[I)I"⟩, 1) := ⟨⟨by decide +kernel, by decide +kernel⟩, List.mem_of_getElem? (i := 192) (by decide +kernel), List.mem_of_getElem? (i := 493) (by decide +kernel), List.mem_of_getElem? (i := 494) (by decide +kernel)⟩
theorem lw_p3 : lw_okq (⟨"NarrowRows", "refusalOfSearch", "(I)I"⟩, 10) := ⟨⟨by decide +kernel, by decide +kernel⟩, List.mem_of_getElem? (i := 18) (by decide +kernel), List.mem_of_getElem? (i := 535) (by decide +kernel), List.mem_of_getElem? (i := 536) (by decide +kernel)⟩
theorem lw_p4 : lw_okq (⟨"NarrowRows", "searchFor", "(I)LNarrowRows$Search;"⟩, 10) := ⟨⟨by decide +kernel, by decide +kernel⟩, List.mem_of_getElem? (i := 18) (by decide +kernel), List.mem_of_getElem? (i := 540) (by decide +kernel), List.mem_of_getElem? (i := 541) (by decide +kernel)⟩
theorem lw_p5 : lw_okq (⟨"NarrowRows$SetSearch", "priceSets", "(I)V"⟩, 9) := ⟨⟨by decide +kernel, by decide +kernel⟩, List.mem_of_getElem? (i := 202) (by decide +kernel), List.mem_of_getElem? (i := 550) (by decide +kernel), List.mem_of_getElem? (i := 551) (by decide +kernel)⟩
theorem lw_p6 : lw_okq (⟨"NarrowRows$SetSearch", "leastRest", "(I)I"⟩, 9) := ⟨⟨by decide +kernel, by decide +kernel⟩, List.mem_of_getElem? (i := 202) (by decide +kernel), List.mem_of_getElem? (i := 555) (by decide +kernel), List.mem_of_getElem? (i := 556) (by decide +kernel)⟩
theorem lw_p7 : lw_okq (⟨"NarrowRows$SetSearch", "restWith", "(I)I"⟩, 9) := ⟨⟨by decide +kernel, by decide +kernel⟩, List.mem_of_getElem? (i := 202) (by decide +kernel), List.mem_of_getElem? (i := 562) (by decide +kernel), List.mem_of_getElem? (i := 563) (by decide +kernel)⟩
theorem lw_p8 : lw_okq (⟨"NarrowRows$SetSearch", "waysOn", "(I)I"⟩, 9) := ⟨⟨by decide +kernel, by decide +kernel⟩, List.mem_of_getElem? (i := 202) (by decide +kernel), List.mem_of_getElem? (i := 568) (by decide +kernel), List.mem_of_getElem? (i := 569) (by decide +kernel)⟩
theorem lw_p9 : lw_okq (⟨"NarrowRows$SetSearch", "isBestStep", "(II)Z"⟩, 9) := ⟨⟨by decide +kernel, by decide +kernel⟩, List.mem_of_getElem? (i := 202) (by decide +kernel), List.mem_of_getElem? (i := 572) (by decide +kernel), List.mem_of_getElem? (i := 573) (by decide +kernel)⟩
theorem lw_p10 : lw_okq (⟨"NarrowRows$TrialSearch", "tryBehind", "(II)V"⟩, 7) := ⟨⟨by decide +kernel, by decide +kernel⟩, List.mem_of_getElem? (i := 259) (by decide +kernel), List.mem_of_getElem? (i := 582) (by decide +kernel), List.mem_of_getElem? (i := 583) (by decide +kernel)⟩
theorem lw_p11 : lw_okq (⟨"NarrowRows$TrialSearch", "meet", "(I)V"⟩, 7) := ⟨⟨by decide +kernel, by decide +kernel⟩, List.mem_of_getElem? (i := 259) (by decide +kernel), List.mem_of_getElem? (i := 586) (by decide +kernel), List.mem_of_getElem? (i := 587) (by decide +kernel)⟩
theorem lw_p12 : lw_okq (⟨"NarrowRows$SetSearch", "waysWith", "(II)I"⟩, 9) := ⟨⟨by decide +kernel, by decide +kernel⟩, List.mem_of_getElem? (i := 202) (by decide +kernel), List.mem_of_getElem? (i := 616) (by decide +kernel), List.mem_of_getElem? (i := 617) (by decide +kernel)⟩
theorem lw_p13 : lw_okq (⟨"NarrowRows", "improve", "(I)Z"⟩, 10) := ⟨⟨by decide +kernel, by decide +kernel⟩, List.mem_of_getElem? (i := 18) (by decide +kernel), List.mem_of_getElem? (i := 641) (by decide +kernel), List.mem_of_getElem? (i := 642) (by decide +kernel)⟩
theorem lw_p14 : lw_okq (⟨"NarrowRows", "costWithMove", "(III)I"⟩, 10) := ⟨⟨by decide +kernel, by decide +kernel⟩, List.mem_of_getElem? (i := 18) (by decide +kernel), List.mem_of_getElem? (i := 645) (by decide +kernel), List.mem_of_getElem? (i := 646) (by decide +kernel)⟩
theorem lw_p15 : lw_okq (⟨"NarrowRows", "isWall", "(II)Z"⟩, 10) := ⟨⟨by decide +kernel, by decide +kernel⟩, List.mem_of_getElem? (i := 18) (by decide +kernel), List.mem_of_getElem? (i := 659) (by decide +kernel), List.mem_of_getElem? (i := 660) (by decide +kernel)⟩
def lw_privs_1 : List (MethodName × Nat) := [(⟨"NarrowRows", "refresh", "()V"⟩, 10), (⟨"NarrowRows$View", "reckonRoad", "(LNarrowRows$Net;II)V"⟩, 7), (⟨"NarrowRows$Costs", "leadingOut", "(I[I)I"⟩, 1), (⟨"NarrowRows", "refusalOfSearch", "(I)I"⟩, 10), (⟨"NarrowRows", "searchFor", "(I)LNarrowRows$Search;"⟩, 10), (⟨"NarrowRows$SetSearch", "priceSets", "(I)V"⟩, 9), (⟨"NarrowRows$SetSearch", "leastRest", "(I)I"⟩, 9), (⟨"NarrowRows$SetSearch", "restWith", "(I)I"⟩, 9), (⟨"NarrowRows$SetSearch", "waysOn", "(I)I"⟩, 9), (⟨"NarrowRows$SetSearch", "isBestStep", "(II)Z"⟩, 9), (⟨"NarrowRows$TrialSearch", "tryBehind", "(II)V"⟩, 7), (⟨"NarrowRows$TrialSearch", "meet", "(I)V"⟩, 7), (⟨"NarrowRows$SetSearch", "waysWith", "(II)I"⟩, 9), (⟨"NarrowRows", "improve", "(I)Z"⟩, 10), (⟨"NarrowRows", "costWithMove", "(III)I"⟩, 10), (⟨"NarrowRows", "isWall", "(II)Z"⟩, 10)]
theorem lw_r1 : ∀ q ∈ lw_privs_1, lw_okq q := List.forall_mem_cons.mpr ⟨lw_p0, List.forall_mem_cons.mpr ⟨lw_p1, List.forall_mem_cons.mpr ⟨lw_p2, List.forall_mem_cons.mpr ⟨lw_p3, List.forall_mem_cons.mpr ⟨lw_p4, List.forall_mem_cons.mpr ⟨lw_p5, List.forall_mem_cons.mpr ⟨lw_p6, List.forall_mem_cons.mpr ⟨lw_p7, List.forall_mem_cons.mpr ⟨lw_p8, List.forall_mem_cons.mpr ⟨lw_p9, List.forall_mem_cons.mpr ⟨lw_p10, List.forall_mem_cons.mpr ⟨lw_p11, List.forall_mem_cons.mpr ⟨lw_p12, List.forall_mem_cons.mpr ⟨lw_p13, List.forall_mem_cons.mpr ⟨lw_p14, List.forall_mem_cons.mpr ⟨lw_p15, fun _ h => absurd h List.not_mem_nil⟩⟩⟩⟩⟩⟩⟩⟩⟩⟩⟩⟩⟩⟩⟩⟩
theorem lw_p16 : lw_okq (⟨"NarrowRows$Bags", "firstBare", "(I)I"⟩, 2) := ⟨⟨by decide +kernel, by decide +kernel⟩, List.mem_of_getElem? (i := 146) (by decide +kernel), List.mem_of_getElem? (i := 704) (by decide +kernel), List.mem_of_getElem? (i := 705) (by decide +kernel)⟩
theorem lw_p17 : lw_okq (⟨"NarrowRows$Bags", "together", "(I)Z"⟩, 2) := ⟨⟨by decide +kernel, by decide +kernel⟩, List.mem_of_getElem? (i := 146) (by decide +kernel), List.mem_of_getElem? (i := 708) (by decide +kernel), List.mem_of_getElem? (i := 709) (by decide +kernel)⟩
theorem lw_p18 : lw_okq (⟨"NarrowRows$Bags", "firstSplitRoad", "(LNarrowRows$View;)I"⟩, 2) := ⟨⟨by decide +kernel, by decide +kernel⟩, List.mem_of_getElem? (i := 146) (by decide +kernel), List.mem_of_getElem? (i := 712) (by decide +kernel), List.mem_of_getElem? (i := 713) (by decide +kernel)⟩
theorem lw_p19 : lw_okq (⟨"NarrowRows$Bags", "firstTorn", "(I)I"⟩, 2) := ⟨⟨by decide +kernel, by decide +kernel⟩, List.mem_of_getElem? (i := 146) (by decide +kernel), List.mem_of_getElem? (i := 717) (by decide +kernel), List.mem_of_getElem? (i := 718) (by decide +kernel)⟩
theorem lw_p20 : lw_okq (⟨"NarrowRows$Bags", "beginnings", "(I)I"⟩, 2) := ⟨⟨by decide +kernel, by decide +kernel⟩, List.mem_of_getElem? (i := 146) (by decide +kernel), List.mem_of_getElem? (i := 721) (by decide +kernel), List.mem_of_getElem? (i := 722) (by decide +kernel)⟩
theorem lw_p21 : lw_okq (⟨"NarrowRows", "plannedMoves", "()I"⟩, 10) := ⟨⟨by decide +kernel, by decide +kernel⟩, List.mem_of_getElem? (i := 18) (by decide +kernel), List.mem_of_getElem? (i := 758) (by decide +kernel), List.mem_of_getElem? (i := 759) (by decide +kernel)⟩
theorem lw_p22 : lw_okq (⟨"NarrowRows$Chase", "leave", "(LNarrowRows$View;I)V"⟩, 7) := ⟨⟨by decide +kernel, by decide +kernel⟩, List.mem_of_getElem? (i := 160) (by decide +kernel), List.mem_of_getElem? (i := 777) (by decide +kernel), List.mem_of_getElem? (i := 778) (by decide +kernel)⟩
theorem lw_p23 : lw_okq (⟨"NarrowRows$Chase", "spread", "(LNarrowRows$View;)Z"⟩, 7) := ⟨⟨by decide +kernel, by decide +kernel⟩, List.mem_of_getElem? (i := 160) (by decide +kernel), List.mem_of_getElem? (i := 781) (by decide +kernel), List.mem_of_getElem? (i := 782) (by decide +kernel)⟩
theorem lw_p24 : lw_okq (⟨"NarrowRows$Chase", "soil", "(II)V"⟩, 7) := ⟨⟨by decide +kernel, by decide +kernel⟩, List.mem_of_getElem? (i := 160) (by decide +kernel), List.mem_of_getElem? (i := 785) (by decide +kernel), List.mem_of_getElem? (i := 786) (by decide +kernel)⟩
theorem lw_p25 : lw_okq (⟨"NarrowRows$Chase", "come", "(I)V"⟩, 7) := ⟨⟨by decide +kernel, by decide +kernel⟩, List.mem_of_getElem? (i := 160) (by decide +kernel), List.mem_of_getElem? (i := 790) (by decide +kernel), List.mem_of_getElem? (i := 791) (by decide +kernel)⟩
theorem lw_p26 : lw_okq (⟨"NarrowRowsModel", "read", "([II)V"⟩, 30) := ⟨⟨by decide +kernel, by decide +kernel⟩, List.mem_of_getElem? (i := 816) (by decide +kernel), List.mem_of_getElem? (i := 918) (by decide +kernel), List.mem_of_getElem? (i := 919) (by decide +kernel)⟩
theorem lw_p27 : lw_okq (⟨"NarrowRowsModel", "keep", "()V"⟩, 30) := ⟨⟨by decide +kernel, by decide +kernel⟩, List.mem_of_getElem? (i := 816) (by decide +kernel), List.mem_of_getElem? (i := 926) (by decide +kernel), List.mem_of_getElem? (i := 927) (by decide +kernel)⟩
theorem lw_p28 : lw_okq (⟨"NarrowRowsModel", "write", "([II)V"⟩, 30) := ⟨⟨by decide +kernel, by decide +kernel⟩, List.mem_of_getElem? (i := 816) (by decide +kernel), List.mem_of_getElem? (i := 930) (by decide +kernel), List.mem_of_getElem? (i := 931) (by decide +kernel)⟩
theorem lw_p29 : lw_okq (⟨"NarrowRowsModel", "isPost", "(I)Z"⟩, 30) := ⟨⟨by decide +kernel, by decide +kernel⟩, List.mem_of_getElem? (i := 816) (by decide +kernel), List.mem_of_getElem? (i := 938) (by decide +kernel), List.mem_of_getElem? (i := 939) (by decide +kernel)⟩
theorem lw_p30 : lw_okq (⟨"NarrowRowsModel", "findBehind", "()V"⟩, 30) := ⟨⟨by decide +kernel, by decide +kernel⟩, List.mem_of_getElem? (i := 816) (by decide +kernel), List.mem_of_getElem? (i := 961) (by decide +kernel), List.mem_of_getElem? (i := 962) (by decide +kernel)⟩
theorem lw_p31 : lw_okq (⟨"NarrowRowsModel", "roadOf", "(II)I"⟩, 30) := ⟨⟨by decide +kernel, by decide +kernel⟩, List.mem_of_getElem? (i := 816) (by decide +kernel), List.mem_of_getElem? (i := 973) (by decide +kernel), List.mem_of_getElem? (i := 974) (by decide +kernel)⟩
def lw_privs_2 : List (MethodName × Nat) := [(⟨"NarrowRows$Bags", "firstBare", "(I)I"⟩, 2), (⟨"NarrowRows$Bags", "together", "(I)Z"⟩, 2), (⟨"NarrowRows$Bags", "firstSplitRoad", "(LNarrowRows$View;)I"⟩, 2), (⟨"NarrowRows$Bags", "firstTorn", "(I)I"⟩, 2), (⟨"NarrowRows$Bags", "beginnings", "(I)I"⟩, 2), (⟨"NarrowRows", "plannedMoves", "()I"⟩, 10), (⟨"NarrowRows$Chase", "leave", "(LNarrowRows$View;I)V"⟩, 7), (⟨"NarrowRows$Chase", "spread", "(LNarrowRows$View;)Z"⟩, 7), (⟨"NarrowRows$Chase", "soil", "(II)V"⟩, 7), (⟨"NarrowRows$Chase", "come", "(I)V"⟩, 7), (⟨"NarrowRowsModel", "read", "([II)V"⟩, 30), (⟨"NarrowRowsModel", "keep", "()V"⟩, 30), (⟨"NarrowRowsModel", "write", "([II)V"⟩, 30), (⟨"NarrowRowsModel", "isPost", "(I)Z"⟩, 30), (⟨"NarrowRowsModel", "findBehind", "()V"⟩, 30), (⟨"NarrowRowsModel", "roadOf", "(II)I"⟩, 30)]
theorem lw_r2 : ∀ q ∈ lw_privs_2, lw_okq q := List.forall_mem_cons.mpr ⟨lw_p16, List.forall_mem_cons.mpr ⟨lw_p17, List.forall_mem_cons.mpr ⟨lw_p18, List.forall_mem_cons.mpr ⟨lw_p19, List.forall_mem_cons.mpr ⟨lw_p20, List.forall_mem_cons.mpr ⟨lw_p21, List.forall_mem_cons.mpr ⟨lw_p22, List.forall_mem_cons.mpr ⟨lw_p23, List.forall_mem_cons.mpr ⟨lw_p24, List.forall_mem_cons.mpr ⟨lw_p25, List.forall_mem_cons.mpr ⟨lw_p26, List.forall_mem_cons.mpr ⟨lw_p27, List.forall_mem_cons.mpr ⟨lw_p28, List.forall_mem_cons.mpr ⟨lw_p29, List.forall_mem_cons.mpr ⟨lw_p30, List.forall_mem_cons.mpr ⟨lw_p31, fun _ h => absurd h List.not_mem_nil⟩⟩⟩⟩⟩⟩⟩⟩⟩⟩⟩⟩⟩⟩⟩⟩
theorem lw_p32 : lw_okq (⟨"NarrowRowsModel", "told", "(II)I"⟩, 30) := ⟨⟨by decide +kernel, by decide +kernel⟩, List.mem_of_getElem? (i := 816) (by decide +kernel), List.mem_of_getElem? (i := 977) (by decide +kernel), List.mem_of_getElem? (i := 978) (by decide +kernel)⟩
theorem lw_p33 : lw_okq (⟨"NarrowRowsModel", "placeOf", "(I)I"⟩, 30) := ⟨⟨by decide +kernel, by decide +kernel⟩, List.mem_of_getElem? (i := 816) (by decide +kernel), List.mem_of_getElem? (i := 993) (by decide +kernel), List.mem_of_getElem? (i := 994) (by decide +kernel)⟩
theorem lw_p34 : lw_okq (⟨"NarrowRowsModel", "shift", "(II)V"⟩, 30) := ⟨⟨by decide +kernel, by decide +kernel⟩, List.mem_of_getElem? (i := 816) (by decide +kernel), List.mem_of_getElem? (i := 1005) (by decide +kernel), List.mem_of_getElem? (i := 1006) (by decide +kernel)⟩
theorem lw_p35 : lw_okq (⟨"NarrowRowsModel", "isWhole", "()Z"⟩, 30) := ⟨⟨by decide +kernel, by decide +kernel⟩, List.mem_of_getElem? (i := 816) (by decide +kernel), List.mem_of_getElem? (i := 1016) (by decide +kernel), List.mem_of_getElem? (i := 1017) (by decide +kernel)⟩
theorem lw_p36 : lw_okq (⟨"NarrowRowsModel", "whole", "()I"⟩, 30) := ⟨⟨by decide +kernel, by decide +kernel⟩, List.mem_of_getElem? (i := 816) (by decide +kernel), List.mem_of_getElem? (i := 1020) (by decide +kernel), List.mem_of_getElem? (i := 1021) (by decide +kernel)⟩
theorem lw_p37 : lw_okq (⟨"NarrowRowsModel", "costOfRow", "(I)I"⟩, 30) := ⟨⟨by decide +kernel, by decide +kernel⟩, List.mem_of_getElem? (i := 816) (by decide +kernel), List.mem_of_getElem? (i := 1024) (by decide +kernel), List.mem_of_getElem? (i := 1025) (by decide +kernel)⟩
theorem lw_p38 : lw_okq (⟨"NarrowRowsModel", "spanOf", "(IIZ)I"⟩, 30) := ⟨⟨by decide +kernel, by decide +kernel⟩, List.mem_of_getElem? (i := 816) (by decide +kernel), List.mem_of_getElem? (i := 1028) (by decide +kernel), List.mem_of_getElem? (i := 1029) (by decide +kernel)⟩
theorem lw_p39 : lw_okq (⟨"NarrowRowsModel", "costOfSet", "(II)I"⟩, 30) := ⟨⟨by decide +kernel, by decide +kernel⟩, List.mem_of_getElem? (i := 816) (by decide +kernel), List.mem_of_getElem? (i := 1032) (by decide +kernel), List.mem_of_getElem? (i := 1033) (by decide +kernel)⟩
theorem lw_p40 : lw_okq (⟨"NarrowRowsModel", "cutOf", "(I)I"⟩, 30) := ⟨⟨by decide +kernel, by decide +kernel⟩, List.mem_of_getElem? (i := 816) (by decide +kernel), List.mem_of_getElem? (i := 1036) (by decide +kernel), List.mem_of_getElem? (i := 1037) (by decide +kernel)⟩
theorem lw_p41 : lw_okq (⟨"NarrowRowsModel", "openSet", "(I)I"⟩, 30) := ⟨⟨by decide +kernel, by decide +kernel⟩, List.mem_of_getElem? (i := 816) (by decide +kernel), List.mem_of_getElem? (i := 1043) (by decide +kernel), List.mem_of_getElem? (i := 1044) (by decide +kernel)⟩
theorem lw_p42 : lw_okq (⟨"NarrowRowsModel", "heldSet", "(I)I"⟩, 30) := ⟨⟨by decide +kernel, by decide +kernel⟩, List.mem_of_getElem? (i := 816) (by decide +kernel), List.mem_of_getElem? (i := 1050) (by decide +kernel), List.mem_of_getElem? (i := 1051) (by decide +kernel)⟩
theorem lw_p43 : lw_okq (⟨"NarrowRowsModel", "isLawful", "()Z"⟩, 30) := ⟨⟨by decide +kernel, by decide +kernel⟩, List.mem_of_getElem? (i := 816) (by decide +kernel), List.mem_of_getElem? (i := 1062) (by decide +kernel), List.mem_of_getElem? (i := 1063) (by decide +kernel)⟩
theorem lw_p44 : lw_okq (⟨"NarrowRowsModel", "isLarge", "(I)Z"⟩, 30) := ⟨⟨by decide +kernel, by decide +kernel⟩, List.mem_of_getElem? (i := 816) (by decide +kernel), List.mem_of_getElem? (i := 1070) (by decide +kernel), List.mem_of_getElem? (i := 1071) (by decide +kernel)⟩
theorem lw_p45 : lw_okq (⟨"NarrowRowsModel", "solveRows", "(II)V"⟩, 30) := ⟨⟨by decide +kernel, by decide +kernel⟩, List.mem_of_getElem? (i := 816) (by decide +kernel), List.mem_of_getElem? (i := 1077) (by decide +kernel), List.mem_of_getElem? (i := 1078) (by decide +kernel)⟩
theorem lw_p46 : lw_okq (⟨"NarrowRowsModel", "save", "()V"⟩, 30) := ⟨⟨by decide +kernel, by decide +kernel⟩, List.mem_of_getElem? (i := 816) (by decide +kernel), List.mem_of_getElem? (i := 1081) (by decide +kernel), List.mem_of_getElem? (i := 1082) (by decide +kernel)⟩
theorem lw_p47 : lw_okq (⟨"NarrowRowsModel", "tryRows", "(IIZ)V"⟩, 30) := ⟨⟨by decide +kernel, by decide +kernel⟩, List.mem_of_getElem? (i := 816) (by decide +kernel), List.mem_of_getElem? (i := 1086) (by decide +kernel), List.mem_of_getElem? (i := 1087) (by decide +kernel)⟩
def lw_privs_3 : List (MethodName × Nat) := [(⟨"NarrowRowsModel", "told", "(II)I"⟩, 30), (⟨"NarrowRowsModel", "placeOf", "(I)I"⟩, 30), (⟨"NarrowRowsModel", "shift", "(II)V"⟩, 30), (⟨"NarrowRowsModel", "isWhole", "()Z"⟩, 30), (⟨"NarrowRowsModel", "whole", "()I"⟩, 30), (⟨"NarrowRowsModel", "costOfRow", "(I)I"⟩, 30), (⟨"NarrowRowsModel", "spanOf", "(IIZ)I"⟩, 30), (⟨"NarrowRowsModel", "costOfSet", "(II)I"⟩, 30), (⟨"NarrowRowsModel", "cutOf", "(I)I"⟩, 30), (⟨"NarrowRowsModel", "openSet", "(I)I"⟩, 30), (⟨"NarrowRowsModel", "heldSet", "(I)I"⟩, 30), (⟨"NarrowRowsModel", "isLawful", "()Z"⟩, 30), (⟨"NarrowRowsModel", "isLarge", "(I)Z"⟩, 30), (⟨"NarrowRowsModel", "solveRows", "(II)V"⟩, 30), (⟨"NarrowRowsModel", "save", "()V"⟩, 30), (⟨"NarrowRowsModel", "tryRows", "(IIZ)V"⟩, 30)]
theorem lw_r3 : ∀ q ∈ lw_privs_3, lw_okq q := List.forall_mem_cons.mpr ⟨lw_p32, List.forall_mem_cons.mpr ⟨lw_p33, List.forall_mem_cons.mpr ⟨lw_p34, List.forall_mem_cons.mpr ⟨lw_p35, List.forall_mem_cons.mpr ⟨lw_p36, List.forall_mem_cons.mpr ⟨lw_p37, List.forall_mem_cons.mpr ⟨lw_p38, List.forall_mem_cons.mpr ⟨lw_p39, List.forall_mem_cons.mpr ⟨lw_p40, List.forall_mem_cons.mpr ⟨lw_p41, List.forall_mem_cons.mpr ⟨lw_p42, List.forall_mem_cons.mpr ⟨lw_p43, List.forall_mem_cons.mpr ⟨lw_p44, List.forall_mem_cons.mpr ⟨lw_p45, List.forall_mem_cons.mpr ⟨lw_p46, List.forall_mem_cons.mpr ⟨lw_p47, fun _ h => absurd h List.not_mem_nil⟩⟩⟩⟩⟩⟩⟩⟩⟩⟩⟩⟩⟩⟩⟩⟩
theorem lw_p48 : lw_okq (⟨"NarrowRowsModel", "mayCome", "(II)Z"⟩, 30) := ⟨⟨by decide +kernel, by decide +kernel⟩, List.mem_of_getElem? (i := 816) (by decide +kernel), List.mem_of_getElem? (i := 1090) (by decide +kernel), List.mem_of_getElem? (i := 1091) (by decide +kernel)⟩
theorem lw_p49 : lw_okq (⟨"NarrowRowsModel", "restore", "()V"⟩, 30) := ⟨⟨by decide +kernel, by decide +kernel⟩, List.mem_of_getElem? (i := 816) (by decide +kernel), List.mem_of_getElem? (i := 1094) (by decide +kernel), List.mem_of_getElem? (i := 1095) (by decide +kernel)⟩
theorem lw_p50 : lw_okq (⟨"NarrowRowsModel", "solveSets", "(I)V"⟩, 30) := ⟨⟨by decide +kernel, by decide +kernel⟩, List.mem_of_getElem? (i := 816) (by decide +kernel), List.mem_of_getElem? (i := 1098) (by decide +kernel), List.mem_of_getElem? (i := 1099) (by decide +kernel)⟩
theorem lw_p51 : lw_okq (⟨"NarrowRowsModel", "costBy", "(III)I"⟩, 30) := ⟨⟨by decide +kernel, by decide +kernel⟩, List.mem_of_getElem? (i := 816) (by decide +kernel), List.mem_of_getElem? (i := 1102) (by decide +kernel), List.mem_of_getElem? (i := 1103) (by decide +kernel)⟩
theorem lw_p52 : lw_okq (⟨"NarrowRowsModel", "goesOn", "(IIII)Z"⟩, 30) := ⟨⟨by decide +kernel, by decide +kernel⟩, List.mem_of_getElem? (i := 816) (by decide +kernel), List.mem_of_getElem? (i := 1106) (by decide +kernel), List.mem_of_getElem? (i := 1107) (by decide +kernel)⟩
theorem lw_p53 : lw_okq (⟨"NarrowRowsModel", "leastBySets", "(I)I"⟩, 30) := ⟨⟨by decide +kernel, by decide +kernel⟩, List.mem_of_getElem? (i := 816) (by decide +kernel), List.mem_of_getElem? (i := 1110) (by decide +kernel), List.mem_of_getElem? (i := 1111) (by decide +kernel)⟩
theorem lw_p54 : lw_okq (⟨"NarrowRowsModel", "betterOnce", "(I)Z"⟩, 30) := ⟨⟨by decide +kernel, by decide +kernel⟩, List.mem_of_getElem? (i := 816) (by decide +kernel), List.mem_of_getElem? (i := 1130) (by decide +kernel), List.mem_of_getElem? (i := 1131) (by decide +kernel)⟩
theorem lw_p55 : lw_okq (⟨"NarrowRowsModel", "isWall", "(II)Z"⟩, 30) := ⟨⟨by decide +kernel, by decide +kernel⟩, List.mem_of_getElem? (i := 816) (by decide +kernel), List.mem_of_getElem? (i := 1138) (by decide +kernel), List.mem_of_getElem? (i := 1139) (by decide +kernel)⟩
theorem lw_p56 : lw_okq (⟨"NarrowRowsModel", "wallOf", "(II)I"⟩, 30) := ⟨⟨by decide +kernel, by decide +kernel⟩, List.mem_of_getElem? (i := 816) (by decide +kernel), List.mem_of_getElem? (i := 1142) (by decide +kernel), List.mem_of_getElem? (i := 1143) (by decide +kernel)⟩
theorem lw_p57 : lw_okq (⟨"NarrowRowsModel", "bagOf", "(I)I"⟩, 30) := ⟨⟨by decide +kernel, by decide +kernel⟩, List.mem_of_getElem? (i := 816) (by decide +kernel), List.mem_of_getElem? (i := 1154) (by decide +kernel), List.mem_of_getElem? (i := 1155) (by decide +kernel)⟩
theorem lw_p58 : lw_okq (⟨"NarrowRowsModel", "goodOf", "()I"⟩, 30) := ⟨⟨by decide +kernel, by decide +kernel⟩, List.mem_of_getElem? (i := 816) (by decide +kernel), List.mem_of_getElem? (i := 1170) (by decide +kernel), List.mem_of_getElem? (i := 1171) (by decide +kernel)⟩
theorem lw_p59 : lw_okq (⟨"NarrowRowsModel", "areTogether", "(II)Z"⟩, 30) := ⟨⟨by decide +kernel, by decide +kernel⟩, List.mem_of_getElem? (i := 816) (by decide +kernel), List.mem_of_getElem? (i := 1174) (by decide +kernel), List.mem_of_getElem? (i := 1175) (by decide +kernel)⟩
theorem lw_p60 : lw_okq (⟨"NarrowRowsModel", "doFollow", "(I)Z"⟩, 30) := ⟨⟨by decide +kernel, by decide +kernel⟩, List.mem_of_getElem? (i := 816) (by decide +kernel), List.mem_of_getElem? (i := 1178) (by decide +kernel), List.mem_of_getElem? (i := 1179) (by decide +kernel)⟩
theorem lw_p61 : lw_okq (⟨"NarrowRowsModel", "search", "(I)V"⟩, 30) := ⟨⟨by decide +kernel, by decide +kernel⟩, List.mem_of_getElem? (i := 816) (by decide +kernel), List.mem_of_getElem? (i := 1202) (by decide +kernel), List.mem_of_getElem? (i := 1203) (by decide +kernel)⟩
theorem lw_p62 : lw_okq (⟨"NarrowRowsModel", "set", "(IIZ)V"⟩, 30) := ⟨⟨by decide +kernel, by decide +kernel⟩, List.mem_of_getElem? (i := 816) (by decide +kernel), List.mem_of_getElem? (i := 1206) (by decide +kernel), List.mem_of_getElem? (i := 1207) (by decide +kernel)⟩
theorem lw_p63 : lw_okq (⟨"NarrowRowsModel", "isFoulAt", "(II)Z"⟩, 30) := ⟨⟨by decide +kernel, by decide +kernel⟩, List.mem_of_getElem? (i := 816) (by decide +kernel), List.mem_of_getElem? (i := 1210) (by decide +kernel), List.mem_of_getElem? (i := 1211) (by decide +kernel)⟩
def lw_privs_4 : List (MethodName × Nat) := [(⟨"NarrowRowsModel", "mayCome", "(II)Z"⟩, 30), (⟨"NarrowRowsModel", "restore", "()V"⟩, 30), (⟨"NarrowRowsModel", "solveSets", "(I)V"⟩, 30), (⟨"NarrowRowsModel", "costBy", "(III)I"⟩, 30), (⟨"NarrowRowsModel", "goesOn", "(IIII)Z"⟩, 30), (⟨"NarrowRowsModel", "leastBySets", "(I)I"⟩, 30), (⟨"NarrowRowsModel", "betterOnce", "(I)Z"⟩, 30), (⟨"NarrowRowsModel", "isWall", "(II)Z"⟩, 30), (⟨"NarrowRowsModel", "wallOf", "(II)I"⟩, 30), (⟨"NarrowRowsModel", "bagOf", "(I)I"⟩, 30), (⟨"NarrowRowsModel", "goodOf", "()I"⟩, 30), (⟨"NarrowRowsModel", "areTogether", "(II)Z"⟩, 30), (⟨"NarrowRowsModel", "doFollow", "(I)Z"⟩, 30), (⟨"NarrowRowsModel", "search", "(I)V"⟩, 30), (⟨"NarrowRowsModel", "set", "(IIZ)V"⟩, 30), (⟨"NarrowRowsModel", "isFoulAt", "(II)Z"⟩, 30)]
theorem lw_r4 : ∀ q ∈ lw_privs_4, lw_okq q := List.forall_mem_cons.mpr ⟨lw_p48, List.forall_mem_cons.mpr ⟨lw_p49, List.forall_mem_cons.mpr ⟨lw_p50, List.forall_mem_cons.mpr ⟨lw_p51, List.forall_mem_cons.mpr ⟨lw_p52, List.forall_mem_cons.mpr ⟨lw_p53, List.forall_mem_cons.mpr ⟨lw_p54, List.forall_mem_cons.mpr ⟨lw_p55, List.forall_mem_cons.mpr ⟨lw_p56, List.forall_mem_cons.mpr ⟨lw_p57, List.forall_mem_cons.mpr ⟨lw_p58, List.forall_mem_cons.mpr ⟨lw_p59, List.forall_mem_cons.mpr ⟨lw_p60, List.forall_mem_cons.mpr ⟨lw_p61, List.forall_mem_cons.mpr ⟨lw_p62, List.forall_mem_cons.mpr ⟨lw_p63, fun _ h => absurd h List.not_mem_nil⟩⟩⟩⟩⟩⟩⟩⟩⟩⟩⟩⟩⟩⟩⟩⟩
def lw_privs : List (MethodName × Nat) := lw_privs_1 ++ (lw_privs_2 ++ (lw_privs_3 ++ (lw_privs_4)))
def lw_tbl : List Cond := k2_sels lw_privs ++ tables_1
theorem lw_privs_ok : ∀ q ∈ lw_privs, lw_okq q := by
  show ∀ q ∈ lw_privs_1 ++ (lw_privs_2 ++ (lw_privs_3 ++ (lw_privs_4))), lw_okq q
  exact List.forall_mem_append.mpr ⟨lw_r1, List.forall_mem_append.mpr ⟨lw_r2, List.forall_mem_append.mpr ⟨lw_r3, lw_r4⟩⟩⟩

/-! names, fields, decoded types: out of the printed names -/
def RX0 : String := "NarrowRows$Bags"
def TX0 : u_T := fun k => match k with
  | 0 => ("NarrowRows$Bags", "sets", "[I", true)
  | _ => ("NarrowRows$Bags", "size", "I", false)
def tyX0 : Nat → FieldType := fun k => match k with
  | 0 => .array .int
  | _ => .int
theorem nmX0 : ∀ a, a < 2 → ∀ b, b < 2 → a ≠ b → (TX0 a).2.1 ≠ (TX0 b).2.1 := by decide +kernel
theorem tyX0_ok : ∀ k, k < 2 → parseFieldDescriptor (TX0 k).2.2.1 = some (tyX0 k) := by decide +kernel
abbrev cX0_init : ByteArray := prog_2_method_1_code
def yX0_init : MethodName := ⟨RX0, "<init>", "()V"⟩
abbrev cX0_append : ByteArray := prog_2_method_2_code
def yX0_append : MethodName := ⟨RX0, "append", "(I)V"⟩
abbrev cX0_fault : ByteArray := prog_2_method_3_code
def yX0_fault : MethodName := ⟨RX0, "fault", "(LNarrowRows$View;)I"⟩
abbrev cX0_firstBare : ByteArray := prog_2_method_4_code
def yX0_firstBare : MethodName := ⟨RX0, "firstBare", "(I)I"⟩
abbrev cX0_firstSplitRoad : ByteArray := prog_2_method_5_code
def yX0_firstSplitRoad : MethodName := ⟨RX0, "firstSplitRoad", "(LNarrowRows$View;)I"⟩
abbrev cX0_firstTorn : ByteArray := prog_2_method_6_code
def yX0_firstTorn : MethodName := ⟨RX0, "firstTorn", "(I)I"⟩
abbrev cX0_together : ByteArray := prog_2_method_7_code
def yX0_together : MethodName := ⟨RX0, "together", "(I)Z"⟩
abbrev cX0_beginnings : ByteArray := prog_2_method_8_code
def yX0_beginnings : MethodName := ⟨RX0, "beginnings", "(I)I"⟩
abbrev cX0_rowInto : ByteArray := prog_2_method_9_code
def yX0_rowInto : MethodName := ⟨RX0, "rowInto", "(LNarrowRows$Row;I)V"⟩
abbrev cX0_largest : ByteArray := prog_2_method_10_code
def yX0_largest : MethodName := ⟨RX0, "largest", "(I)I"⟩
def RX1 : String := "NarrowRows$Chase"
def TX1 : u_T := fun k => match k with
  | 0 => ("NarrowRows$Chase", "moves", "[I", true)
  | 1 => ("NarrowRows$Chase", "size", "I", false)
  | 2 => ("NarrowRows$Chase", "foul", "[I", true)
  | 3 => ("NarrowRows$Chase", "guarded", "I", false)
  | 4 => ("NarrowRows$Chase", "most", "I", false)
  | 5 => ("NarrowRows$Chase", "again", "I", false)
  | _ => ("NarrowRows$Chase", "idle", "I", false)
def tyX1 : Nat → FieldType := fun k => match k with
  | 0 => .array .int
  | 1 => .int
  | 2 => .array .int
  | 3 => .int
  | 4 => .int
  | 5 => .int
  | _ => .int
theorem nmX1 : ∀ a, a < 7 → ∀ b, b < 7 → a ≠ b → (TX1 a).2.1 ≠ (TX1 b).2.1 := by decide +kernel
theorem tyX1_ok : ∀ k, k < 7 → parseFieldDescriptor (TX1 k).2.2.1 = some (tyX1 k) := by decide +kernel
abbrev cX1_init : ByteArray := prog_3_method_1_code
def yX1_init : MethodName := ⟨RX1, "<init>", "()V"⟩
abbrev cX1_append : ByteArray := prog_3_method_2_code
def yX1_append : MethodName := ⟨RX1, "append", "(I)V"⟩
abbrev cX1_appendAll : ByteArray := prog_3_method_3_code
def yX1_appendAll : MethodName := ⟨RX1, "appendAll", "(II)V"⟩
abbrev cX1_run : ByteArray := prog_3_method_4_code
def yX1_run : MethodName := ⟨RX1, "run", "(LNarrowRows$View;)V"⟩
abbrev cX1_come : ByteArray := prog_3_method_5_code
def yX1_come : MethodName := ⟨RX1, "come", "(I)V"⟩
abbrev cX1_leave : ByteArray := prog_3_method_6_code
def yX1_leave : MethodName := ⟨RX1, "leave", "(LNarrowRows$View;I)V"⟩
abbrev cX1_spread : ByteArray := prog_3_method_7_code
def yX1_spread : MethodName := ⟨RX1, "spread", "(LNarrowRows$View;)Z"⟩
abbrev cX1_soil : ByteArray := prog_3_method_8_code
def yX1_soil : MethodName := ⟨RX1, "soil", "(II)V"⟩
abbrev cX1_foulRoads : ByteArray := prog_3_method_9_code
def yX1_foulRoads : MethodName := ⟨RX1, "foulRoads", "()I"⟩
def RX2 : String := "NarrowRows$Costs"
def TX2 : u_T := fun k => match k with
  | _ => ("NarrowRows$Costs", "view", "LNarrowRows$View;", true)
def tyX2 : Nat → FieldType := fun k => match k with
  | _ => .object "NarrowRows$View"
theorem nmX2 : ∀ a, a < 1 → ∀ b, b < 1 → a ≠ b → (TX2 a).2.1 ≠ (TX2 b).2.1 := by decide +kernel
theorem tyX2_ok : ∀ k, k < 1 → parseFieldDescriptor (TX2 k).2.2.1 = some (tyX2 k) := by decide +kernel
abbrev cX2_init : ByteArray := prog_4_method_1_code
def yX2_init : MethodName := ⟨RX2, "<init>", "(LNarrowRows$View;)V"⟩
abbrev cX2_costOf : ByteArray := prog_4_method_2_code
def yX2_costOf : MethodName := ⟨RX2, "costOf", "(ILNarrowRows$Row;)I"⟩
abbrev cX2_withSpans : ByteArray := prog_4_method_3_code
def yX2_withSpans : MethodName := ⟨RX2, "withSpans", "(IILNarrowRows$Row;I)I"⟩
abbrev cX2_priceWith : ByteArray := prog_4_method_4_code
def yX2_priceWith : MethodName := ⟨RX2, "priceWith", "(IIII)I"⟩
abbrev cX2_leadingOut : ByteArray := prog_4_method_5_code
def yX2_leadingOut : MethodName := ⟨RX2, "leadingOut", "(I[I)I"⟩
abbrev cX2_join : ByteArray := prog_4_method_6_code
def yX2_join : MethodName := ⟨RX2, "join", "(III)I"⟩
abbrev cX2_finish : ByteArray := prog_4_method_7_code
def yX2_finish : MethodName := ⟨RX2, "finish", "(II)I"⟩
abbrev cX2_placeOfPeak : ByteArray := prog_4_method_8_code
def yX2_placeOfPeak : MethodName := ⟨RX2, "placeOfPeak", "(ILNarrowRows$Row;)I"⟩
abbrev cX2_placeOfSpan : ByteArray := prog_4_method_9_code
def yX2_placeOfSpan : MethodName := ⟨RX2, "placeOfSpan", "(LNarrowRows$Row;)I"⟩
abbrev cX2_bagOf : ByteArray := prog_4_method_10_code
def yX2_bagOf : MethodName := ⟨RX2, "bagOf", "(LNarrowRows$Row;I)I"⟩
def RX3 : String := "NarrowRows$History"
def TX3 : u_T := fun k => match k with
  | 0 => ("NarrowRows$History", "kept", "[LNarrowRows$Net;", true)
  | 1 => ("NarrowRows$History", "oldest", "I", false)
  | _ => ("NarrowRows$History", "size", "I", false)
def tyX3 : Nat → FieldType := fun k => match k with
  | 0 => .array (.object "NarrowRows$Net")
  | 1 => .int
  | _ => .int
theorem nmX3 : ∀ a, a < 3 → ∀ b, b < 3 → a ≠ b → (TX3 a).2.1 ≠ (TX3 b).2.1 := by decide +kernel
theorem tyX3_ok : ∀ k, k < 3 → parseFieldDescriptor (TX3 k).2.2.1 = some (tyX3 k) := by decide +kernel
abbrev cX3_init : ByteArray := prog_5_method_1_code
def yX3_init : MethodName := ⟨RX3, "<init>", "()V"⟩
abbrev cX3_keep : ByteArray := prog_5_method_2_code
def yX3_keep : MethodName := ⟨RX3, "keep", "(LNarrowRows$Net;)V"⟩
abbrev cX3_takeBack : ByteArray := prog_5_method_3_code
def yX3_takeBack : MethodName := ⟨RX3, "takeBack", "(LNarrowRows$Net;)V"⟩
def RX4 : String := "NarrowRows$Net"
def TX4 : u_T := fun k => match k with
  | 0 => ("NarrowRows$Net", "posts", "I", false)
  | 1 => ("NarrowRows$Net", "pairs", "I", false)
  | 2 => ("NarrowRows$Net", "widths", "[I", true)
  | 3 => ("NarrowRows$Net", "lengths", "[I", true)
  | 4 => ("NarrowRows$Net", "told", "[I", true)
  | _ => ("NarrowRows$Net", "behind", "[I", true)
def tyX4 : Nat → FieldType := fun k => match k with
  | 0 => .int
  | 1 => .int
  | 2 => .array .int
  | 3 => .array .int
  | 4 => .array .int
  | _ => .array .int
theorem nmX4 : ∀ a, a < 6 → ∀ b, b < 6 → a ≠ b → (TX4 a).2.1 ≠ (TX4 b).2.1 := by decide +kernel
theorem tyX4_ok : ∀ k, k < 6 → parseFieldDescriptor (TX4 k).2.2.1 = some (tyX4 k) := by decide +kernel
abbrev cX4_init : ByteArray := prog_6_method_1_code
def yX4_init : MethodName := ⟨RX4, "<init>", "()V"⟩
abbrev cX4_has : ByteArray := prog_6_method_2_code
def yX4_has : MethodName := ⟨RX4, "has", "(I)Z"⟩
abbrev cX4_hasBoth : ByteArray := prog_6_method_3_code
def yX4_hasBoth : MethodName := ⟨RX4, "hasBoth", "(II)Z"⟩
abbrev cX4_isMissing : ByteArray := prog_6_method_4_code
def yX4_isMissing : MethodName := ⟨RX4, "isMissing", "(I)Z"⟩
abbrev cX4_renewSheet : ByteArray := prog_6_method_5_code
def yX4_renewSheet : MethodName := ⟨RX4, "renewSheet", "(III)V"⟩
abbrev cX4_sheets : ByteArray := prog_6_method_6_code
def yX4_sheets : MethodName := ⟨RX4, "sheets", "()I"⟩
abbrev cX4_allBehind : ByteArray := prog_6_method_7_code
def yX4_allBehind : MethodName := ⟨RX4, "allBehind", "(I)I"⟩
abbrev cX4_takeFrom : ByteArray := prog_6_method_8_code
def yX4_takeFrom : MethodName := ⟨RX4, "takeFrom", "(LNarrowRows$Net;)V"⟩
def RX5 : String := "NarrowRows$Row"
def TX5 : u_T := fun k => match k with
  | 0 => ("NarrowRows$Row", "posts", "[I", true)
  | _ => ("NarrowRows$Row", "size", "I", false)
def tyX5 : Nat → FieldType := fun k => match k with
  | 0 => .array .int
  | _ => .int
theorem nmX5 : ∀ a, a < 2 → ∀ b, b < 2 → a ≠ b → (TX5 a).2.1 ≠ (TX5 b).2.1 := by decide +kernel
theorem tyX5_ok : ∀ k, k < 2 → parseFieldDescriptor (TX5 k).2.2.1 = some (tyX5 k) := by decide +kernel
abbrev cX5_init : ByteArray := prog_7_method_1_code
def yX5_init : MethodName := ⟨RX5, "<init>", "()V"⟩
abbrev cX5_clear : ByteArray := prog_7_method_2_code
def yX5_clear : MethodName := ⟨RX5, "clear", "()V"⟩
abbrev cX5_append : ByteArray := prog_7_method_3_code
def yX5_append : MethodName := ⟨RX5, "append", "(I)V"⟩
abbrev cX5_dropLast : ByteArray := prog_7_method_4_code
def yX5_dropLast : MethodName := ⟨RX5, "dropLast", "()V"⟩
abbrev cX5_hasPlace : ByteArray := prog_7_method_5_code
def yX5_hasPlace : MethodName := ⟨RX5, "hasPlace", "(I)Z"⟩
abbrev cX5_placeOf : ByteArray := prog_7_method_6_code
def yX5_placeOf : MethodName := ⟨RX5, "placeOf", "(I)I"⟩
abbrev cX5_isWhole : ByteArray := prog_7_method_7_code
def yX5_isWhole : MethodName := ⟨RX5, "isWhole", "(I)Z"⟩
abbrev cX5_shift : ByteArray := prog_7_method_8_code
def yX5_shift : MethodName := ⟨RX5, "shift", "(II)V"⟩
abbrev cX5_takeFrom : ByteArray := prog_7_method_9_code
def yX5_takeFrom : MethodName := ⟨RX5, "takeFrom", "(LNarrowRows$Row;)V"⟩
def RX6 : String := "NarrowRows$Search"
def TX6 : u_T := fun k => match k with
  | _ => ("", "", "", false)
def tyX6 : Nat → FieldType := fun k => match k with
  | _ => .int
theorem nmX6 : ∀ a, a < 0 → ∀ b, b < 0 → a ≠ b → (TX6 a).2.1 ≠ (TX6 b).2.1 := by decide +kernel
theorem tyX6_ok : ∀ k, k < 0 → parseFieldDescriptor (TX6 k).2.2.1 = some (tyX6 k) := by decide +kernel
abbrev cX6_init : ByteArray := prog_8_method_1_code
def yX6_init : MethodName := ⟨RX6, "<init>", "(LNarrowRows$View;LNarrowRows$Costs;)V"⟩
def RX7 : String := "NarrowRows$SetSearch"
def TX7 : u_T := fun k => match k with
  | 0 => ("NarrowRows$Search", "view", "LNarrowRows$View;", true)
  | 1 => ("NarrowRows$Search", "costs", "LNarrowRows$Costs;", true)
  | 2 => ("NarrowRows$Search", "solvedFor", "I", false)
  | 3 => ("NarrowRows$Search", "lowest", "I", false)
  | 4 => ("NarrowRows$Search", "total", "I", false)
  | 5 => ("NarrowRows$SetSearch", "pricedFor", "I", false)
  | 6 => ("NarrowRows$SetSearch", "prices", "[I", true)
  | 7 => ("NarrowRows$SetSearch", "rests", "[I", true)
  | _ => ("NarrowRows$SetSearch", "ways", "[I", true)
def tyX7 : Nat → FieldType := fun k => match k with
  | 0 => .object "NarrowRows$View"
  | 1 => .object "NarrowRows$Costs"
  | 2 => .int
  | 3 => .int
  | 4 => .int
  | 5 => .int
  | 6 => .array .int
  | 7 => .array .int
  | _ => .array .int
theorem nmX7 : ∀ a, a < 9 → ∀ b, b < 9 → a ≠ b → (TX7 a).2.1 ≠ (TX7 b).2.1 := by decide +kernel
theorem tyX7_ok : ∀ k, k < 9 → parseFieldDescriptor (TX7 k).2.2.1 = some (tyX7 k) := by decide +kernel
abbrev cX7_init : ByteArray := prog_9_method_1_code
def yX7_init : MethodName := ⟨RX7, "<init>", "(LNarrowRows$View;LNarrowRows$Costs;)V"⟩
abbrev cX7_forget : ByteArray := prog_9_method_2_code
def yX7_forget : MethodName := ⟨RX7, "forget", "()V"⟩
abbrev cX7_priceOf : ByteArray := prog_9_method_3_code
def yX7_priceOf : MethodName := ⟨RX7, "priceOf", "(II)I"⟩
abbrev cX7_cheapest : ByteArray := prog_9_method_4_code
def yX7_cheapest : MethodName := ⟨RX7, "cheapest", "(II)I"⟩
abbrev cX7_priceSets : ByteArray := prog_9_method_5_code
def yX7_priceSets : MethodName := ⟨RX7, "priceSets", "(I)V"⟩
abbrev cX7_solve : ByteArray := prog_9_method_6_code
def yX7_solve : MethodName := ⟨RX7, "solve", "(I)V"⟩
abbrev cX7_leastRest : ByteArray := prog_9_method_7_code
def yX7_leastRest : MethodName := ⟨RX7, "leastRest", "(I)I"⟩
abbrev cX7_waysOn : ByteArray := prog_9_method_8_code
def yX7_waysOn : MethodName := ⟨RX7, "waysOn", "(I)I"⟩
abbrev cX7_restWith : ByteArray := prog_9_method_9_code
def yX7_restWith : MethodName := ⟨RX7, "restWith", "(I)I"⟩
abbrev cX7_isBestStep : ByteArray := prog_9_method_10_code
def yX7_isBestStep : MethodName := ⟨RX7, "isBestStep", "(II)Z"⟩
abbrev cX7_waysWith : ByteArray := prog_9_method_11_code
def yX7_waysWith : MethodName := ⟨RX7, "waysWith", "(II)I"⟩
abbrev cX7_pick : ByteArray := prog_9_method_12_code
def yX7_pick : MethodName := ⟨RX7, "pick", "(ILNarrowRows$Row;)V"⟩
abbrev cX7_numberOf : ByteArray := prog_9_method_13_code
def yX7_numberOf : MethodName := ⟨RX7, "numberOf", "(LNarrowRows$Row;)I"⟩
def RX8 : String := "NarrowRows$TrialSearch"
def TX8 : u_T := fun k => match k with
  | 0 => ("NarrowRows$Search", "view", "LNarrowRows$View;", true)
  | 1 => ("NarrowRows$Search", "costs", "LNarrowRows$Costs;", true)
  | 2 => ("NarrowRows$Search", "solvedFor", "I", false)
  | 3 => ("NarrowRows$Search", "lowest", "I", false)
  | 4 => ("NarrowRows$Search", "total", "I", false)
  | 5 => ("NarrowRows$TrialSearch", "found", "[I", true)
  | _ => ("NarrowRows$TrialSearch", "row", "LNarrowRows$Row;", true)
def tyX8 : Nat → FieldType := fun k => match k with
  | 0 => .object "NarrowRows$View"
  | 1 => .object "NarrowRows$Costs"
  | 2 => .int
  | 3 => .int
  | 4 => .int
  | 5 => .array .int
  | _ => .object "NarrowRows$Row"
theorem nmX8 : ∀ a, a < 7 → ∀ b, b < 7 → a ≠ b → (TX8 a).2.1 ≠ (TX8 b).2.1 := by decide +kernel
theorem tyX8_ok : ∀ k, k < 7 → parseFieldDescriptor (TX8 k).2.2.1 = some (tyX8 k) := by decide +kernel
abbrev cX8_init : ByteArray := prog_10_method_1_code
def yX8_init : MethodName := ⟨RX8, "<init>", "(LNarrowRows$View;LNarrowRows$Costs;)V"⟩
abbrev cX8_forget : ByteArray := prog_10_method_2_code
def yX8_forget : MethodName := ⟨RX8, "forget", "()V"⟩
abbrev cX8_solve : ByteArray := prog_10_method_3_code
def yX8_solve : MethodName := ⟨RX8, "solve", "(I)V"⟩
abbrev cX8_tryBehind : ByteArray := prog_10_method_4_code
def yX8_tryBehind : MethodName := ⟨RX8, "tryBehind", "(II)V"⟩
abbrev cX8_meet : ByteArray := prog_10_method_5_code
def yX8_meet : MethodName := ⟨RX8, "meet", "(I)V"⟩
abbrev cX8_code : ByteArray := prog_10_method_6_code
def yX8_code : MethodName := ⟨RX8, "code", "(LNarrowRows$Row;)I"⟩
abbrev cX8_pick : ByteArray := prog_10_method_7_code
def yX8_pick : MethodName := ⟨RX8, "pick", "(ILNarrowRows$Row;)V"⟩
abbrev cX8_numberOf : ByteArray := prog_10_method_8_code
def yX8_numberOf : MethodName := ⟨RX8, "numberOf", "(LNarrowRows$Row;)I"⟩
def RX9 : String := "NarrowRows$View"
def TX9 : u_T := fun k => match k with
  | 0 => ("NarrowRows$View", "posts", "I", false)
  | 1 => ("NarrowRows$View", "roads", "I", false)
  | 2 => ("NarrowRows$View", "weight", "I", false)
  | 3 => ("NarrowRows$View", "weights", "[I", true)
  | 4 => ("NarrowRows$View", "near", "[I", true)
  | 5 => ("NarrowRows$View", "behind", "[I", true)
  | _ => ("NarrowRows$View", "ahead", "[I", true)
def tyX9 : Nat → FieldType := fun k => match k with
  | 0 => .int
  | 1 => .int
  | 2 => .int
  | 3 => .array .int
  | 4 => .array .int
  | 5 => .array .int
  | _ => .array .int
theorem nmX9 : ∀ a, a < 7 → ∀ b, b < 7 → a ≠ b → (TX9 a).2.1 ≠ (TX9 b).2.1 := by decide +kernel
theorem tyX9_ok : ∀ k, k < 7 → parseFieldDescriptor (TX9 k).2.2.1 = some (tyX9 k) := by decide +kernel
abbrev cX9_init : ByteArray := prog_11_method_1_code
def yX9_init : MethodName := ⟨RX9, "<init>", "()V"⟩
abbrev cX9_reckon : ByteArray := prog_11_method_2_code
def yX9_reckon : MethodName := ⟨RX9, "reckon", "(LNarrowRows$Net;)V"⟩
abbrev cX9_reckonRoad : ByteArray := prog_11_method_3_code
def yX9_reckonRoad : MethodName := ⟨RX9, "reckonRoad", "(LNarrowRows$Net;II)V"⟩
abbrev cX9_weightOf : ByteArray := prog_11_method_4_code
def yX9_weightOf : MethodName := ⟨RX9, "weightOf", "(II)I"⟩
abbrev cX9_weightAt : ByteArray := prog_11_method_5_code
def yX9_weightAt : MethodName := ⟨RX9, "weightAt", "(I)I"⟩
abbrev cX9_mayFollow : ByteArray := prog_11_method_6_code
def yX9_mayFollow : MethodName := ⟨RX9, "mayFollow", "(II)Z"⟩
abbrev cX9_keepsPairs : ByteArray := prog_11_method_7_code
def yX9_keepsPairs : MethodName := ⟨RX9, "keepsPairs", "(LNarrowRows$Row;)Z"⟩
def RX10 : String := "NarrowRows"
def TX10 : u_T := fun k => match k with
  | 0 => ("NarrowRows", "net", "LNarrowRows$Net;", true)
  | 1 => ("NarrowRows", "view", "LNarrowRows$View;", true)
  | 2 => ("NarrowRows", "history", "LNarrowRows$History;", true)
  | 3 => ("NarrowRows", "hand", "LNarrowRows$Row;", true)
  | 4 => ("NarrowRows", "trial", "LNarrowRows$Row;", true)
  | 5 => ("NarrowRows", "bags", "LNarrowRows$Bags;", true)
  | 6 => ("NarrowRows", "chase", "LNarrowRows$Chase;", true)
  | 7 => ("NarrowRows", "costs", "LNarrowRows$Costs;", true)
  | 8 => ("NarrowRows", "sets", "LNarrowRows$SetSearch;", true)
  | _ => ("NarrowRows", "trials", "LNarrowRows$TrialSearch;", true)
def tyX10 : Nat → FieldType := fun k => match k with
  | 0 => .object "NarrowRows$Net"
  | 1 => .object "NarrowRows$View"
  | 2 => .object "NarrowRows$History"
  | 3 => .object "NarrowRows$Row"
  | 4 => .object "NarrowRows$Row"
  | 5 => .object "NarrowRows$Bags"
  | 6 => .object "NarrowRows$Chase"
  | 7 => .object "NarrowRows$Costs"
  | 8 => .object "NarrowRows$SetSearch"
  | _ => .object "NarrowRows$TrialSearch"
theorem nmX10 : ∀ a, a < 10 → ∀ b, b < 10 → a ≠ b → (TX10 a).2.1 ≠ (TX10 b).2.1 := by decide +kernel
theorem tyX10_ok : ∀ k, k < 10 → parseFieldDescriptor (TX10 k).2.2.1 = some (tyX10 k) := by decide +kernel
abbrev cX10_init : ByteArray := prog_1_method_1_code
def yX10_init : MethodName := ⟨RX10, "<init>", "()V"⟩
abbrev cX10_post : ByteArray := prog_1_method_2_code
def yX10_post : MethodName := ⟨RX10, "post", "()I"⟩
abbrev cX10_sheet : ByteArray := prog_1_method_3_code
def yX10_sheet : MethodName := ⟨RX10, "sheet", "(III)I"⟩
abbrev cX10_lose : ByteArray := prog_1_method_4_code
def yX10_lose : MethodName := ⟨RX10, "lose", "(I)I"⟩
abbrev cX10_weigh : ByteArray := prog_1_method_5_code
def yX10_weigh : MethodName := ⟨RX10, "weigh", "(III)I"⟩
abbrev cX10_copy : ByteArray := prog_1_method_6_code
def yX10_copy : MethodName := ⟨RX10, "copy", "(III)I"⟩
abbrev cX10_pair : ByteArray := prog_1_method_7_code
def yX10_pair : MethodName := ⟨RX10, "pair", "(II)I"⟩
abbrev cX10_part : ByteArray := prog_1_method_8_code
def yX10_part : MethodName := ⟨RX10, "part", "(II)I"⟩
abbrev cX10_road : ByteArray := prog_1_method_9_code
def yX10_road : MethodName := ⟨RX10, "road", "(II)I"⟩
abbrev cX10_about : ByteArray := prog_1_method_10_code
def yX10_about : MethodName := ⟨RX10, "about", "(II)I"⟩
abbrev cX10_begin : ByteArray := prog_1_method_11_code
def yX10_begin : MethodName := ⟨RX10, "begin", "()I"⟩
abbrev cX10_put : ByteArray := prog_1_method_12_code
def yX10_put : MethodName := ⟨RX10, "put", "(I)I"⟩
abbrev cX10_at : ByteArray := prog_1_method_13_code
def yX10_at : MethodName := ⟨RX10, "at", "(I)I"⟩
abbrev cX10_move : ByteArray := prog_1_method_14_code
def yX10_move : MethodName := ⟨RX10, "move", "(II)I"⟩
abbrev cX10_cost : ByteArray := prog_1_method_15_code
def yX10_cost : MethodName := ⟨RX10, "cost", "(I)I"⟩
abbrev cX10_where : ByteArray := prog_1_method_16_code
def yX10_where : MethodName := ⟨RX10, "where", "(I)I"⟩
abbrev cX10_lawful : ByteArray := prog_1_method_17_code
def yX10_lawful : MethodName := ⟨RX10, "lawful", "()I"⟩
abbrev cX10_least : ByteArray := prog_1_method_18_code
def yX10_least : MethodName := ⟨RX10, "least", "(I)I"⟩
abbrev cX10_many : ByteArray := prog_1_method_19_code
def yX10_many : MethodName := ⟨RX10, "many", "(I)I"⟩
abbrev cX10_best : ByteArray := prog_1_method_20_code
def yX10_best : MethodName := ⟨RX10, "best", "(II)I"⟩
abbrev cX10_number : ByteArray := prog_1_method_21_code
def yX10_number : MethodName := ⟨RX10, "number", "(I)I"⟩
abbrev cX10_better : ByteArray := prog_1_method_22_code
def yX10_better : MethodName := ⟨RX10, "better", "(II)I"⟩
abbrev cX10_wall : ByteArray := prog_1_method_23_code
def yX10_wall : MethodName := ⟨RX10, "wall", "(II)I"⟩
abbrev cX10_stone : ByteArray := prog_1_method_24_code
def yX10_stone : MethodName := ⟨RX10, "stone", "(II)I"⟩
abbrev cX10_bag : ByteArray := prog_1_method_25_code
def yX10_bag : MethodName := ⟨RX10, "bag", "(I)I"⟩
abbrev cX10_lay : ByteArray := prog_1_method_26_code
def yX10_lay : MethodName := ⟨RX10, "lay", "(I)I"⟩
abbrev cX10_empty : ByteArray := prog_1_method_27_code
def yX10_empty : MethodName := ⟨RX10, "empty", "()I"⟩
abbrev cX10_good : ByteArray := prog_1_method_28_code
def yX10_good : MethodName := ⟨RX10, "good", "()I"⟩
abbrev cX10_rowOf : ByteArray := prog_1_method_29_code
def yX10_rowOf : MethodName := ⟨RX10, "rowOf", "()I"⟩
abbrev cX10_hunt : ByteArray := prog_1_method_30_code
def yX10_hunt : MethodName := ⟨RX10, "hunt", "(I)I"⟩
abbrev cX10_calm : ByteArray := prog_1_method_31_code
def yX10_calm : MethodName := ⟨RX10, "calm", "()I"⟩
abbrev cX10_plan : ByteArray := prog_1_method_32_code
def yX10_plan : MethodName := ⟨RX10, "plan", "()I"⟩
abbrev cX10_clean : ByteArray := prog_1_method_33_code
def yX10_clean : MethodName := ⟨RX10, "clean", "(I)I"⟩
abbrev cX10_undo : ByteArray := prog_1_method_34_code
def yX10_undo : MethodName := ⟨RX10, "undo", "()I"⟩
abbrev cX10_count : ByteArray := prog_1_method_35_code
def yX10_count : MethodName := ⟨RX10, "count", "(I)I"⟩
abbrev cX10_holds : ByteArray := prog_1_method_36_code
def yX10_holds : MethodName := ⟨RX10, "holds", "(II)Z"⟩
abbrev cX10_isCost : ByteArray := prog_1_method_37_code
def yX10_isCost : MethodName := ⟨RX10, "isCost", "(I)Z"⟩
abbrev cX10_isBySpans : ByteArray := prog_1_method_38_code
def yX10_isBySpans : MethodName := ⟨RX10, "isBySpans", "(I)Z"⟩
abbrev cX10_heaviest : ByteArray := prog_1_method_39_code
def yX10_heaviest : MethodName := ⟨RX10, "heaviest", "(I)I"⟩
abbrev cX10_isWall : ByteArray := prog_1_method_40_code
def yX10_isWall : MethodName := ⟨RX10, "isWall", "(II)Z"⟩
abbrev cX10_refresh : ByteArray := prog_1_method_41_code
def yX10_refresh : MethodName := ⟨RX10, "refresh", "()V"⟩
abbrev cX10_refusalOfSearch : ByteArray := prog_1_method_42_code
def yX10_refusalOfSearch : MethodName := ⟨RX10, "refusalOfSearch", "(I)I"⟩
abbrev cX10_searchFor : ByteArray := prog_1_method_43_code
def yX10_searchFor : MethodName := ⟨RX10, "searchFor", "(I)LNarrowRows$Search;"⟩
abbrev cX10_improve : ByteArray := prog_1_method_44_code
def yX10_improve : MethodName := ⟨RX10, "improve", "(I)Z"⟩
abbrev cX10_costWithMove : ByteArray := prog_1_method_45_code
def yX10_costWithMove : MethodName := ⟨RX10, "costWithMove", "(III)I"⟩
abbrev cX10_plannedMoves : ByteArray := prog_1_method_46_code
def yX10_plannedMoves : MethodName := ⟨RX10, "plannedMoves", "()I"⟩
def RX11 : String := "NarrowRowsModel"
def TX11 : u_T := fun k => match k with
  | 0 => ("NarrowRowsModel", "thrown", "I", false)
  | 1 => ("NarrowRowsModel", "posts", "I", false)
  | 2 => ("NarrowRowsModel", "wide", "[I", true)
  | 3 => ("NarrowRowsModel", "places", "[I", true)
  | 4 => ("NarrowRowsModel", "weights", "[I", true)
  | 5 => ("NarrowRowsModel", "pairs", "I", false)
  | 6 => ("NarrowRowsModel", "pair", "[I", true)
  | 7 => ("NarrowRowsModel", "old", "[I", true)
  | 8 => ("NarrowRowsModel", "keptEnd", "I", false)
  | 9 => ("NarrowRowsModel", "kept", "I", false)
  | 10 => ("NarrowRowsModel", "many", "I", false)
  | 11 => ("NarrowRowsModel", "row", "[I", true)
  | 12 => ("NarrowRowsModel", "bags", "I", false)
  | 13 => ("NarrowRowsModel", "bag", "[I", true)
  | 14 => ("NarrowRowsModel", "moves", "I", false)
  | 15 => ("NarrowRowsModel", "hunt", "[I", true)
  | 16 => ("NarrowRowsModel", "pen", "I", false)
  | 17 => ("NarrowRowsModel", "behind", "[Z", true)
  | 18 => ("NarrowRowsModel", "least", "[I", true)
  | 19 => ("NarrowRowsModel", "ways", "[I", true)
  | 20 => ("NarrowRowsModel", "saved", "[I", true)
  | 21 => ("NarrowRowsModel", "savedMany", "I", false)
  | 22 => ("NarrowRowsModel", "leastRow", "I", false)
  | 23 => ("NarrowRowsModel", "bestRows", "I", false)
  | 24 => ("NarrowRowsModel", "askedRow", "I", false)
  | 25 => ("NarrowRowsModel", "kth", "[I", true)
  | 26 => ("NarrowRowsModel", "rankOfSaved", "I", false)
  | 27 => ("NarrowRowsModel", "wallSet", "I", false)
  | 28 => ("NarrowRowsModel", "clean", "[Z", true)
  | _ => ("NarrowRowsModel", "fouledAgain", "I", false)
def tyX11 : Nat → FieldType := fun k => match k with
  | 0 => .int
  | 1 => .int
  | 2 => .array .int
  | 3 => .array .int
  | 4 => .array .int
  | 5 => .int
  | 6 => .array .int
  | 7 => .array .int
  | 8 => .int
  | 9 => .int
  | 10 => .int
  | 11 => .array .int
  | 12 => .int
  | 13 => .array .int
  | 14 => .int
  | 15 => .array .int
  | 16 => .int
  | 17 => .array .boolean
  | 18 => .array .int
  | 19 => .array .int
  | 20 => .array .int
  | 21 => .int
  | 22 => .int
  | 23 => .int
  | 24 => .int
  | 25 => .array .int
  | 26 => .int
  | 27 => .int
  | 28 => .array .boolean
  | _ => .int
theorem nmX11 : ∀ a, a < 30 → ∀ b, b < 30 → a ≠ b → (TX11 a).2.1 ≠ (TX11 b).2.1 := by decide +kernel
theorem tyX11_ok : ∀ k, k < 30 → parseFieldDescriptor (TX11 k).2.2.1 = some (tyX11 k) := by decide +kernel
abbrev cX11_init : ByteArray := prog_13_method_1_code
def yX11_init : MethodName := ⟨RX11, "<init>", "()V"⟩
abbrev cX11_in : ByteArray := prog_13_method_3_code
def yX11_in : MethodName := ⟨RX11, "in", "(III)Z"⟩
abbrev cX11_write : ByteArray := prog_13_method_4_code
def yX11_write : MethodName := ⟨RX11, "write", "([II)V"⟩
abbrev cX11_read : ByteArray := prog_13_method_5_code
def yX11_read : MethodName := ⟨RX11, "read", "([II)V"⟩
abbrev cX11_keep : ByteArray := prog_13_method_6_code
def yX11_keep : MethodName := ⟨RX11, "keep", "()V"⟩
abbrev cX11_undo : ByteArray := prog_13_method_7_code
def yX11_undo : MethodName := ⟨RX11, "undo", "()I"⟩
abbrev cX11_isPost : ByteArray := prog_13_method_8_code
def yX11_isPost : MethodName := ⟨RX11, "isPost", "(I)Z"⟩
abbrev cX11_post : ByteArray := prog_13_method_9_code
def yX11_post : MethodName := ⟨RX11, "post", "()I"⟩
abbrev cX11_sheet : ByteArray := prog_13_method_10_code
def yX11_sheet : MethodName := ⟨RX11, "sheet", "(III)I"⟩
abbrev cX11_lose : ByteArray := prog_13_method_11_code
def yX11_lose : MethodName := ⟨RX11, "lose", "(I)I"⟩
abbrev cX11_weigh : ByteArray := prog_13_method_12_code
def yX11_weigh : MethodName := ⟨RX11, "weigh", "(III)I"⟩
abbrev cX11_copy : ByteArray := prog_13_method_13_code
def yX11_copy : MethodName := ⟨RX11, "copy", "(III)I"⟩
abbrev cX11_findBehind : ByteArray := prog_13_method_14_code
def yX11_findBehind : MethodName := ⟨RX11, "findBehind", "()V"⟩
abbrev cX11_pair : ByteArray := prog_13_method_15_code
def yX11_pair : MethodName := ⟨RX11, "pair", "(II)I"⟩
abbrev cX11_part : ByteArray := prog_13_method_16_code
def yX11_part : MethodName := ⟨RX11, "part", "(II)I"⟩
abbrev cX11_told : ByteArray := prog_13_method_17_code
def yX11_told : MethodName := ⟨RX11, "told", "(II)I"⟩
abbrev cX11_roadOf : ByteArray := prog_13_method_18_code
def yX11_roadOf : MethodName := ⟨RX11, "roadOf", "(II)I"⟩
abbrev cX11_road : ByteArray := prog_13_method_19_code
def yX11_road : MethodName := ⟨RX11, "road", "(II)I"⟩
abbrev cX11_about : ByteArray := prog_13_method_20_code
def yX11_about : MethodName := ⟨RX11, "about", "(II)I"⟩
abbrev cX11_has : ByteArray := prog_13_method_21_code
def yX11_has : MethodName := ⟨RX11, "has", "(II)Z"⟩
abbrev cX11_whole : ByteArray := prog_13_method_22_code
def yX11_whole : MethodName := ⟨RX11, "whole", "()I"⟩
abbrev cX11_cutOf : ByteArray := prog_13_method_23_code
def yX11_cutOf : MethodName := ⟨RX11, "cutOf", "(I)I"⟩
abbrev cX11_openSet : ByteArray := prog_13_method_24_code
def yX11_openSet : MethodName := ⟨RX11, "openSet", "(I)I"⟩
abbrev cX11_heldSet : ByteArray := prog_13_method_25_code
def yX11_heldSet : MethodName := ⟨RX11, "heldSet", "(I)I"⟩
abbrev cX11_sizeOf : ByteArray := prog_13_method_26_code
def yX11_sizeOf : MethodName := ⟨RX11, "sizeOf", "(I)I"⟩
abbrev cX11_costOfSet : ByteArray := prog_13_method_27_code
def yX11_costOfSet : MethodName := ⟨RX11, "costOfSet", "(II)I"⟩
abbrev cX11_begin : ByteArray := prog_13_method_28_code
def yX11_begin : MethodName := ⟨RX11, "begin", "()I"⟩
abbrev cX11_placeOf : ByteArray := prog_13_method_29_code
def yX11_placeOf : MethodName := ⟨RX11, "placeOf", "(I)I"⟩
abbrev cX11_put : ByteArray := prog_13_method_30_code
def yX11_put : MethodName := ⟨RX11, "put", "(I)I"⟩
abbrev cX11_at : ByteArray := prog_13_method_31_code
def yX11_at : MethodName := ⟨RX11, "at", "(I)I"⟩
abbrev cX11_shift : ByteArray := prog_13_method_32_code
def yX11_shift : MethodName := ⟨RX11, "shift", "(II)V"⟩
abbrev cX11_move : ByteArray := prog_13_method_33_code
def yX11_move : MethodName := ⟨RX11, "move", "(II)I"⟩
abbrev cX11_isWhole : ByteArray := prog_13_method_34_code
def yX11_isWhole : MethodName := ⟨RX11, "isWhole", "()Z"⟩
abbrev cX11_spanOf : ByteArray := prog_13_method_35_code
def yX11_spanOf : MethodName := ⟨RX11, "spanOf", "(IIZ)I"⟩
abbrev cX11_costOfRow : ByteArray := prog_13_method_36_code
def yX11_costOfRow : MethodName := ⟨RX11, "costOfRow", "(I)I"⟩
abbrev cX11_isCost : ByteArray := prog_13_method_37_code
def yX11_isCost : MethodName := ⟨RX11, "isCost", "(I)Z"⟩
abbrev cX11_cost : ByteArray := prog_13_method_38_code
def yX11_cost : MethodName := ⟨RX11, "cost", "(I)I"⟩
abbrev cX11_where : ByteArray := prog_13_method_39_code
def yX11_where : MethodName := ⟨RX11, "where", "(I)I"⟩
abbrev cX11_isLawful : ByteArray := prog_13_method_40_code
def yX11_isLawful : MethodName := ⟨RX11, "isLawful", "()Z"⟩
abbrev cX11_lawful : ByteArray := prog_13_method_41_code
def yX11_lawful : MethodName := ⟨RX11, "lawful", "()I"⟩
abbrev cX11_mayCome : ByteArray := prog_13_method_42_code
def yX11_mayCome : MethodName := ⟨RX11, "mayCome", "(II)Z"⟩
abbrev cX11_costBy : ByteArray := prog_13_method_43_code
def yX11_costBy : MethodName := ⟨RX11, "costBy", "(III)I"⟩
abbrev cX11_solveSets : ByteArray := prog_13_method_44_code
def yX11_solveSets : MethodName := ⟨RX11, "solveSets", "(I)V"⟩
abbrev cX11_goesOn : ByteArray := prog_13_method_45_code
def yX11_goesOn : MethodName := ⟨RX11, "goesOn", "(IIII)Z"⟩
abbrev cX11_save : ByteArray := prog_13_method_46_code
def yX11_save : MethodName := ⟨RX11, "save", "()V"⟩
abbrev cX11_restore : ByteArray := prog_13_method_47_code
def yX11_restore : MethodName := ⟨RX11, "restore", "()V"⟩
abbrev cX11_tryRows : ByteArray := prog_13_method_48_code
def yX11_tryRows : MethodName := ⟨RX11, "tryRows", "(IIZ)V"⟩
abbrev cX11_solveRows : ByteArray := prog_13_method_49_code
def yX11_solveRows : MethodName := ⟨RX11, "solveRows", "(II)V"⟩
abbrev cX11_isByRows : ByteArray := prog_13_method_50_code
def yX11_isByRows : MethodName := ⟨RX11, "isByRows", "(I)Z"⟩
abbrev cX11_isLarge : ByteArray := prog_13_method_51_code
def yX11_isLarge : MethodName := ⟨RX11, "isLarge", "(I)Z"⟩
abbrev cX11_leastBySets : ByteArray := prog_13_method_52_code
def yX11_leastBySets : MethodName := ⟨RX11, "leastBySets", "(I)I"⟩
abbrev cX11_least : ByteArray := prog_13_method_53_code
def yX11_least : MethodName := ⟨RX11, "least", "(I)I"⟩
abbrev cX11_many : ByteArray := prog_13_method_54_code
def yX11_many : MethodName := ⟨RX11, "many", "(I)I"⟩
abbrev cX11_best : ByteArray := prog_13_method_55_code
def yX11_best : MethodName := ⟨RX11, "best", "(II)I"⟩
abbrev cX11_number : ByteArray := prog_13_method_56_code
def yX11_number : MethodName := ⟨RX11, "number", "(I)I"⟩
abbrev cX11_betterOnce : ByteArray := prog_13_method_57_code
def yX11_betterOnce : MethodName := ⟨RX11, "betterOnce", "(I)Z"⟩
abbrev cX11_better : ByteArray := prog_13_method_58_code
def yX11_better : MethodName := ⟨RX11, "better", "(II)I"⟩
abbrev cX11_wallOf : ByteArray := prog_13_method_59_code
def yX11_wallOf : MethodName := ⟨RX11, "wallOf", "(II)I"⟩
abbrev cX11_isWall : ByteArray := prog_13_method_60_code
def yX11_isWall : MethodName := ⟨RX11, "isWall", "(II)Z"⟩
abbrev cX11_wall : ByteArray := prog_13_method_61_code
def yX11_wall : MethodName := ⟨RX11, "wall", "(II)I"⟩
abbrev cX11_stone : ByteArray := prog_13_method_62_code
def yX11_stone : MethodName := ⟨RX11, "stone", "(II)I"⟩
abbrev cX11_bagOf : ByteArray := prog_13_method_63_code
def yX11_bagOf : MethodName := ⟨RX11, "bagOf", "(I)I"⟩
abbrev cX11_bag : ByteArray := prog_13_method_64_code
def yX11_bag : MethodName := ⟨RX11, "bag", "(I)I"⟩
abbrev cX11_lay : ByteArray := prog_13_method_65_code
def yX11_lay : MethodName := ⟨RX11, "lay", "(I)I"⟩
abbrev cX11_empty : ByteArray := prog_13_method_66_code
def yX11_empty : MethodName := ⟨RX11, "empty", "()I"⟩
abbrev cX11_areTogether : ByteArray := prog_13_method_67_code
def yX11_areTogether : MethodName := ⟨RX11, "areTogether", "(II)Z"⟩
abbrev cX11_doFollow : ByteArray := prog_13_method_68_code
def yX11_doFollow : MethodName := ⟨RX11, "doFollow", "(I)Z"⟩
abbrev cX11_goodOf : ByteArray := prog_13_method_69_code
def yX11_goodOf : MethodName := ⟨RX11, "goodOf", "()I"⟩
abbrev cX11_good : ByteArray := prog_13_method_70_code
def yX11_good : MethodName := ⟨RX11, "good", "()I"⟩
abbrev cX11_rowOf : ByteArray := prog_13_method_71_code
def yX11_rowOf : MethodName := ⟨RX11, "rowOf", "()I"⟩
abbrev cX11_hunt : ByteArray := prog_13_method_72_code
def yX11_hunt : MethodName := ⟨RX11, "hunt", "(I)I"⟩
abbrev cX11_calm : ByteArray := prog_13_method_73_code
def yX11_calm : MethodName := ⟨RX11, "calm", "()I"⟩
abbrev cX11_plan : ByteArray := prog_13_method_74_code
def yX11_plan : MethodName := ⟨RX11, "plan", "()I"⟩
abbrev cX11_isFoulAt : ByteArray := prog_13_method_75_code
def yX11_isFoulAt : MethodName := ⟨RX11, "isFoulAt", "(II)Z"⟩
abbrev cX11_set : ByteArray := prog_13_method_76_code
def yX11_set : MethodName := ⟨RX11, "set", "(IIZ)V"⟩
abbrev cX11_search : ByteArray := prog_13_method_77_code
def yX11_search : MethodName := ⟨RX11, "search", "(I)V"⟩
abbrev cX11_clean : ByteArray := prog_13_method_78_code
def yX11_clean : MethodName := ⟨RX11, "clean", "(I)I"⟩
abbrev cX11_count : ByteArray := prog_13_method_79_code
def yX11_count : MethodName := ⟨RX11, "count", "(I)I"⟩
def RJ6 : String := "java/lang/Integer"
def TJ6 : u_T := fun k => match k with
  | _ => ("", "", "", false)
def tyJ6 : Nat → FieldType := fun k => match k with
  | _ => .int
abbrev cJ6_bitCount_0f7a4 : ByteArray := prog_14_method_49_code
def yJ6_bitCount_0f7a4 : MethodName := ⟨RJ6, "bitCount", "(I)I"⟩
def RJ9 : String := "java/lang/Math"
def TJ9 : u_T := fun k => match k with
  | _ => ("", "", "", false)
def tyJ9 : Nat → FieldType := fun k => match k with
  | _ => .int
abbrev cJ9_max_7cf53 : ByteArray := prog_15_method_65_code
def yJ9_max_7cf53 : MethodName := ⟨RJ9, "max", "(II)I"⟩
abbrev cJ9_min_7cf53 : ByteArray := prog_15_method_69_code
def yJ9_min_7cf53 : MethodName := ⟨RJ9, "min", "(II)I"⟩
def RJ10 : String := "java/lang/System"
def TJ10 : u_T := fun k => match k with
  | _ => ("", "", "", false)
def tyJ10 : Nat → FieldType := fun k => match k with
  | _ => .int
def RJ7 : String := "java/util/Arrays"
def TJ7 : u_T := fun k => match k with
  | _ => ("", "", "", false)
def tyJ7 : Nat → FieldType := fun k => match k with
  | _ => .int
abbrev cJ7_fill_53178 : ByteArray := prog_17_method_103_code
def yJ7_fill_53178 : MethodName := ⟨RJ7, "fill", "([II)V"⟩
def RL : String := "NarrowRowsLaw"
abbrev cL_law : ByteArray := code
abbrev vwCl : List vw_C := [(RX0, TX0, 2), (RX1, TX1, 7), (RX2, TX2, 1), (RX3, TX3, 3), (RX4, TX4, 6), (RX5, TX5, 2), (RX7, TX7, 9), (RX8, TX8, 7), (RX9, TX9, 7), (RX10, TX10, 10), (RX11, TX11, 30)]
